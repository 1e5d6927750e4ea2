/-! BOTH SIDES: the hall's questions -/
theorem nI_m1 {n : Nat} (h : n < 2 ^ 31) : (nI n - 1).toInt = (n : Int) - 1 := by
  rcases Nat.eq_zero_or_pos n with e | e
  · subst e; decide
  · rw [show (1 : Int32) = nI 1 from rfl, pk_sub e, nI_toInt (by omega)]
    omega
theorem nI_off {k n : Nat} (h : k ≤ n) (hn : n < 2 ^ 31) : ¬ ((nI k).toInt < 0 ∨ (n : Int) < (nI k).toInt) := by
  rw [nI_toInt (by omega)]
  omega
theorem nI_offL {k n : Nat} (h : k < n) (hn : n < 2 ^ 31) : ¬ ((nI k).toInt < 0 ∨ (n : Int) ≤ (nI k).toInt) := by
  rw [nI_toInt (by omega)]
  omega
theorem s_below {a : Int32} {n : Nat} {M : Mem} {post : Int32 → Mem → Prop} (hn : n < 2 ^ 31) (h1 : ∀ k, k < n → a = nI k → post 1 M) (h0 : (a.toInt < 0 ∨ (n : Int) ≤ a.toInt) → post 0 M) : qX6_within a.toInt64 0 (nI n - 1) M (fun r1 M2 => zb r1 ∧ post r1 M2) := by
  apply s_withinI
  · intro p q
    rw [nI_m1 hn] at q
    have p' : 0 ≤ a.toInt := p
    obtain ⟨k, hk, _, e⟩ := nat_of (a := a) (n := n - 1) p' (by omega)
    exact ⟨rfl, h1 k (by omega) e⟩
  · intro p
    rw [nI_m1 hn] at p
    refine ⟨rfl, h0 ?_⟩
    rcases p with p | p
    · exact Or.inl p
    · exact Or.inr (by omega)
theorem s_hasAsk {A : Abs} {M : Mem} {a : Int32} (hR : HR A) (hC : HC0 A M) {post : Int32 → Mem → Prop} (h1 : ∀ k, k < A 0 1 → a = nI k → post 1 M) (h0 : (a.toInt < 0 ∨ (A 0 1 : Int) ≤ a.toInt) → post 0 M) : qX1_hasAsk a M post := by
  unfold qX1_hasAsk
  rw [hC.2.1]
  exact s_below (by have := hR.2.1; omega) h1 h0
theorem s_hasMachine {A : Abs} {M : Mem} {a : Int32} (hR : HR A) (hC : HC0 A M) {post : Int32 → Mem → Prop} (h1 : ∀ k, k < A 0 0 → a = nI k → post 1 M) (h0 : (a.toInt < 0 ∨ (A 0 0 : Int) ≤ a.toInt) → post 0 M) : qX1_hasMachine a M post := by
  unfold qX1_hasMachine
  rw [hC.1]
  exact s_below (by have := hR.1; omega) h1 h0
theorem st_eq {M N : Mem} {v : Int32} : (sA M 0 5 v).1 0 5 = (sA N 0 0 v).1 0 0 := by rw [sA_g, sA_g, if_pos ⟨rfl, rfl⟩, if_pos ⟨rfl, rfl⟩]
/-- the end of a question that was answered -/
theorem Rel.ans {A : Abs} {M M' N N' : Mem} (hA : RelA A M N) (hC : HC A M') (e : CE M M') (f : NE N N') (v : Int32) : Rel (sA M' 0 5 v) (sA N' 0 0 v) := Rel.q hA (hC.st v) (e.tr (CE.st _ _)) (f.tr (NE.st _ _)) st_eq
theorem hk_status (M N : Mem) (h : Rel M N) : qX6_status M (fun r M => qX7_status N (fun r2 N => r = r2 ∧ Rel M N)) := ⟨h.1, h⟩
theorem hk_none (M N : Mem) (h : Rel M N) : qX6_none M (fun r M => qX7_none N (fun r2 N => r = r2 ∧ Rel M N)) := by
  obtain ⟨_, A, hA⟩ := h
  rintro _ rfl
  refine ⟨rfl, ?_⟩
  rintro _ rfl
  refine ⟨fun _ => ⟨rfl, rfl, Rel.no hA 8⟩, fun e => absurd e (by decide)⟩
theorem hk_fits (M N : Mem) (h : Rel M N) (a b : Int32) : qX6_fits a b M (fun r M => qX7_fits a b N (fun r2 N => r = r2 ∧ Rel M N)) := by
  obtain ⟨_, A, hA⟩ := h
  have hR := hA.2.1
  have hC := hA.2.2.1
  have hN := hA.2.2.2.1
  unfold qX6_fits
  refine s_isHour (fun h hh ea => ?_) (fun ha => ?_)
  · subst ea
    refine b1_e (s_isFall (fun f hf eb => ?_) (fun hb => ?_))
    · subst eb
      refine b1_n (s_standing hR hC.1 hf (s_holds hR hC (stA_lt A f) hh (fun hc M' hC' hE => ?_) (fun hc M' hC' hE => ?_)))
      · refine b1_e ?_
        rintro _ rfl
        refine r_fits hR hN hf hh (fun N' hE' => ?_)
        rw [bI_t hc]
        exact ⟨rfl, Rel.ans hA hC' hE.ce hE'.ne 0⟩
      · refine b0_e ?_
        rintro _ rfl
        refine r_fits hR hN hf hh (fun N' hE' => ?_)
        rw [bI_f hc]
        exact ⟨rfl, Rel.ans hA hC' hE.ce hE'.ne 0⟩
    · refine b0_n ?_
      rintro _ rfl
      unfold qX7_fits
      refine r_isHour (fun _ _ _ => b1_e (r_isFall (fun f hf eb => ?_) (fun _ => b0_n ?_))) (fun ha => absurd ha (nI_off (n := 23) (by omega) (by omega)))
      · subst eb; exact absurd hb (nI_off (n := 16) hf (by omega))
      · rintro _ rfl
        exact ⟨rfl, Rel.no hA 1⟩
  · refine b0_e ?_
    rintro _ rfl
    unfold qX7_fits
    refine r_isHour (fun h hh ea => ?_) (fun _ => b0_e ?_)
    · subst ea; exact absurd ha (nI_off (n := 23) (by omega) (by omega))
    · rintro _ rfl
      exact ⟨rfl, Rel.no hA 1⟩
theorem hk_lack (M N : Mem) (h : Rel M N) (a b : Int32) : qX6_lack a b M (fun r M => qX7_lack a b N (fun r2 N => r = r2 ∧ Rel M N)) := by
  obtain ⟨_, A, hA⟩ := h
  have hR := hA.2.1
  have hC := hA.2.2.1
  have hN := hA.2.2.2.1
  unfold qX6_lack
  refine s_isHour (fun h hh ea => ?_) (fun ha => ?_)
  · subst ea
    refine b1_e (s_isFall (fun f hf eb => ?_) (fun hb => ?_))
    · subst eb
      refine b1_n (s_standing hR hC.1 hf (s_lacking hR hC (stA_lt A f) hh (fun M' hC' hE => ?_)))
      rintro _ rfl
      refine r_lack hR hN hf hh (fun N' hE' => ?_)
      exact ⟨rfl, Rel.ans hA hC' hE.ce hE'.ne 0⟩
    · refine b0_n ?_
      rintro _ rfl
      intro R42 h42
      refine r_isHour (fun _ _ _ => b1_e (r_isFall (fun f hf eb => ?_) (fun _ => b0_n ?_))) (fun ha => absurd ha (nI_off (n := 23) (by omega) (by omega)))
      · subst eb; exact absurd hb (nI_off (n := 16) hf (by omega))
      · rintro _ rfl
        exact ⟨rfl, Rel.no hA 1⟩
  · refine b0_e ?_
    rintro _ rfl
    intro R42 h42
    refine r_isHour (fun h hh ea => ?_) (fun _ => b0_e ?_)
    · subst ea; exact absurd ha (nI_off (n := 23) (by omega) (by omega))
    · rintro _ rfl
      exact ⟨rfl, Rel.no hA 1⟩
theorem hk_left (M N : Mem) (h : Rel M N) (a b : Int32) : qX6_left a b M (fun r M => qX7_left a b N (fun r2 N => r = r2 ∧ Rel M N)) := by
  obtain ⟨_, A, hA⟩ := h
  have hR := hA.2.1
  have hC := hA.2.2.1
  have hN := hA.2.2.2.1
  unfold qX6_left
  refine s_isHour (fun h hh ea => ?_) (fun ha => ?_)
  · subst ea
    refine b1_e (s_isFall (fun f hf eb => ?_) (fun hb => ?_))
    · subst eb
      refine b1_n (s_standing hR hC.1 hf (s_leftOver hR hC (stA_lt A f) hh (fun M' hC' hE => ?_)))
      rintro _ rfl
      refine r_left hR hN hf hh (fun N' hE' => ?_)
      exact ⟨rfl, Rel.ans hA hC' hE.ce hE'.ne 0⟩
    · refine b0_n ?_
      rintro _ rfl
      unfold qX7_left
      refine r_isHour (fun _ _ _ => b1_e (r_isFall (fun f hf eb => ?_) (fun _ => b0_n ?_))) (fun ha => absurd ha (nI_off (n := 23) (by omega) (by omega)))
      · subst eb; exact absurd hb (nI_off (n := 16) hf (by omega))
      · rintro _ rfl
        exact ⟨rfl, Rel.no hA 1⟩
  · refine b0_e ?_
    rintro _ rfl
    unfold qX7_left
    refine r_isHour (fun h hh ea => ?_) (fun _ => b0_e ?_)
    · subst ea; exact absurd ha (nI_off (n := 23) (by omega) (by omega))
    · rintro _ rfl
      exact ⟨rfl, Rel.no hA 1⟩
theorem hk_enough (M N : Mem) (h : Rel M N) (a : Int32) : qX6_enough a M (fun r M => qX7_enough a N (fun r2 N => r = r2 ∧ Rel M N)) := by
  obtain ⟨_, A, hA⟩ := h
  have hR := hA.2.1
  have hC := hA.2.2.1
  have hN := hA.2.2.2.1
  unfold qX6_enough
  refine s_withinI (fun p q => ?_) (fun hb => ?_)
  · obtain ⟨d, hd, _, e⟩ := nat_of (n := 2) p q
    subst e
    refine b1_n (s_firstUnfit hR hC hd (fun M' hC' hE => ?_))
    rintro _ rfl
    refine r_enough hR hN hd (fun N' hE' => ?_)
    refine ⟨rfl, Rel.q hA (hC'.st 0) (hE.ce.tr (CE.st _ _)) ((NE.st N 0).tr hE'.ne) ?_⟩
    rw [hE'.2 0 (by decide) (by decide) (by decide)]
    exact st_eq
  · refine b0_n ?_
    rintro _ rfl
    intro R28 R60 R84 _ _ _
    have e0 : (0 : Int32).toInt = 0 := rfl
    have e2 : (2 : Int32).toInt = 2 := rfl
    rw [e0, e2] at hb
    rw [Int32.lt_iff_toInt_lt, Int32.le_iff_toInt_le, e0, e2]
    refine ⟨fun _ => ?_, fun h1 => ⟨fun h2 => by omega, fun _ => ?_⟩⟩
    · rintro _ rfl
      exact ⟨rfl, Rel.no hA 1⟩
    · rintro _ rfl
      exact ⟨rfl, Rel.no hA 1⟩
theorem hk_on (M N : Mem) (h : Rel M N) (a b c : Int32) : qX6_on a b c M (fun r M => qX7_on a b c N (fun r2 N => r = r2 ∧ Rel M N)) := by
  obtain ⟨_, A, hA⟩ := h
  have hR := hA.2.1
  have hC := hA.2.2.1
  have hN := hA.2.2.2.1
  have h10 := pw10 hR
  have hna := hR.2.1
  unfold qX6_on
  refine s_isHour (fun h hh ea => ?_) (fun ha => ?_)
  · subst ea
    have hso := soA_lt A h
    refine b1_e (s_isFall (fun f hf eb => ?_) (fun hb => ?_))
    · subst eb
      refine b1_e (s_hasAsk hR hC.1 (fun k hk ec => ?_) (fun hc => ?_))
      · subst ec
        refine b1_e ?_
        unfold qX1_isAskOf
        have hv : M.1 16 h = nI (soA A h) := hC.1.2.2.2.2.2.2.2.1 h hh
        rw [nI_clamp (show h < 2 ^ 31 by omega), hv]
        refine ⟨vp_in_nI (by omega) (by omega), s_has (by omega) (by omega) (fun hbit => ⟨rfl, b1_n ?_⟩) (fun hbit => ⟨rfl, b0_n ?_⟩)⟩
        · refine s_standing hR hC.1 hf (s_holds hR hC (stA_lt A f) hh (fun hcan M' hC' hE => b1_n ?_) (fun hcan M' hC' hE => b0_n ?_))
          · refine s_standing hR hC'.1 hf (s_laying hR hC' (stA_lt A f) hh hk (fun M'' hC'' hE'' => ?_))
            rintro _ rfl
            refine r_on hR hN hf hh hk (fun hbit' => ?_) (fun _ hcan' => ?_) (fun _ _ N' hE' => ?_)
            · rw [hbit] at hbit'; exact absurd hbit' (by decide)
            · exact absurd hcan hcan'
            · exact ⟨rfl, Rel.ans hA hC'' (hE.tr hE'').ce hE'.ne 0⟩
          · rintro _ rfl
            refine r_on hR hN hf hh hk (fun hbit' => ?_) (fun _ hcan' N' hE' => ?_) (fun _ hcan' N' hE' => ?_)
            · rw [hbit] at hbit'; exact absurd hbit' (by decide)
            · exact ⟨rfl, Rel.ans hA hC' hE.ce hE'.ne 6⟩
            · exact absurd hcan' hcan
        · rintro _ rfl
          refine r_on hR hN hf hh hk (fun hbit' => ?_) (fun hbit' _ => ?_) (fun hbit' _ => ?_)
          · exact ⟨rfl, Rel.no hA 1⟩
          · rw [hbit] at hbit'; exact absurd hbit' (by decide)
          · rw [hbit] at hbit'; exact absurd hbit' (by decide)
      · refine b0_e ?_
        rintro _ rfl
        intro R77 R103 R157 R169 _ _ _ _
        refine r_isHour (fun _ _ _ => b1_e (r_isFall (fun _ _ _ => b1_e (r_isAsk hR hN (fun k hk ec => ?_) (fun _ => b0_e ?_))) (fun hb => absurd hb (nI_off (n := 16) (by omega) (by omega))))) (fun ha => absurd ha (nI_off (n := 23) (by omega) (by omega)))
        · subst ec; exact absurd hc (nI_offL hk (by omega))
        · rintro _ rfl
          exact ⟨rfl, Rel.no hA 1⟩
    · refine b0_e ?_
      rintro _ rfl
      intro R77 R103 R157 R169 _ _ _ _
      refine r_isHour (fun _ _ _ => b1_e (r_isFall (fun f hf eb => ?_) (fun _ => b0_e ?_))) (fun ha => absurd ha (nI_off (n := 23) (by omega) (by omega)))
      · subst eb; exact absurd hb (nI_off (n := 16) hf (by omega))
      · rintro _ rfl
        exact ⟨rfl, Rel.no hA 1⟩
  · refine b0_e ?_
    rintro _ rfl
    intro R77 R103 R157 R169 _ _ _ _
    refine r_isHour (fun h hh ea => ?_) (fun _ => b0_e ?_)
    · subst ea; exact absurd ha (nI_off (n := 23) (by omega) (by omega))
    · rintro _ rfl
      exact ⟨rfl, Rel.no hA 1⟩
theorem nI_iff {a : Int32} {n : Nat} (hn : n < 2 ^ 31) : a = nI n ↔ a.toInt = (n : Int) := by
  rw [← Int32.toInt_inj, nI_toInt hn]
theorem hk_count (M N : Mem) (h : Rel M N) (a : Int32) : qX6_count a M (fun r M => qX7_count a N (fun r2 N => r = r2 ∧ Rel M N)) := by
  obtain ⟨_, A, hA⟩ := h
  have hR := hA.2.1
  have hC := hA.2.2.1
  have hN := hA.2.2.2.1
  have hw := stA_lt A 0
  have h12 := pw12 hR
  have g : ∀ j, j ≠ 0 → (sA N 0 0 0).1 0 j = N.1 0 j := fun j hj => by rw [sA_g, if_neg (by omega)]
  unfold qX6_count qX7_count
  rw [show (0 : Int32) = nI 0 from rfl, show (1 : Int32) = nI 1 from rfl, show (2 : Int32) = nI 2 from rfl, show (3 : Int32) = nI 3 from rfl, show (4 : Int32) = nI 4 from rfl]
  rw [Int32.lt_iff_toInt_lt, Int32.le_iff_toInt_le]
  simp only [nI_iff (a := a) (n := 0) (by omega), nI_iff (a := a) (n := 1) (by omega), nI_iff (a := a) (n := 2) (by omega), nI_iff (a := a) (n := 3) (by omega)]
  rw [nI_toInt (by omega), nI_toInt (by omega)]
  have fin : Rel (sA M 0 5 0) (sA N 0 0 0) := Rel.no hA 0
  refine ⟨fun h1 => ?_, fun h1 => ?_, fun h1 => ?_, fun h1 => ?_, fun h1 => ?_, fun h1 => ?_⟩
  · rintro _ rfl
    refine ⟨fun h2 => by omega, fun h2 => ⟨fun h3 => ?_, fun h3 => by omega⟩⟩
    rintro _ rfl
    refine ⟨fun h4 => absurd h1 h4, fun _ => ⟨?_, fin⟩⟩
    rw [hC.1.1]
    exact ((g 4 (by decide)).trans hN.1).symm
  · rintro _ rfl
    refine ⟨fun h2 => by omega, fun h2 => ⟨fun h3 => ?_, fun h3 => by omega⟩⟩
    rintro _ rfl
    refine ⟨fun h4 => ⟨fun h5 => absurd h1 h5, fun _ => ⟨?_, fin⟩⟩, fun h4 => by omega⟩
    show M.1 11 1 = _
    rw [hC.1.2.1]
    exact (hN.2.1).symm
  · rintro _ rfl
    refine ⟨fun h2 => by omega, fun h2 => ⟨fun h3 => ?_, fun h3 => by omega⟩⟩
    rintro _ rfl
    refine ⟨fun h4 => ⟨fun h5 => ⟨fun h6 => absurd h1 h6, fun _ => ⟨?_, fin⟩⟩, fun h5 => by omega⟩, fun h4 => by omega⟩
    show M.1 21 0 = _
    rw [hA.2.2.2.2.2.1.1.1]
    exact (hA.2.2.2.2.2.2.1.1).symm
  · rintro _ rfl
    refine ⟨fun h2 => by omega, fun h2 => ⟨fun h3 => ?_, fun h3 => by omega⟩⟩
    rintro _ rfl
    refine ⟨fun h4 => ⟨fun h5 => ⟨fun h6 => ⟨fun h7 => absurd h1 h7, fun _ => ⟨?_, fin⟩⟩, fun h6 => by omega⟩, fun h5 => by omega⟩, fun h4 => by omega⟩
    show M.1 75 0 = _
    rw [hA.2.2.2.2.2.2.2.2.1.1.1]
    exact (hA.2.2.2.2.2.2.2.2.2.1).symm
  · refine s_standing (f := 0) hR hC.1 (by omega) (s_sizeOf hR hC.1 (by omega) ?_)
    rintro _ rfl
    refine ⟨fun h2 => by omega, fun h2 => ⟨fun h3 => ?_, fun h3 => by omega⟩⟩
    rintro _ rfl
    refine ⟨fun h4 => ⟨fun h5 => ⟨fun h6 => ⟨fun h7 => ?_, fun h7 => by omega⟩, fun h6 => by omega⟩, fun h5 => by omega⟩, fun h4 => by omega⟩
    exact r_sizes (f := 0) hR (hN.ne (NE.st N 0)) (by omega) ⟨rfl, fin⟩
  · rintro _ rfl
    refine ⟨fun h2 => ?_, fun h2 => ⟨fun h3 => by omega, fun h3 => ?_⟩⟩
    · rintro _ rfl
      exact ⟨rfl, Rel.no hA 1⟩
    · rintro _ rfl
      exact ⟨rfl, Rel.no hA 1⟩

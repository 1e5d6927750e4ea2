/-! SHEETS -/
def cutV (v : Int64) (s : Int32) : Int64 := if s = 0 then ((v.toInt32).toInt8.toInt32).toInt64 else if s = 1 then ((v.toInt32).toInt16.toInt32).toInt64 else if s = 2 then (v.toInt32).toInt64 else v
theorem s_cut {v : Int64} {s : Int32} {M : Mem} {post : Int64 → Mem → Prop} (h : post (cutV v s) M) : qX4_cut v s M post := by
  have e : ∀ k : Int32, s.toInt = k.toInt → s = k := fun k hk => Int32.toInt_inj.mp hk
  unfold cutV at h
  refine ⟨fun q => ?_, fun q => ?_, fun q => ?_, fun q => ?_⟩
  · have e0 := e 0 q
    subst e0
    rwa [if_pos rfl] at h
  · have e0 := e 1 q
    subst e0
    rwa [if_neg (by decide), if_pos rfl] at h
  · have e0 := e 2 q
    subst e0
    rwa [if_neg (by decide), if_neg (by decide), if_pos rfl] at h
  · have n0 : ¬ s = 0 := fun e => by subst e; exact absurd q (by decide)
    have n1 : ¬ s = 1 := fun e => by subst e; exact absurd q (by decide)
    have n2 : ¬ s = 2 := fun e => by subst e; exact absurd q (by decide)
    rwa [if_neg n0, if_neg n1, if_neg n2] at h
theorem r_cut {v : Int64} {s : Int32} {M : Mem} {post : Int64 → Mem → Prop} (h : post (cutV v s) M) : qX7_cut v s M post := by
  unfold cutV at h
  refine ⟨fun q => ⟨fun q1 => ⟨fun q2 => ?_, fun q2 => ?_⟩, fun q1 => ?_⟩, fun q => ?_⟩
  · rwa [if_neg q, if_neg q1, if_neg q2] at h
  · rwa [if_neg q, if_neg q1, if_pos q2] at h
  · rwa [if_neg q, if_pos q1] at h
  · rwa [if_pos q] at h
def SL (f : Nat → Int32) : Prop := ∀ s, s < 6 → f s = -1 ∨ ∃ n, n ≤ 64 ∧ f s = nI n
theorem RS.c {M N : Mem} (h : RS M N) : SL (M.1 10) := fun s hs => (h s hs).2.2.elim Or.inl (fun ⟨n, h1, h2, _⟩ => Or.inr ⟨n, h1, h2⟩)
theorem RS.n {M N : Mem} (h : RS M N) : SL (N.1 2) := fun s hs => by
  rw [← (h s hs).2.1]
  exact h.c s hs
theorem nI_nm1 {n : Nat} (h : n < 2 ^ 31) : ¬ nI n = -1 := fun e => by
  have q := congrArg Int32.toInt e
  rw [nI_toInt h, show (-1 : Int32).toInt = -1 from rfl] at q
  omega
theorem ix64 (s j : Nat) : (64 : Int32) * nI s + nI j = nI (64 * s + j) := by
  rw [show (64 : Int32) = nI 64 from rfl, pk_mul, nI_add]
theorem s_isNumber {a : Int32} {M : Mem} {post : Int32 → Mem → Prop} (h1 : ∀ s, s < 6 → a = nI s → post 1 M) (h0 : (a.toInt < 0 ∨ 5 < a.toInt) → post 0 M) : qX4_isNumber a M post := by
  apply s_withinI
  · intro p q
    obtain ⟨k, hk, _, e⟩ := nat_of (n := 5) p q
    exact ⟨rfl, h1 k (by omega) e⟩
  · intro p
    exact ⟨rfl, h0 p⟩
theorem r_isSheet {a : Int32} {M : Mem} {post : Int32 → Mem → Prop} (h1 : ∀ s, s < 6 → a = nI s → post 1 M) (h0 : (a.toInt < 0 ∨ 5 < a.toInt) → post 0 M) : qX7_isSheet a M post := by
  unfold qX7_isSheet
  rw [Int32.lt_iff_toInt_lt, Int32.le_iff_toInt_le, Int32.toInt_zero, show (6 : Int32).toInt = 6 from rfl]
  refine ⟨fun h => h0 (Or.inl h), fun h => ⟨fun h2 => h0 (Or.inr (by omega)), fun h2 => ?_⟩⟩
  obtain ⟨k, hk, _, e⟩ := nat_of (a := a) (n := 5) (by omega) (by omega)
  exact h1 k (by omega) e
theorem s_isMissing {s : Nat} {M : Mem} (hS : SL (M.1 10)) (hs : s < 6) {post : Int32 → Mem → Prop} (h1 : M.1 10 s = -1 → post 1 M) (h0 : ∀ n, n ≤ 64 → M.1 10 s = nI n → post 0 M) : qX4_isMissing (nI s) M post := by
  unfold qX4_isMissing
  rw [nI_clamp (show s < 2 ^ 31 by omega)]
  refine ⟨vp_in_nI hs (by omega), fun hne => ?_, fun he => h1 he⟩
  rcases hS s hs with e | ⟨n, hn, e⟩
  · exact absurd e hne
  · exact h0 n hn e
theorem s_why {a p : Int32} {M : Mem} (hS : SL (M.1 10)) {post : Int32 → Mem → Prop} (h1 : (a.toInt < 0 ∨ 5 < a.toInt) → post 1 M) (h2 : ∀ s, s < 6 → a = nI s → M.1 10 s = -1 → post 2 M)
    (h3 : ∀ s n, s < 6 → a = nI s → M.1 10 s = nI n → n ≤ 64 → (p.toInt < 0 ∨ (n : Int) ≤ p.toInt) → post 3 M) (h0 : ∀ s n j, s < 6 → a = nI s → M.1 10 s = nI n → n ≤ 64 → j < n → p = nI j → post 0 M) : qX4_whyNoPlace a p M post := by
  unfold qX4_whyNoPlace
  refine s_isNumber (fun s hs ea => b1_n ?_) (fun h => b0_n (h1 h))
  subst ea
  refine s_isMissing hS hs (fun he => b1_e (h2 s hs rfl he)) (fun n hn e => b0_e ?_)
  rw [nI_clamp (show s < 2 ^ 31 by omega), e]
  refine ⟨vp_in_nI hs (by omega), s_withinI (fun p1 q1 => b1_e ?_) (fun hx => b0_e ?_)⟩
  · rw [nI_m1 (by omega)] at q1
    have p1' : 0 ≤ p.toInt := p1
    obtain ⟨j, hj, _, ej⟩ := nat_of (a := p) (n := n - 1) p1' (by omega)
    exact h0 s n j hs rfl e hn (by omega) ej
  · rw [nI_m1 (by omega)] at hx
    refine h3 s n hs rfl e hn ?_
    rcases hx with hx | hx
    · exact Or.inl hx
    · exact Or.inr (by omega)
theorem r_wrong {a p : Int32} {N : Mem} (hS : SL (N.1 2)) {post : Int32 → Mem → Prop} (h1 : (a.toInt < 0 ∨ 5 < a.toInt) → post 1 N) (h2 : ∀ s, s < 6 → a = nI s → N.1 2 s = -1 → post 2 N)
    (h3 : ∀ s n, s < 6 → a = nI s → N.1 2 s = nI n → n ≤ 64 → (p.toInt < 0 ∨ (n : Int) ≤ p.toInt) → post 3 N) (h0 : ∀ s n j, s < 6 → a = nI s → N.1 2 s = nI n → n ≤ 64 → j < n → p = nI j → post 0 N) : qX7_wrong a p N post := by
  unfold qX7_wrong
  refine r_isSheet (fun s hs ea => b1_n ?_) (fun h => b0_n (h1 h))
  subst ea
  rw [nI_clamp (show s < 2 ^ 31 by omega)]
  refine ⟨vp_in_nI hs (by omega), fun hne => ?_, fun he => h2 s hs rfl he⟩
  rcases hS s hs with e | ⟨n, hn, e⟩
  · exact absurd e hne
  rw [e, Int32.lt_iff_toInt_lt, Int32.lt_iff_toInt_lt, nI_toInt (by omega), Int32.toInt_zero]
  refine ⟨fun h => h3 s n hs rfl e hn (Or.inl h), fun h => ⟨vp_in_nI hs (by omega), fun hl => ?_, fun hl => h3 s n hs rfl e hn (Or.inr (by omega))⟩⟩
  obtain ⟨j, hj, _, ej⟩ := nat_of (a := p) (n := n - 1) (by omega) (by omega)
  exact h0 s n j hs rfl e hn (by omega) ej
theorem HN.sh {A : Abs} {N N' : Mem} (h : HN A N) (q : ∀ k, k ≠ 0 → k ≠ 1 → k ≠ 2 → N'.1 k = N.1 k) (q0 : ∀ j, 1 ≤ j → N'.1 0 j = N.1 0 j) : HN A N' := by
  unfold HN
  rw [q0 4 (by decide), q0 5 (by decide), q 4 (by decide) (by decide) (by decide), q 5 (by decide) (by decide) (by decide), q 6 (by decide) (by decide) (by decide), q 7 (by decide) (by decide) (by decide), q 8 (by decide) (by decide) (by decide), q 9 (by decide) (by decide) (by decide), q 10 (by decide) (by decide) (by decide)]
  exact h
theorem HC.sh {A : Abs} {M M' : Mem} (h : HC A M) (r : ∀ k, 11 ≤ k → k ≤ 20 → M'.1 k = M.1 k) : HC A M' := by
  unfold HC HC0 HT LF
  rw [r 11 (by decide) (by decide), r 12 (by decide) (by decide), r 13 (by decide) (by decide), r 14 (by decide) (by decide), r 15 (by decide) (by decide), r 16 (by decide) (by decide), r 17 (by decide) (by decide), r 18 (by decide) (by decide), r 19 (by decide) (by decide), r 20 (by decide) (by decide)]
  exact h
theorem PE.rf (A : Abs) : PE A A := ⟨rfl, rfl, rfl, rfl, rfl⟩
theorem KE.rf (A : Abs) : KE A A := ⟨rfl, rfl, fun _ _ => rfl⟩
theorem RelA.sh {A : Abs} {M N M' N' : Mem} (h : RelA A M N) (hS : RS M' N') (r : ∀ k, k ≠ 0 → k ≠ 9 → k ≠ 10 → M'.1 k = M.1 k) (q : ∀ k, k ≠ 0 → k ≠ 1 → k ≠ 2 → N'.1 k = N.1 k) (q0 : ∀ j, 1 ≤ j → N'.1 0 j = N.1 0 j) : RelA A M' N' := by
  obtain ⟨_, h2, h3, h4, h5, h6, h7, h8, h9, h10⟩ := h
  refine ⟨hS, h2, h3.sh (fun k _ _ => r k (by omega) (by omega) (by omega)), h4.sh q q0, h5, ⟨h6.1.fr (PE.rf A) (by rw [r 21 (by decide) (by decide) (by decide)]) (fun k _ _ => r k (by omega) (by omega) (by omega)), h6.2.1.fr (PE.rf A) (fun k _ _ => r k (by omega) (by omega) (by omega)), h6.2.2.fr h5 (PE.rf A) (Nat.le_refl _) (fun _ _ => rfl) (fun k _ _ => r k (by omega) (by omega) (by omega))⟩, h7.fr (PE.rf A) (q0 6 (by decide)) (fun k _ _ => q k (by omega) (by omega) (by omega)), h8, h9.fr (KE.rf A) (fun k _ => r k (by omega) (by omega) (by omega)), h10.fr (KE.rf A) (q0 7 (by decide)) (q0 40 (by decide)) (fun k _ _ => q k (by omega) (by omega) (by omega))⟩
def badS (a b c : Int32) : Prop := a.toInt < 0 ∨ 5 < a.toInt ∨ b.toInt < 0 ∨ 3 < b.toInt ∨ c.toInt < 0 ∨ 64 < c.toInt
def zer (f : Nat → Int64) (a b : Nat) : Nat → Int64 := fun j => if a ≤ j ∧ j < b then 0 else f j
theorem r_sheet {a b c : Int32} {N : Mem} {post : Int32 → Mem → Prop} (h0 : badS a b c → post 0 (sA N 0 0 1))
    (h1 : ∀ s n, s < 6 → n ≤ 64 → a = nI s → c = nI n → 0 ≤ b.toInt → b.toInt ≤ 3 → post 1 (sA (sBr (sA (sA N 1 s b) 2 s c) 3 (zer (N.2 3) (64 * s) (64 * s + n))) 0 0 0)) : qX7_sheet a b c N post := by
  intro R26 R49 h26 h49
  have no : badS a b c → R26 N := fun hb => h26 N (is_no (by decide) (h0 hb))
  refine r_isSheet (fun s hs ea => b1_e ?_) (fun h => b0_e (no (by unfold badS; omega)))
  rw [Int32.lt_iff_toInt_lt, Int32.lt_iff_toInt_lt, Int32.lt_iff_toInt_lt, Int32.le_iff_toInt_le, Int32.toInt_zero, show (3 : Int32).toInt = 3 from rfl, show (64 : Int32).toInt = 64 from rfl]
  refine ⟨fun h => no (by unfold badS; omega), fun p1 => ⟨fun h => no (by unfold badS; omega), fun p2 => ⟨fun h => no (by unfold badS; omega), fun p3 => ⟨fun p4 => ?_, fun h => no (by unfold badS; omega)⟩⟩⟩⟩
  obtain ⟨n, hn, _, ec⟩ := nat_of (a := c) (n := 64) (by omega) p4
  have fin := h1 s n hs hn ea ec (by omega) (by omega)
  subst ea ec
  rw [nI_clamp (show s < 2 ^ 31 by omega)]
  refine ⟨vp_in_nI hs (by omega), ?_⟩
  rintro _ rfl
  refine ⟨vp_in_nI hs (by omega), ?_⟩
  rintro _ rfl
  have key : ∀ i, i ≤ n → R49 (nI i) (sBr (sA (sA N 1 s b) 2 s (nI n)) 3 (zer (N.2 3) (64 * s) (64 * s + i))) := by
    refine up_to ?_ (fun i hi hp => ?_)
    · apply h49
      exact ⟨fun _ => is_yes fin, fun h => absurd (nI_le (Nat.le_refl _) (by omega)) h⟩
    · apply h49
      refine ⟨fun h => absurd h (nI_ge hi (by omega)), fun _ => ?_⟩
      rw [ix64, nI_clamp (show 64 * s + i < 2 ^ 31 by omega)]
      refine ⟨vp_in_nI (by omega) (by omega), ?_⟩
      rintro _ rfl _ rfl
      rw [nI_1, sBr_up]
      have e : vp_updL (zer (N.2 3) (64 * s) (64 * s + i)) (64 * s + i) 0 = zer (N.2 3) (64 * s) (64 * s + (i + 1)) := updL_below (f := N.2 3) (a := 64 * s) (i := 64 * s + i) (v := 0) (by omega)
      rw [e]
      exact hp
  have h00 := key 0 (Nat.zero_le _)
  have e : zer (N.2 3) (64 * s) (64 * s + 0) = N.2 3 := fill_nil
  rw [e, show sBr (sA (sA N 1 s b) 2 s (nI n)) 3 (N.2 3) = sA (sA N 1 s b) 2 s (nI n) from sBr_id (M := sA (sA N 1 s b) 2 s (nI n)) (k := 3)] at h00
  exact h00
theorem hk_sheet (M N : Mem) (h : Rel M N) (a b c : Int32) : qX6_sheet a b c M (fun r M => qX7_sheet a b c N (fun r2 N => r = r2 ∧ Rel M N)) := by
  obtain ⟨_, A, hA⟩ := h
  have no : badS a b c → qX6_refuse 1 M (fun r M => zb r ∧ (fun r M => qX7_sheet a b c N (fun r2 N => r = r2 ∧ Rel M N)) r M) := by
    intro hb
    rintro _ rfl
    refine ⟨rfl, r_sheet (fun _ => ⟨rfl, Rel.no hA 1⟩) (fun s n hs hn ea ec p q => absurd hb ?_)⟩
    unfold badS
    rw [ea, ec, nI_toInt (by omega), nI_toInt (by omega)]
    omega
  have c0 : (0 : Int32).toInt = 0 := rfl
  have c3 : (3 : Int32).toInt = 3 := rfl
  have c64 : (64 : Int32).toInt = 64 := rfl
  unfold qX6_sheet
  refine s_isNumber (fun s hs ea => b1_e (s_withinI (fun p q => b1_e (s_withinI (fun p2 q2 => b1_n ?_) (fun hx => b0_n (no ?_)))) (fun hx => b0_e (no ?_)))) (fun hx => b0_e (no ?_))
  · rw [c0] at p p2
    rw [c3] at q
    rw [c64] at q2
    obtain ⟨n, hn, _, ec⟩ := nat_of (a := c) (n := 64) p2 q2
    subst ea ec
    unfold qX4_make
    rw [nI_clamp (show s < 2 ^ 31 by omega)]
    refine ⟨vp_in_nI hs (by omega), s_fillL (by decide) ⟨vp_in_nI hs (by omega), ?_⟩⟩
    rintro _ rfl
    refine ⟨vp_in_nI hs (by omega), ?_⟩
    rintro _ rfl _ rfl
    refine ⟨rfl, r_sheet (fun hb => absurd hb ?_) (fun s' n' hs' hn' ea ec _ _ => ⟨rfl, st_eq, A, ?_⟩)⟩
    · unfold badS
      rw [nI_toInt (by omega), nI_toInt (by omega)]
      omega
    · rw [nI_eq (by omega) (by omega)] at ea ec
      subst ea ec
      refine hA.sh (fun t ht => ?_) (fun k h1 h2 h3 => ?_) (fun k h1 h2 h3 => ?_) (fun j hj => ?_)
      · obtain ⟨e9, e10, ex⟩ := hA.1 t ht
        show upd (M.1 9) s b t = upd (N.1 1) s b t ∧ upd (M.1 10) s (nI n) t = upd (N.1 2) s (nI n) t ∧ (upd (M.1 10) s (nI n) t = -1 ∨ ∃ n_1, n_1 ≤ 64 ∧ upd (M.1 10) s (nI n) t = nI n_1 ∧ ∀ j, j < n_1 → (if 3 + t = 3 + s then (fun j => if j < 64 then (0 : Int64) else M.2 (3 + s) j) else M.2 (3 + t)) j = zer (N.2 3) (64 * s) (64 * s + n) (64 * t + j))
        by_cases e : t = s
        · subst e
          refine ⟨by rw [pk_us, pk_us], by rw [pk_us, pk_us], Or.inr ⟨n, hn, pk_us, fun j hj => ?_⟩⟩
          rw [if_pos rfl]
          show (if j < 64 then (0 : Int64) else M.2 (3 + t) j) = (if 64 * t ≤ 64 * t + j ∧ 64 * t + j < 64 * t + n then 0 else N.2 3 (64 * t + j))
          rw [if_pos (by omega), if_pos (by omega)]
        · rw [pk_un e, pk_un e, pk_un e, pk_un e]
          refine ⟨e9, e10, ex.imp id (fun ⟨m, hm, e1, e2⟩ => ⟨m, hm, e1, fun j hj => ?_⟩)⟩
          rw [if_neg (by omega), e2 j hj]
          show _ = (if 64 * s ≤ 64 * t + j ∧ 64 * t + j < 64 * s + n then 0 else N.2 3 (64 * t + j))
          rw [if_neg (by omega)]
      · rw [sA_1 k h1, sA_1 k h3, sA_1 k h2, sBr_x]
      · rw [sA_1 k h1, sBr_x, sA_1 k h3, sA_1 k h2]
      · rw [sA_g, if_neg (by omega), sBr_x, sA_1 0 (by decide), sA_1 0 (by decide)]
  · unfold badS
    rw [c0, c64] at hx
    omega
  · unfold badS
    rw [c0, c3] at hx
    omega
  · unfold badS
    omega

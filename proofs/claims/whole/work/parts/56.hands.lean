/-! THE FEWEST HANDS -/
def gH (M : Mem) (s m K i : Nat) : Int32 := (lnA i K (cmr M s) m).2.2.2 0
theorem s_handsL {s m K : Nat} {d : Int32} {M : Mem} (hs : s < 6) (h2 : m ≤ 64) (h4 : K ≤ 100) (hc : ∀ j, j < m → cmr M s j ≤ 100 ∧ M.2 (3 + s) j = lN (cmr M s j)) {post : Int32 → Mem → Prop} {R56 : Int32 → Mem → Prop} (h56 : ∀ x6 M, qX6_hands_b56 (nI s) (nI m) (nI K) d post R56 x6 M → R56 x6 M)
    (hno : (∀ i, 1 ≤ i → i ≤ 20 → d < gH M s m K i) → ∀ M', LCx M M' → post (-1) (sA M' 0 5 7)) (hyes : ∀ i, 1 ≤ i → i ≤ 20 → ¬ d < gH M s m K i → (∀ i', 1 ≤ i' → i' < i → d < gH M s m K i') → ∀ M', LCx M M' → post (nI i) (sA M' 0 5 0)) : R56 1 M := by
  have key : ∀ i, i ≤ 21 → 1 ≤ i → (∀ i', 1 ≤ i' → i' < i → d < gH M s m K i') → ∀ M', LCx M M' → R56 (nI i) M' := by
    refine up_to (fun _ hall M' hx => ?_) (fun i hi ih h1 hall M' hx => ?_)
    · apply h56
      refine ⟨fun _ => ?_, fun q => absurd (by decide) q⟩
      rintro _ rfl
      exact hno (fun i p q => hall i p (by omega)) M' hx
    · apply h56
      refine ⟨fun q => ?_, fun _ => ?_⟩
      · rw [show (20 : Int32) = nI 20 from rfl, nI_ltI (by omega) (by omega)] at q
        omega
      · refine s_serve hs h2 h1 (by omega) h4 (c := cmr M s) (fun j hj => ?_) (fun M2 hL => ?_)
        · rw [hx.1]
          exact hc j hj
        · rw [show M2.1 73 0 = gH M s m K i from hL.2.2.1 0 (by omega)]
          refine ⟨fun hlt => ?_, fun hnl => ?_⟩
          · rintro _ rfl
            rw [nI_1]
            refine ih (by omega) (fun i' p q => ?_) M2 (hx.tr hL.x)
            by_cases e : i' = i
            · subst e; exact hlt
            · exact hall i' p (by omega)
          · rintro _ rfl
            exact hyes i h1 (by omega) hnl hall M2 (hx.tr hL.x)
  exact key 1 (by omega) (Nat.le_refl _) (fun i' p q => absurd q (by omega)) M (LCx.rf M)
theorem r_handsL {s m K : Nat} {d : Int32} {M N : Mem} (hs : s < 6) (h2 : m ≤ 64) (h4 : K ≤ 100) (hc : ∀ j, j < m → cmr M s j ≤ 100 ∧ N.2 3 (64 * s + j) = lN (cmr M s j)) {post : Int32 → Mem → Prop} {R35 : Mem → Prop} {R70 : Int32 → Mem → Prop} (h70 : ∀ x6 M, qX7_hands_b70 (nI s) (nI m) (nI K) d post R35 R70 x6 M → R70 x6 M) (h0 : N.1 0 0 = 0)
    (hno : (∀ i, 1 ≤ i → i ≤ 20 → d < gH M s m K i) → ∀ N', LRx N N' → post (-1) (sA N' 0 0 7)) (hyes : ∀ i, 1 ≤ i → i ≤ 20 → ¬ d < gH M s m K i → (∀ i', 1 ≤ i' → i' < i → d < gH M s m K i') → ∀ N', LRx N N' → N'.1 0 0 = 0 → post (nI i) N') : R70 1 N := by
  have key : ∀ i, i ≤ 21 → 1 ≤ i → (∀ i', 1 ≤ i' → i' < i → d < gH M s m K i') → ∀ N', LRx N N' → N'.1 0 0 = 0 → R70 (nI i) N' := by
    refine up_to (fun _ hall N' hx hz => ?_) (fun i hi ih h1 hall N' hx hz => ?_)
    · apply h70
      refine ⟨fun _ => ?_, fun q => absurd (by decide) q⟩
      rintro _ rfl
      exact hno (fun i p q => hall i p (by omega)) N' hx
    · apply h70
      refine ⟨fun q => ?_, fun _ => ?_⟩
      · rw [show (20 : Int32) = nI 20 from rfl, nI_ltI (by omega) (by omega)] at q
        omega
      · refine r_step hs h2 h1 (by omega) h4 (c := cmr M s) (fun j hj => ?_) (fun N2 hL => ?_)
        · rw [hx.1]
          exact hc j hj
        · have hz2 : N2.1 0 0 = 0 := by rw [hL.2.1 0 (by omega)]; exact hz
          rw [show N2.1 0 30 = gH M s m K i from hL.2.2.2.1 0 (by omega)]
          refine ⟨fun hlt => ?_, fun hnl => ?_⟩
          · rintro _ rfl
            rw [nI_1]
            refine ih (by omega) (fun i' p q => ?_) N2 (hx.tr hL.x) hz2
            by_cases e : i' = i
            · subst e; exact hlt
            · exact hall i' p (by omega)
          · exact hyes i h1 (by omega) hnl hall N2 (hx.tr hL.x) hz2
  exact key 1 (by omega) (Nat.le_refl _) (fun i' p q => absurd q (by omega)) N (LRx.rf N) h0
def badH (a b c d : Int32) : Prop := badI a b c ∨ d.toInt < 0 ∨ 10000 < d.toInt
theorem r_handsB {a b c d : Int32} {N : Mem} (hS : SL (N.1 2)) (hb : badH a b c d) {post : Int32 → Mem → Prop} (h : post (-1) (sA N 0 0 1)) : qX7_hands a b c d N post := by
  intro R35 R70 h35 h70
  have no : qX7_refuse 1 N (fun r M => post r M) := by
    rintro _ rfl
    exact h
  have n35 : R35 N := h35 N ⟨fun x => absurd x (by decide), fun _ => no⟩
  rw [Int32.lt_iff_toInt_lt, Int32.lt_iff_toInt_lt, Int32.lt_iff_toInt_lt, Int32.lt_iff_toInt_lt, Int32.lt_iff_toInt_lt, Int32.le_iff_toInt_le, Int32.toInt_zero, show (1 : Int32).toInt = 1 from rfl, show (64 : Int32).toInt = 64 from rfl, show (100 : Int32).toInt = 100 from rfl, show (10000 : Int32).toInt = 10000 from rfl]
  refine ⟨fun _ => n35, fun p1 => ⟨fun _ => n35, fun p2 => ⟨fun _ => n35, fun p3 => ⟨fun _ => n35, fun p4 => ⟨fun _ => n35, fun p5 => ⟨fun p6 => ?_, fun _ => n35⟩⟩⟩⟩⟩⟩
  obtain ⟨m, hm, _, eb⟩ := nat_of (a := b) (n := 64) (by omega) (by omega)
  have ha : a.toInt < 0 ∨ 5 < a.toInt := by
    unfold badH badI at hb
    omega
  have hx : ∀ s, s < 6 → ¬ a = nI s := by
    intro s hs e
    rw [e, nI_toInt (by omega)] at ha
    omega
  rw [eb]
  exact r_first hS (by omega) (fun _ => ⟨fun x => absurd x (by decide), fun _ => no⟩) (fun s hs ea => absurd ea (hx s hs)) (fun s n hs ea => absurd ea (hx s hs)) (fun s n hs ea => absurd ea (hx s hs)) (fun s n hs ea => absurd ea (hx s hs))
theorem r_handsG {s m K w : Nat} {M N : Mem} (hR : RS M N) (hs : s < 6) (h1 : 1 ≤ m) (h2 : m ≤ 64) (h3 : 1 ≤ K) (h4 : K ≤ 100) (hw : w ≤ 10000) {r : Int32} (hr : WN M s m 100 r) {post : Int32 → Mem → Prop} (g1 : ¬ r = 0 → post (-1) (sA N 0 0 r))
    (hno : r = 0 → (∀ i, 1 ≤ i → i ≤ 20 → nI w < gH M s m K i) → ∀ N', LRx N N' → post (-1) (sA N' 0 0 7)) (hyes : r = 0 → ∀ i, 1 ≤ i → i ≤ 20 → ¬ nI w < gH M s m K i → (∀ i', 1 ≤ i' → i' < i → nI w < gH M s m K i') → ∀ N', LRx N N' → N'.1 0 0 = 0 → post (nI i) N') : qX7_hands (nI s) (nI m) (nI K) (nI w) N post := by
  intro R35 R70 h35 h70
  rw [Int32.lt_iff_toInt_lt, Int32.lt_iff_toInt_lt, Int32.lt_iff_toInt_lt, Int32.lt_iff_toInt_lt, Int32.lt_iff_toInt_lt, Int32.le_iff_toInt_le, Int32.toInt_zero, show (1 : Int32).toInt = 1 from rfl, show (64 : Int32).toInt = 64 from rfl, show (100 : Int32).toInt = 100 from rfl, show (10000 : Int32).toInt = 10000 from rfl, nI_toInt (by omega), nI_toInt (by omega), nI_toInt (by omega)]
  refine ⟨fun x => absurd x (by omega), fun _ => ⟨fun x => absurd x (by omega), fun _ => ⟨fun x => absurd x (by omega), fun _ => ⟨fun x => absurd x (by omega), fun _ => ⟨fun x => absurd x (by omega), fun _ => ⟨fun _ => ?_, fun x => absurd x (by omega)⟩⟩⟩⟩⟩⟩
  refine r_firstW (g := 100) hR hs (by omega) hr ⟨fun x => ?_, fun x => ?_⟩
  · have e : r = 0 := by
      rcases hr.cases with e | e | e | e
      · exact e
      all_goals
        subst e
        exact absurd x (by decide)
    subst e
    rintro _ rfl
    refine r_handsL (M := M) hs h2 h4 (fun j hj => ?_) h70 ?_ (fun hall N' hx => hno rfl hall N' ((LRx.st N 0).tr hx)) (fun i p q hn hall N' hx hz => hyes rfl i p q hn hall N' ((LRx.st N 0).tr hx) hz)
    · have := hR.cmr hs hr hj
      exact ⟨this.1, this.2.2⟩
    · rw [sA_g, if_pos ⟨rfl, rfl⟩]
  · rintro _ rfl
    refine g1 (fun e => ?_)
    subst e
    exact x (by decide)
theorem hk_hands (M N : Mem) (h : Rel M N) (a b c d : Int32) : qX6_hands a b c d M (fun r M => qX7_hands a b c d N (fun r2 N => r = r2 ∧ Rel M N)) := by
  obtain ⟨_, A, hA⟩ := h
  have hc := hA.1.c
  have hn := hA.1.n
  have no : badH a b c d → qX6_deny 1 M (fun r M => (fun r M => qX7_hands a b c d N (fun r2 N => r = r2 ∧ Rel M N)) r M) := by
    intro hb
    rintro _ rfl
    exact r_handsB hn hb ⟨rfl, Rel.no hA 1⟩
  have k0 : (0 : Int32).toInt = 0 := rfl
  have k4 : (10000 : Int32).toInt = 10000 := rfl
  intro R56 h56
  refine s_isLine (fun s m K hs h1 h2 h3 h4 ea eb ec => b1_e (s_withinI (fun p q => b1_n ?_) (fun hx => b0_n (no ?_)))) (fun hx => b0_e (no (Or.inl hx)))
  · rw [k0] at p
    rw [k4] at q
    obtain ⟨w, hw, _, ed⟩ := nat_of (a := d) (n := 10000) (by omega) q
    subst ea eb ec ed
    refine s_firstW hc hs (by omega) (fun r hr => ⟨fun e0 => ?_, fun hne => ?_⟩)
    · subst e0
      refine s_handsL hs h2 h4 (fun j hj => ?_) h56 (fun hall M' hx => ?_) (fun i p1 p2 hn1 hall M' hx => ?_)
      · have := hA.1.cmr hs hr hj
        exact ⟨this.1, this.2.1⟩
      · refine r_handsG hA.1 hs h1 h2 h3 h4 hw hr (fun x => absurd rfl x) (fun _ _ N' hy => ⟨rfl, Rel.ans hA (hx.hc hA.2.2.1) hx.ce hy.ne 7⟩) (fun _ i p1 p2 hn1 _ N' _ _ => absurd (hall i p1 p2) hn1)
      · refine r_handsG hA.1 hs h1 h2 h3 h4 hw hr (fun x => absurd rfl x) (fun _ hall' N' hy => absurd (hall' i p1 p2) hn1) (fun _ i' p1' p2' hn1' hall' N' hy hz => ?_)
        have e : i = i' := by
          by_cases q1 : i < i'
          · exact absurd (hall' i p1 q1) hn1
          · by_cases q2 : i' < i
            · exact absurd (hall i' p1' q2) hn1'
            · omega
        subst e
        refine ⟨rfl, Rel.q hA ((hx.hc hA.2.2.1).st 0) (hx.ce.tr (CE.st _ _)) hy.ne ?_⟩
        rw [sA_g, if_pos ⟨rfl, rfl⟩, hz]
    · rintro _ rfl
      exact r_handsG hA.1 hs h1 h2 h3 h4 hw hr (fun x => ⟨rfl, Rel.no hA r⟩) (fun x => absurd x hne) (fun x => absurd x hne)
  · unfold badH
    rw [k0, k4] at hx
    omega

/-! BUYING: the reference's cheapest and buys -/
theorem r_cheapest {A : Abs} (hK : KR A) {N : Mem} (hN : KN A N) {post : Int32 → Mem → Prop} (h7 : lst A 0 0 (A 0 4) = NEV → ∀ N', KX N N' → post (-1) (sA N' 0 0 7)) (h0 : ¬ lst A 0 0 (A 0 4) = NEV → ∀ N', KX N N' → post (nI (lst A 0 0 (A 0 4))) (sA N' 0 0 0)) : qX7_cheapest N post := by
  refine r_reckon hK hN (fun N' hX hD => ?_)
  have hN' := hX.kn hN
  have h5 := hK.2.1
  rw [hN'.2.1]
  refine r_at (m := 0) (t := 0) ?_
  rw [nI_clamp (show 501 * (4 * 0 + 0) + A 0 4 < 2 ^ 31 by omega)]
  refine ⟨vp_in_nI (by omega) (by omega), ?_⟩
  rintro _ rfl
  rw [dn_at hD (by omega) (by omega) (fun _ => rfl) (by omega) (by omega), show (2000000000 : Int32) = nI NEV from rfl]
  have b := lst_b hK (show 0 ≤ 12 by omega) (show 0 ≤ 4 by omega) h5
  have bl : lst A 0 0 (A 0 4) < 2 ^ 31 := by
    unfold NEV at b
    omega
  refine ⟨fun q => ?_, fun q => ?_⟩
  · rintro _ rfl
    exact h0 (fun e => q (by rw [e])) N' hX
  · rintro _ rfl
    exact h7 (nI_is bl (by unfold NEV; omega) q) N' hX
theorem r_buyL {A : Abs} (hK : KR A) {N : Mem} (hN : KN A N) (hD : dnL A N 0) {a1 a2 : Nat} (h1 : a1 < 12) (h2 : a2 < 4) {post : Int32 → Mem → Prop} {R71 : Int32 → Int32 → Mem → Prop} {R81 : Int32 → Int32 → Int32 → Mem → Prop} {R90 : Int32 → Int32 → Int32 → Int32 → Mem → Prop} {R157 : Int32 → Int32 → Int32 → Int32 → Int32 → Int32 → Mem → Prop}
    (h71 : ∀ x3 x4 M, qX7_buys_b71 (nI a1) (nI a2) post R71 R81 R90 R157 x3 x4 M → R71 x3 x4 M) (h81 : ∀ x3 x4 x5 M, qX7_buys_b81 (nI a1) (nI a2) post R71 R81 R90 R157 x3 x4 x5 M → R81 x3 x4 x5 M) (h90 : ∀ x3 x4 x5 x6 M, qX7_buys_b90 (nI a1) (nI a2) post R71 R81 R90 R157 x3 x4 x5 x6 M → R90 x3 x4 x5 x6 M) (h157 : ∀ x3 x4 x5 x6 s0 s1 M, qX7_buys_b157 (nI a1) (nI a2) post R71 R81 R90 R157 x3 x4 x5 x6 s0 s1 M → R157 x3 x4 x5 x6 s0 s1 M)
    (h : post (nI (buysA A a1 a2)) N) : R71 (nI (A 0 4)) 0 N := by
  have inner : ∀ m t, m < 12 → t < 4 → ∀ f s n, s ≤ 500 → 501 - s ≤ f → (¬ (m = a1 ∧ t = a2) → R81 (nI (manyA A m t f s).2) (nI m) (nI (t + 1)) N) → (m = a1 ∧ t = a2 → post (nI (n + (manyA A m t f s).1)) N) → R90 (nI s) (nI m) (nI t) (nI n) N := by
    intro m t hm ht f
    induction f with
    | zero => exact fun s n hs hf => absurd hf (by omega)
    | succ f ih =>
      intro s n hs hf g1 g2
      rw [many_s hm ht] at g1 g2
      have b1 := lst_b hK (show m ≤ 12 by omega) (show t ≤ 4 by omega) hs
      have b2 := lst_b hK (show m ≤ 12 by omega) (show t + 1 ≤ 4 by omega) hs
      have go : R157 (nI s) (nI m) (nI t) (nI n) (nI (lst A m (t + 1) s)) (nI (lst A m t s)) N := by
        apply h157
        unfold qX7_buys_b157
        unfold NEV at b1 b2
        rw [nI_leI (by omega) (by omega)]
        refine ⟨fun q => ?_, fun q => ?_⟩
        · rw [if_neg (by omega)] at g1 g2
          refine ⟨fun q1 => ?_, fun q1 => ⟨fun q2 => ?_, fun q2 => ?_⟩⟩
          · rintro _ rfl
            rw [nI_1]
            exact g1 (fun e => q1 (by rw [e.1]))
          · rintro _ rfl
            rw [nI_1]
            exact g1 (fun e => q2 (by rw [e.2]))
          · exact g2 ⟨nI_is (by omega) (by omega) q1, nI_is (by omega) (by omega) q2⟩
        · have hq : lst A m t s < lst A m (t + 1) s := by omega
          rw [if_pos hq] at g1 g2
          have hlt := lst_lt hK hm ht hs hq
          obtain ⟨n1, n2, n3, n4⟩ := hN.2.2.2 t hlt.1
          obtain ⟨k1, k2, k3, k4, k5⟩ := hK.2.2.2 t hlt.1
          refine ⟨vp_in_nI ht (by omega), ?_⟩
          rw [nI_clamp (show t < 2 ^ 31 by omega), n1, nI_add, show (500 : Int32) = nI 500 from rfl, jmin_nI (by omega) (by omega)]
          rintro _ rfl _ rfl
          rw [nI_1]
          refine ih _ _ (by omega) (by omega) g1 (fun e => ?_)
          have g3 := g2 e
          rw [show n + ((manyA A m t f (min 500 (s + A 13 t))).1 + 1) = n + 1 + (manyA A m t f (min 500 (s + A 13 t))).1 by omega] at g3
          exact g3
      apply h90
      refine r_at ?_
      rw [nI_clamp (show 501 * (4 * m + t) + s < 2 ^ 31 by omega)]
      refine ⟨vp_in_nI (by omega) (by omega), ?_⟩
      rw [dn_at hD (by omega) ht (by omega) hs (by omega), show (3 : Int32) = nI 3 from rfl, nI_leI (by omega) (by omega)]
      refine ⟨fun q => ⟨vp_in_nI hm (by omega), ?_⟩, fun q => ?_⟩
      · have hw := hK.2.2.1 m hm
        rw [nI_clamp (show m < 2 ^ 31 by omega), hN.2.2.1 m hm, nI_ltI (by omega) (by omega)]
        rw [show t + 1 = 4 by omega, lst_4 hm] at go
        refine ⟨fun q2 => ?_, fun q2 => ?_⟩
        · rw [if_neg (by omega)] at go
          exact go
        · rw [if_pos (by omega)] at go
          rw [nI_1]
          refine r_at (t := 0) ?_
          rw [nI_clamp (show 501 * (4 * (m + 1) + 0) + s < 2 ^ 31 by omega)]
          refine ⟨vp_in_nI (by omega) (by omega), ?_⟩
          rw [dn_at hD (by omega) (by omega) (fun _ => rfl) hs (by omega)]
          exact go
      · rw [nI_1]
        refine r_at ?_
        rw [nI_clamp (show 501 * (4 * m + (t + 1)) + s < 2 ^ 31 by omega)]
        refine ⟨vp_in_nI (by omega) (by omega), ?_⟩
        rw [dn_at hD (by omega) (by omega) (by omega) hs (by omega)]
        exact go
  have outer : ∀ d k, k + d = 4 * a1 + a2 → R81 (nI (thereA A k)) (nI (k / 4)) (nI (k % 4)) N := by
    intro d
    induction d with
    | zero =>
      intro k hk
      have e1 : k / 4 = a1 := by omega
      have e2 : k % 4 = a2 := by omega
      apply h81
      rw [e1, e2]
      unfold qX7_buys_b81
      rw [show (4 : Int32) = nI 4 from rfl, nI_leI (by omega) (by omega)]
      refine ⟨fun q => absurd q (by omega), fun _ => inner a1 a2 h1 h2 501 (thereA A k) 0 (there_le hK k (by omega)) (by omega) (fun q => absurd ⟨rfl, rfl⟩ q) (fun _ => ?_)⟩
      rw [Nat.zero_add, show k = 4 * a1 + a2 by omega]
      exact h
    | succ d ih =>
      intro k hk
      have ih' := ih (k + 1) (by omega)
      apply h81
      unfold qX7_buys_b81
      rw [show (4 : Int32) = nI 4 from rfl, nI_leI (by omega) (by omega)]
      refine ⟨fun q => absurd q (by omega), fun _ => inner (k / 4) (k % 4) (by omega) (by omega) 501 (thereA A k) 0 (there_le hK k (by omega)) (by omega) (fun _ => ?_) (fun q => absurd q (by omega))⟩
      show R81 (nI (thereA A (k + 1))) _ _ N
      by_cases q : k % 4 = 3
      · rw [show k % 4 + 1 = 4 by omega]
        apply h81
        refine ⟨fun _ => ?_, fun c => absurd (by decide) c⟩
        rintro _ rfl
        apply h71
        unfold qX7_buys_b71
        rw [nI_1, show (12 : Int32) = nI 12 from rfl, nI_leI (by omega) (by omega)]
        refine ⟨fun c => absurd c (by omega), fun _ => ?_⟩
        rw [show k / 4 + 1 = (k + 1) / 4 by omega]
        rw [show (k + 1) % 4 = 0 by omega] at ih'
        exact ih'
      · rw [show k / 4 = (k + 1) / 4 by omega, show k % 4 + 1 = (k + 1) % 4 by omega]
        exact ih'
  apply h71
  exact ⟨fun c => absurd c (by decide), fun _ => outer (4 * a1 + a2) 0 (by omega)⟩
theorem r_buysB {A : Abs} (hK : KR A) {N : Mem} (hN : KN A N) {a b : Int32} (hb : a.toInt < 0 ∨ 11 < a.toInt ∨ b.toInt < 0 ∨ (A 0 3 : Int) ≤ b.toInt) {post : Int32 → Mem → Prop} (h : post (-1) (sA N 0 0 1)) : qX7_buys a b N post := by
  intro R71 R81 R90 R157 h71 h81 h90 h157
  have no : qX7_refuse 1 N (fun r M => post r M) := by
    rintro _ rfl
    exact h
  have h4 := hK.1
  rw [hN.1, Int32.lt_iff_toInt_lt, Int32.lt_iff_toInt_lt, Int32.lt_iff_toInt_lt, Int32.le_iff_toInt_le, Int32.toInt_zero, show (12 : Int32).toInt = 12 from rfl, nI_toInt (by omega)]
  exact ⟨fun _ => no, fun p1 => ⟨fun _ => no, fun p2 => ⟨fun _ => no, fun p3 => ⟨fun p4 => absurd hb (by omega), fun _ => no⟩⟩⟩⟩
theorem r_buysG {A : Abs} (hK : KR A) {N : Mem} (hN : KN A N) {m t : Nat} (hm : m < 12) (ht : t < A 0 3) {post : Int32 → Mem → Prop} (h7 : lst A 0 0 (A 0 4) = NEV → ∀ N', KX N N' → post (-1) (sA N' 0 0 7)) (h0 : ¬ lst A 0 0 (A 0 4) = NEV → ∀ N', KX N N' → post (nI (buysA A m t)) (sA N' 0 0 0)) : qX7_buys (nI m) (nI t) N post := by
  intro R71 R81 R90 R157 h71 h81 h90 h157
  have h4 := hK.1
  have h5 := hK.2.1
  rw [hN.1, show (12 : Int32) = nI 12 from rfl, nI_leI (by omega) (by omega), nI_ltI (by omega) (by omega)]
  refine ⟨fun q => absurd q (nI_pos (by omega)), fun _ => ⟨fun q => absurd q (by omega), fun _ => ⟨fun q => absurd q (nI_pos (by omega)), fun _ => ⟨fun _ => ?_, fun q => absurd ht q⟩⟩⟩⟩
  refine r_reckon hK hN (fun N' hX hD => ?_)
  have hN' := hX.kn hN
  rw [hN'.2.1]
  refine r_at (m := 0) (t := 0) ?_
  rw [nI_clamp (show 501 * (4 * 0 + 0) + A 0 4 < 2 ^ 31 by omega)]
  refine ⟨vp_in_nI (by omega) (by omega), ?_⟩
  rw [dn_at hD (by omega) (by omega) (fun _ => rfl) (by omega) (by omega), show (2000000000 : Int32) = nI NEV from rfl]
  have b := lst_b hK (show 0 ≤ 12 by omega) (show 0 ≤ 4 by omega) h5
  have bl : lst A 0 0 (A 0 4) < 2 ^ 31 := by
    unfold NEV at b
    omega
  refine ⟨fun q => ?_, fun q => ?_⟩
  · rintro _ rfl _ rfl
    rw [show (sA N' 0 0 0).1 0 40 = nI (A 0 4) from hN'.2.1]
    refine r_buyL hK (N := sA N' 0 0 0) ?_ ?_ hm (by omega) h71 h81 h90 h157 (h0 (fun e => q (by rw [e])) N' hX)
    · exact hN'.ne (NE.st N' 0)
    · exact hD
  · rintro _ rfl
    exact h7 (nI_is bl (by unfold NEV; omega) q) N' hX

/-! BUYING: the class solves -/
theorem cap_nev : cap NEV = 1000000000 := rfl
theorem s_types {A : Abs} (hK : KR A) {M0 : Mem} (hC : KC0 A M0) {m : Nat} (hm : m < 12) {post : Mem → Prop} {R32 : Int32 → Mem → Prop} {R59 : Int32 → Int32 → Mem → Prop} (h59 : ∀ x1 x2 M, qX2_solve_b59 post R32 R59 x1 x2 M → R59 x1 x2 M) (hp : ∀ M', MoQ M0 A m 0 M' → R32 (nI m + (-1)) M') : ∀ n, n ≤ A 0 3 → ∀ M', MoQ M0 A m n M' → R59 (nI m) (nI n + (-1)) M' := by
  have h4 := hK.1
  intro n
  induction n with
  | zero =>
    intro _ M' hQ
    apply h59
    refine ⟨fun _ => ?_, fun q => absurd (by decide) q⟩
    rintro _ rfl
    exact hp M' hQ
  | succ t ih =>
    intro hn M' hQ
    rw [pk_m1]
    apply h59
    refine ⟨fun q => absurd q (nI_pos (by omega)), fun _ => ⟨vp_in_nI (by omega) (by omega), ?_⟩⟩
    have hC' := hQ.1.kc hK hC
    obtain ⟨k1, k2, k3, k4, k5⟩ := hK.2.2.2 t (by omega)
    rw [nI_clamp (show t < 2 ^ 31 by omega), (hC'.2.2.2 t (by omega)).2.1, nI_ltI (by omega) (by omega)]
    refine ⟨fun q => ?_, fun q => ?_⟩
    · rintro _ rfl
      obtain ⟨g1, g2, b, hB, hT⟩ := hQ
      refine ih (by omega) M' ⟨g1, fun s hs => ?_, b, hB, hT.sh (by omega) (fun m' t' s' hm' ht' hs' c1 c2 => ?_)⟩
      · rw [g2 s hs, lst_skip hK hm (show t < 4 by omega) hs (by omega)]
      · rw [show m' = m by omega, show t' = t by omega, lst_skip hK hm (show t < 4 by omega) (by omega) (by omega)]
        omega
    · obtain ⟨g1, g2, b, hB, hT⟩ := hQ
      refine s_offer hK hC hm (by omega) (by omega) ⟨g1, fun s hs => ?_, b, hB, hT.sh (by omega) (fun m' t' s' hm' ht' hs' c1 c2 => ?_)⟩ (fun M2 hO => ?_)
      · rw [g2 s hs]
        by_cases c : 500 ≤ s
        · rw [if_pos c, show s = 500 by omega, lst_500 hK hm (show t < 4 by omega)]
        · rw [if_neg c]
      · omega
      · rintro _ rfl
        obtain ⟨f1, f2, b', hB', hT'⟩ := hO
        refine ih (by omega) M2 ⟨f1, fun s hs => ?_, b', hB', hT'⟩
        rw [f2 s hs, if_pos (Nat.zero_le _)]
theorem s_months {A : Abs} (hK : KR A) {M0 : Mem} (hC : KC0 A M0) {post : Mem → Prop} {R32 : Int32 → Mem → Prop} {R59 : Int32 → Int32 → Mem → Prop} (h32 : ∀ x1 M, qX2_solve_b32 post R32 R59 x1 M → R32 x1 M) (h59 : ∀ x1 x2 M, qX2_solve_b59 post R32 R59 x1 x2 M → R59 x1 x2 M) (hp : ∀ M', MoQ M0 A 0 0 M' → R32 (nI 0 + (-1)) M') : ∀ n, n ≤ 12 → ∀ M', MoQ M0 A n 0 M' → R32 (nI n + (-1)) M' := by
  have h4 := hK.1
  intro n
  induction n with
  | zero => exact fun _ M' hQ => hp M' hQ
  | succ m ih =>
    intro hn M' hQ
    rw [pk_m1]
    apply h32
    have hw := hK.2.2.1 m (by omega)
    refine ⟨fun q => absurd q (nI_pos (by omega)), fun _ => ⟨vp_in_nI (by omega) (by omega), ?_⟩⟩
    have hC' := hQ.1.kc hK hC
    obtain ⟨g1, g2, b, hB, hT⟩ := hQ
    rw [nI_clamp (show m < 2 ^ 31 by omega), hC'.2.2.1 m (by omega)]
    refine s_fillR (a := 0) (by decide) (Nat.zero_le _) (by omega) ?_
    rintro _ rfl
    have e75 : (sAr M' 98 (fun j => if 0 ≤ j ∧ j < A 12 m then 1000000000 else M'.1 98 j)).1 75 0 = nI (A 0 3) := by
      rw [sAr_g, if_neg (by decide)]
      exact hC'.1
    rw [e75, Int32.sub_eq_add_neg]
    refine s_types hK hC (by omega) h59 (fun M2 hQ2 => ih (by omega) M2 hQ2) (A 0 3) (Nat.le_refl _) _ ⟨g1.tr (SX.r98 _), fun s hs => ?_, b, hB, hT.sh (by omega) (fun m' t' s' hm' ht' hs' c1 c2 => ?_)⟩
    · rw [sAr_g, if_pos rfl, lst_top hK (by omega) hs (4 - A 0 3) (by omega), show A 0 3 + (4 - A 0 3) = 4 by omega, lst_4 (by omega)]
      by_cases c : A 12 m ≤ s
      · rw [if_pos c, if_neg (by omega)]
        exact g2 s hs
      · rw [if_neg c, if_pos (by omega)]
        rfl
    · rw [show m' = m by omega, lst_skip hK (show m < 12 by omega) ht' (by omega) (by omega)]
      omega
/-- what the market holds when it is solved -/
def KS (A : Abs) (M : Mem) : Prop := M.1 75 11 = 1 ∧ M.1 75 1 = nI (cap (lst A 0 0 (A 0 4))) ∧ (lst A 0 0 (A 0 4) < NEV → ∀ m t, m < 12 → t < A 0 3 → M.1 (77 + m) t = nI (buysA A m t))
theorem s_isEnough {A : Abs} (hK : KR A) {M : Mem} (h1 : M.1 75 1 = nI (cap (lst A 0 0 (A 0 4)))) {post : Int32 → Mem → Prop} (g1 : lst A 0 0 (A 0 4) < NEV → post 1 M) (g0 : lst A 0 0 (A 0 4) = NEV → post 0 M) : qX2_isEnough M post := by
  have h := lst_b hK (show 0 ≤ 12 by omega) (show 0 ≤ 4 by omega) hK.2.1
  unfold qX2_isEnough
  unfold cap NEV at *
  rw [h1, show (1000000000 : Int32) = nI 1000000000 from rfl, nI_leI (by omega) (by omega)]
  exact ⟨fun q => g0 (by omega), fun q => g1 (by omega)⟩
theorem s_solve {A : Abs} (hK : KR A) {M : Mem} (hC : KC A M) {post : Mem → Prop} (h : ∀ M', (∀ k, k < 9 → M'.2 k = M.2 k) → (∀ k, k < 75 → M'.1 k = M.1 k) → KC0 A M' → KS A M' → post M') : qX2_solve M post := by
  intro R32 R59 h32 h59
  have h5 := hK.2.1
  refine ⟨fun _ => ?_, fun hne => ?_⟩
  · rintro _ rfl
    have hC1 : KC0 A (sA M 75 11 1) := ⟨hC.1.1, hC.1.2.1, hC.1.2.2.1, fun t ht => by
      rw [sA_1 (94 + t) (by omega)]
      exact hC.1.2.2.2 t ht⟩
    refine s_fill (by decide) (s_fillL (by decide) ?_)
    have final : ∀ M', MoQ (sA M 75 11 1) A 0 0 M' → R32 (-1) M' := by
      intro M' hQ
      apply h32
      refine ⟨fun _ => ?_, fun q => absurd (by decide) q⟩
      have hC' := hQ.1.kc hK hC1
      obtain ⟨g1, g2, b, hB, hT⟩ := hQ
      rw [hC'.2.1, nI_clamp (show A 0 4 < 2 ^ 31 by omega), g2 _ h5]
      refine ⟨vp_in_nI (by omega) (by omega), ?_⟩
      rintro _ rfl
      have hX2 : SX (sA M 75 11 1) (sA M' 75 1 (nI (cap (lst A 0 0 (A 0 4))))) := g1.tr (SX.p75 _ _ rfl)
      have e1 : (sA M' 75 1 (nI (cap (lst A 0 0 (A 0 4))))).1 75 1 = nI (cap (lst A 0 0 (A 0 4))) := by rw [sA_g, if_pos ⟨rfl, rfl⟩]
      have e11 : (sA M' 75 1 (nI (cap (lst A 0 0 (A 0 4))))).1 75 11 = 1 := by
        rw [hX2.2.2.2 11 (by decide), sA_g, if_pos ⟨rfl, rfl⟩]
      have up : ∀ M2, SX (sA M 75 11 1) M2 → (∀ k, k < 9 → M2.2 k = M.2 k) ∧ (∀ k, k < 75 → M2.1 k = M.1 k) := fun M2 hX => ⟨fun k hk => hX.1 k (by omega), fun k hk => (hX.2.1 k hk).trans (sA_1 k (by omega))⟩
      refine s_isEnough hK e1 (fun hlt => b1_e ?_) (fun hN => b0_e (h _ (up _ hX2).1 (up _ hX2).2 (hX2.kc hK hC1) ⟨e11, e1, fun c => absurd c (by rw [hN]; omega)⟩))
      refine s_choose hK hC1 hX2 (b := b) hB (by rw [show 501 * (4 * 0 + 0) = 0 from rfl] at hT; exact hT) (fun M2 hX3 hO hE => ?_)
      refine h M2 (up _ (hX2.tr hX3)).1 (up _ (hX2.tr hX3)).2 ((hX2.tr hX3).kc hK hC1) ⟨?_, ?_, fun _ m t hm ht => hO m t hm ht (by have := hK.1; omega)⟩
      · rw [hE 75 (Or.inl rfl)]
        exact e11
      · rw [hE 75 (Or.inl rfl)]
        exact e1
    refine s_months hK hC1 h32 h59 final 12 (Nat.le_refl _) _ ⟨(SX.r98 _).tr (SX.r99 _), fun s hs => ?_, fun _ => 0, fun w hw => ?_, fun m t s hm ht hs => ?_⟩
    · rw [sBr_x, sAr_g, if_pos rfl, if_pos (by omega), lst_12]
      rfl
    · rw [sBr_g, if_pos rfl, if_pos hw]
      exact ⟨Nat.two_pow_pos 64, rfl⟩
    · rw [Nat.zero_testBit]
      constructor
      · exact fun c => absurd c (by decide)
      · exact fun c => absurd c.1 (by omega)
  · rcases hC.2 with q | ⟨q1, q2, q3⟩
    · exact absurd q hne
    · exact h M (fun _ _ => rfl) (fun _ _ => rfl) hC.1 ⟨q1, q2, q3⟩

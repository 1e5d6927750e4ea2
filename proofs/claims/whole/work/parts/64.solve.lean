/-! BUYING: the class works out what is to pay, and what is bought -/
def MoQ (M0 : Mem) (A : Abs) (m t : Nat) (M : Mem) : Prop := SX M0 M ∧ (∀ s, s ≤ 500 → M.1 98 s = nI (cap (lst A m t s))) ∧ ∃ b, BW M b ∧ BT A (501 * (4 * m + t)) b
theorem lst_500 {A : Abs} (hK : KR A) {m t : Nat} (hm : m < 12) (ht : t < 4) : lst A m t 500 = lst A m (t + 1) 500 := lst_skip hK hm ht (Nat.le_refl _) (by omega)
theorem s_mustBuy {A : Abs} {M : Mem} {b : Nat → Nat} (hB : BW M b) (hT : BT A 0 b) {m t s : Nat} (hm : m < 12) (ht : t < 4) (hs : s < 500) {post : Int32 → Mem → Prop} (h1 : lst A m t s < lst A m (t + 1) s → post 1 M) (h0 : ¬ lst A m t s < lst A m (t + 1) s → post 0 M) : qX2_mustBuy (nI m) (nI t) (nI s) M post := by
  refine s_word hs ?_
  rw [nI_clamp (show 8 * (4 * m + t) + s / 64 < 2 ^ 31 by omega), bx_63, (hB _ (show 8 * (4 * m + t) + s / 64 < 384 by omega)).2]
  have hb := (hB _ (show 8 * (4 * m + t) + s / 64 < 384 by omega)).1
  have e : jushrL (lN (b (8 * (4 * m + t) + s / 64))) (nI (s % 64)) &&& 1 = lN (b (8 * (4 * m + t) + s / 64) / 2 ^ (s % 64) % 2) := wb_bit hb (by omega)
  rw [e, lg_cmp_eq, show (0 : Int64) = lN 0 from rfl, lN_eq (by omega) (by decide)]
  have hT' := hT m t s hm ht hs
  rw [Nat.testBit_eq_decide_div_mod_eq] at hT'
  refine ⟨vp_in_nI (by omega) (by omega), fun q => h0 (fun c => ?_), fun q => h1 ?_⟩
  · have := hT'.mpr ⟨Nat.zero_le _, c⟩
    simp at this
    omega
  · exact (hT'.mp (by simp; omega)).2
theorem there_top {A : Abs} (hK : KR A) {m : Nat} (hm : m < 12) : ∀ d, A 0 3 + d ≤ 4 → thereA A (4 * m + A 0 3) = thereA A (4 * m + A 0 3 + d)
  | 0, _ => rfl
  | d + 1, h => by
    rw [there_top hK hm d (by omega)]
    show _ = (manyA A ((4 * m + A 0 3 + d) / 4) ((4 * m + A 0 3 + d) % 4) 501 (thereA A (4 * m + A 0 3 + d))).2
    rw [many_none hK (show (4 * m + A 0 3 + d) / 4 < 12 by omega) (by omega) (there_le hK _ (by omega)) (by omega)]
def BO (A : Abs) (M : Mem) (k : Nat) : Prop := ∀ m t, m < 12 → t < A 0 3 → 4 * m + t < k → M.1 (77 + m) t = nI (buysA A m t)
theorem many_n {A : Abs} {m t : Nat} (hm : m < 12) (ht : t < 4) : ∀ f s, (manyA A m t f s).1 ≤ f
  | 0, _ => Nat.le_refl _
  | f + 1, s => by
    rw [many_s hm ht]
    by_cases q : lst A m t s < lst A m (t + 1) s
    · rw [if_pos q]
      have := many_n hm ht f (min 500 (s + A 13 t)) (A := A)
      show (manyA A m t f (min 500 (s + A 13 t))).1 + 1 ≤ f + 1
      omega
    · rw [if_neg q]
      exact Nat.zero_le _
theorem s_choose {A : Abs} (hK : KR A) {M0 M : Mem} (hC : KC0 A M0) {b : Nat → Nat} (hX : SX M0 M) (hB : BW M b) (hT : BT A 0 b) {post : Mem → Prop} (h : ∀ M', SX M M' → BO A M' 48 → (∀ k, k = 75 ∨ k = 98 → M'.1 k = M.1 k) → post M') : qX2_choose M post := by
  intro R7 R15 R26 R72 h7 h15 h26 h72
  have h4 := hK.1
  have inner : ∀ m t M', m < 12 → t < A 0 3 → SX M0 M' → BW M' b → ∀ f s n, s ≤ 500 → 501 - s ≤ f → n ≤ s → R72 (nI (manyA A m t f s).2) (nI m) (nI t) (nI (n + (manyA A m t f s).1)) M' → R26 (nI s) (nI m) (nI t) (nI n) M' := by
    intro m t M' hm ht hX' hB' f
    induction f with
    | zero => exact fun s n hs hf => absurd hf (by omega)
    | succ f ih =>
      intro s n hs hf hn hg
      rw [many_s hm (by omega)] at hg
      obtain ⟨n1, n2, n3, n4⟩ := (hX'.kc hK hC).2.2.2 t ht
      obtain ⟨k1, k2, k3, k4, k5⟩ := hK.2.2.2 t ht
      have stop : ¬ lst A m t s < lst A m (t + 1) s → R72 (nI s) (nI m) (nI t) (nI n) M' := by
        intro q
        rw [if_neg q] at hg
        exact hg
      have e500 : s = 500 → ¬ lst A m t s < lst A m (t + 1) s := by
        intro e
        rw [e, lst_500 hK hm (by omega)]
        omega
      apply h26
      unfold qX2_choose_b26
      rw [show (500 : Int32) = nI 500 from rfl, nI_leI (by omega) (by omega), nI_leI (by omega) (by omega)]
      refine ⟨fun q => stop (e500 (by omega)), fun q => ⟨fun q2 => stop (e500 (by omega)), fun q2 => ?_⟩⟩
      refine s_mustBuy hB' hT hm (show t < 4 by omega) (show s < 500 by omega) (fun c => b1_e ?_) (fun c => b0_e (stop c))
      rw [if_pos c] at hg
      refine ⟨vp_in_nI (by omega) (by omega), ?_⟩
      rw [nI_clamp (show t < 2 ^ 31 by omega), n1, nI_add, jmin_nI (by omega) (by omega)]
      rintro _ rfl _ rfl
      rw [nI_1]
      refine ih _ _ (by omega) (by omega) (by omega) ?_
      rw [show n + 1 + (manyA A m t f (min 500 (s + A 13 t))).1 = n + ((manyA A m t f (min 500 (s + A 13 t))).1 + 1) by omega]
      exact hg
  have outer : ∀ d k, k + d = 48 → ∀ M', SX M M' → BW M' b → BO A M' k → (∀ k, k = 75 ∨ k = 98 → M'.1 k = M.1 k) → k % 4 ≤ A 0 3 → (k % 4 = 0 → R7 (nI (thereA A k)) (nI (k / 4)) M') ∧ (k < 48 → R15 (nI (thereA A k)) (nI (k / 4)) (nI (k % 4)) M') := by
    intro d
    induction d using Nat.strongRecOn with
    | ind d ih =>
      intro k hk M' hX' hB' hO hE hle
      have r15 : k < 48 → R15 (nI (thereA A k)) (nI (k / 4)) (nI (k % 4)) M' := by
        intro hk48
        apply h15
        unfold qX2_choose_b15
        have hC' := (hX.tr hX').kc hK hC
        rw [hC'.1, nI_leI (by omega) (by omega)]
        refine ⟨fun q => ?_, fun q => ?_⟩
        · rintro _ rfl
          rw [nI_1]
          have e : k = 4 * (k / 4) + A 0 3 := by omega
          have et := there_top hK (show k / 4 < 12 by omega) (4 - A 0 3) (by omega)
          rw [show 4 * (k / 4) + A 0 3 + (4 - A 0 3) = 4 * (k / 4 + 1) by omega, ← e] at et
          have hO' : BO A M' (4 * (k / 4 + 1)) := fun m t hm ht hlt => hO m t hm ht (by omega)
          have ih' := (ih (48 - 4 * (k / 4 + 1)) (by omega) (4 * (k / 4 + 1)) (by omega) M' hX' hB' hO' hE (by omega)).1 (by omega)
          rw [show 4 * (k / 4 + 1) / 4 = k / 4 + 1 by omega, ← et] at ih'
          exact ih'
        · refine inner (k / 4) (k % 4) M' (by omega) (by omega) (hX.tr hX') hB' 501 (thereA A k) 0 (there_le hK k (by omega)) (by omega) (Nat.zero_le _) ?_
          apply h72
          refine ⟨vp_in_nI (by omega) (by omega), vp_in_nI (by omega) (by omega), ?_⟩
          rw [Nat.zero_add, nI_clamp (show k / 4 < 2 ^ 31 by omega), nI_clamp (show k % 4 < 2 ^ 31 by omega)]
          rintro _ rfl _ rfl
          rw [nI_1]
          have eb : (manyA A (k / 4) (k % 4) 501 (thereA A k)).1 = buysA A (k / 4) (k % 4) := by
            unfold buysA
            rw [show 4 * (k / 4) + k % 4 = k by omega]
          have hX2 : SX M (sA M' (77 + k / 4) (k % 4) (nI (manyA A (k / 4) (k % 4) 501 (thereA A k)).1)) := hX'.tr (SX.p77 _ _ _ (by omega))
          have hO2 : BO A (sA M' (77 + k / 4) (k % 4) (nI (manyA A (k / 4) (k % 4) 501 (thereA A k)).1)) (k + 1) := by
            intro m t hm ht hlt
            rw [sA_g]
            by_cases c : 77 + m = 77 + k / 4 ∧ t = k % 4
            · rw [if_pos c, eb, show m = k / 4 by omega, c.2]
            · rw [if_neg c]
              exact hO m t hm ht (by omega)
          have hE2 : ∀ q, q = 75 ∨ q = 98 → (sA M' (77 + k / 4) (k % 4) (nI (manyA A (k / 4) (k % 4) 501 (thereA A k)).1)).1 q = M.1 q := fun q hq => by rw [sA_1 q (by omega)]; exact hE q hq
          have e3 : (manyA A (k / 4) (k % 4) 501 (thereA A k)).2 = thereA A (k + 1) := rfl
          rw [e3]
          by_cases q3 : k % 4 = 3
          · -- the month's last type
            have ih' := (ih (d - 1) (by omega) (k + 1) (by omega) _ hX2 hB' hO2 hE2 (by omega)).1 (by omega)
            apply h15
            unfold qX2_choose_b15
            have hC2 := (hX.tr hX2).kc hK hC
            rw [hC2.1, nI_leI (by omega) (by omega)]
            refine ⟨fun _ => ?_, fun c => absurd c (by omega)⟩
            rintro _ rfl
            rw [nI_1, show k / 4 + 1 = (k + 1) / 4 by omega]
            exact ih'
          · have ih' := (ih (d - 1) (by omega) (k + 1) (by omega) _ hX2 hB' hO2 hE2 (by omega)).2 (by omega)
            rw [show (k + 1) / 4 = k / 4 by omega, show (k + 1) % 4 = k % 4 + 1 by omega] at ih'
            exact ih'
      refine ⟨fun h0 => ?_, r15⟩
      apply h7
      unfold qX2_choose_b7
      rw [show (12 : Int32) = nI 12 from rfl, nI_leI (by omega) (by omega)]
      refine ⟨fun q => ?_, fun q => ?_⟩
      · have e : k = 48 := by omega
        subst e
        exact h M' hX' hO hE
      · have := r15 (by omega)
        rw [h0] at this
        exact this
  rintro _ rfl
  have hC1 := hX.kc hK hC
  rw [hC1.2.1]
  exact (outer 48 0 (by omega) M (SX.rf M) hB (fun m t _ _ c => absurd c (by omega)) (fun _ _ => rfl) (by omega)).1 rfl

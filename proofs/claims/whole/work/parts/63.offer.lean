/-! BUYING: the class offers a type in a month -/
def SX (M M' : Mem) : Prop := (∀ k, k ≠ 99 → M'.2 k = M.2 k) ∧ (∀ k, k < 75 → M'.1 k = M.1 k) ∧ (∀ k, 89 ≤ k → k ≠ 98 → M'.1 k = M.1 k) ∧ ∀ j, j ≠ 1 → M'.1 75 j = M.1 75 j
theorem SX.rf (M : Mem) : SX M M := ⟨fun _ _ => rfl, fun _ _ => rfl, fun _ _ _ => rfl, fun _ _ => rfl⟩
theorem SX.tr {M M' M2 : Mem} (h : SX M M') (k : SX M' M2) : SX M M2 := ⟨fun a b => (k.1 a b).trans (h.1 a b), fun a b => (k.2.1 a b).trans (h.2.1 a b), fun a b c => (k.2.2.1 a b c).trans (h.2.2.1 a b c), fun a b => (k.2.2.2 a b).trans (h.2.2.2 a b)⟩
theorem SX.kc {A : Abs} (hK : KR A) {M M' : Mem} (h : SX M M') (k : KC0 A M) : KC0 A M' := by
  unfold KC0
  rw [h.2.2.2 0 (by decide), h.2.2.2 3 (by decide), h.2.2.1 89 (by decide) (by decide), h.2.2.1 90 (by decide) (by decide), h.2.2.1 91 (by decide) (by decide), h.2.2.1 92 (by decide) (by decide)]
  refine ⟨k.1, k.2.1, k.2.2.1, fun t ht => ?_⟩
  have h4 := hK.1
  rw [h.2.2.1 (94 + t) (by omega) (by omega)]
  exact k.2.2.2 t ht
theorem SX.p98 {M : Mem} (j : Nat) (v : Int32) : SX M (sA M 98 j v) := ⟨fun _ _ => rfl, fun k hk => sA_1 k (by omega), fun k _ h => sA_1 k h, fun j _ => by rw [sA_1 75 (by decide)]⟩
theorem SX.r98 {M : Mem} (f : Nat → Int32) : SX M (sAr M 98 f) := ⟨fun _ _ => rfl, fun k hk => by rw [sAr_g, if_neg (by omega)], fun k _ h => by rw [sAr_g, if_neg h], fun j _ => by rw [sAr_g, if_neg (by decide)]⟩
theorem SX.p99 {M : Mem} (j : Nat) (v : Int64) : SX M (sB M 99 j v) := ⟨fun k h => sB_1 k h, fun _ _ => rfl, fun _ _ _ => rfl, fun _ _ => rfl⟩
theorem SX.r99 {M : Mem} (f : Nat → Int64) : SX M (sBr M 99 f) := ⟨fun k h => sBr_1 k h, fun _ _ => rfl, fun _ _ _ => rfl, fun _ _ => rfl⟩
theorem SX.p75 {M : Mem} (j : Nat) (v : Int32) (h : j = 1) : SX M (sA M 75 j v) := ⟨fun _ _ => rfl, fun k hk => sA_1 k (by omega), fun k hk _ => sA_1 k (by omega), fun i h1 => by rw [sA_g, if_neg (by omega)]⟩
theorem SX.p77 {M : Mem} (m j : Nat) (v : Int32) (h : m < 12) : SX M (sA M (77 + m) j v) := ⟨fun _ _ => rfl, fun k hk => sA_1 k (by omega), fun k hk _ => sA_1 k (by omega), fun i h1 => by rw [sA_1 75 (by omega)]⟩
/-- the bits of what must be bought: from place i on -/
def BW (M : Mem) (b : Nat → Nat) : Prop := ∀ w, w < 384 → b w < 2 ^ 64 ∧ M.2 99 w = lN (b w)
def BT (A : Abs) (i : Nat) (b : Nat → Nat) : Prop := ∀ m t s, m < 12 → t < 4 → s < 500 → ((b (8 * (4 * m + t) + s / 64)).testBit (s % 64) = true ↔ i ≤ 501 * (4 * m + t) + s ∧ lst A m t s < lst A m (t + 1) s)
theorem BT.sh {A : Abs} {i i' : Nat} {b : Nat → Nat} (h : BT A i b) (hi : i' ≤ i) (hn : ∀ m t s, m < 12 → t < 4 → s < 500 → i' ≤ 501 * (4 * m + t) + s → 501 * (4 * m + t) + s < i → ¬ lst A m t s < lst A m (t + 1) s) : BT A i' b := by
  intro m t s hm ht hs
  rw [h m t s hm ht hs]
  constructor
  · exact fun q => ⟨by omega, q.2⟩
  · intro q
    refine ⟨?_, q.2⟩
    rcases Nat.lt_or_ge (501 * (4 * m + t) + s) i with c | c
    · exact absurd q.2 (hn m t s hm ht hs q.1 c)
    · exact c
theorem s_word {m t s : Nat} {M : Mem} (hs : s < 500) {post : Int32 → Mem → Prop} (h : post (nI (8 * (4 * m + t) + s / 64)) M) : qX2_word (nI m) (nI t) (nI s) M post := by
  unfold qX2_word
  rw [show (6 : Int32) = nI 6 from rfl, bx_shr (by omega) (by omega), show (4 : Int32) = nI 4 from rfl, show (8 : Int32) = nI 8 from rfl, pk_mul, nI_add, pk_mul, nI_add, show (m * 4 + t) * 8 + s / 2 ^ 6 = 8 * (4 * m + t) + s / 64 by omega]
  exact h
theorem bx_63 (s : Nat) : nI s &&& (63 : Int32) = nI (s % 64) := by
  rw [show (63 : Int32) = nI 63 from rfl, bx_and]
  congr 1
  exact Nat.and_two_pow_sub_one_eq_mod s 6
theorem bl_shl {k : Nat} (hk : k < 64) : jshlL 1 (nI k) = lN (2 ^ k) := by
  unfold jshlL
  rw [show (1 : Int64) = lN 1 from rfl, wb_shl 1 hk, Nat.one_mul]
theorem p2_64 {k : Nat} (hk : k < 64) : 2 ^ k < 2 ^ 64 := Nat.pow_lt_pow_right (by decide) hk
theorem BW.set {M : Mem} {b : Nat → Nat} (h : BW M b) {w k : Nat} (hw : w < 384) (hk : k < 64) : BW (sB M 99 w (M.2 99 w ||| jshlL 1 (nI k))) (uN b w (b w ||| 2 ^ k)) := by
  intro x hx
  obtain ⟨h1, h2⟩ := h w hw
  rw [sB_g]
  unfold uN
  by_cases e : x = w
  · rw [if_pos e, if_pos ⟨rfl, e⟩, h2, bl_shl hk, wb_or h1 (p2_64 hk)]
    exact ⟨Nat.or_lt_two_pow h1 (p2_64 hk), rfl⟩
  · rw [if_neg e, if_neg (fun c => e c.2)]
    exact h x hx
theorem BT.set {A : Abs} {b : Nat → Nat} {m t s : Nat} (hm : m < 12) (ht : t < 4) (hs : s < 500) (h : BT A (501 * (4 * m + t) + (s + 1)) b) (hl : lst A m t s < lst A m (t + 1) s) : BT A (501 * (4 * m + t) + s) (uN b (8 * (4 * m + t) + s / 64) (b (8 * (4 * m + t) + s / 64) ||| 2 ^ (s % 64))) := by
  intro m' t' s' hm' ht' hs'
  have h' := h m' t' s' hm' ht' hs'
  unfold uN
  by_cases e : 8 * (4 * m' + t') + s' / 64 = 8 * (4 * m + t) + s / 64
  · rw [if_pos e, Nat.testBit_or, Nat.testBit_two_pow]
    rw [e] at h'
    by_cases e2 : s % 64 = s' % 64
    · have e3 : m' = m := by omega
      have e4 : t' = t := by omega
      have e5 : s' = s := by omega
      subst e3 e4 e5
      simp [hl]
    · rw [show decide (s % 64 = s' % 64) = false from decide_eq_false e2, Bool.or_false, h']
      constructor
      · exact fun q => ⟨by omega, q.2⟩
      · exact fun q => ⟨by omega, q.2⟩
  · rw [if_neg e, h']
    constructor
    · exact fun q => ⟨by omega, q.2⟩
    · intro q
      refine ⟨?_, q.2⟩
      have q1 := q.1
      rcases Nat.lt_or_ge (501 * (4 * m' + t') + s') (501 * (4 * m + t) + (s + 1)) with c | c
      · have e3 : 4 * m' + t' = 4 * m + t := by omega
        have e4 : s' = s := by omega
        rw [e3, e4] at e
        exact absurd rfl e
      · exact c
def cap (x : Nat) : Nat := min x 1000000000
def OP (M0 : Mem) (A : Abs) (m t n : Nat) (M : Mem) : Prop := SX M0 M ∧ (∀ s, s ≤ 500 → M.1 98 s = nI (cap (if n ≤ s then lst A m t s else lst A m (t + 1) s))) ∧ ∃ b, BW M b ∧ BT A (501 * (4 * m + t) + n) b
theorem s_offer {A : Abs} (hK : KR A) {M0 M : Mem} (hC : KC0 A M0) {m t : Nat} (hm : m < 12) (ht : t < A 0 3) (hl : A 14 t ≤ m) (hO : OP M0 A m t 500 M) {post : Mem → Prop} (h : ∀ M', OP M0 A m t 0 M' → post M') : qX2_offer (nI m) (nI t) M post := by
  intro R33 h33
  have h4 := hK.1
  obtain ⟨k1, k2, k3, k4, k5⟩ := hK.2.2.2 t ht
  have hC1 := hO.1.kc hK hC
  obtain ⟨n1, n2, n3, n4⟩ := hC1.2.2.2 t ht
  have htk := takesA_le hK ht hl hm
  rw [nI_clamp (show t < 2 ^ 31 by omega), n2, n3, pk_sub hl, nI_clamp (show m - A 14 t < 2 ^ 31 by omega), n4 (m - A 14 t) (by omega), show (12 : Int32) = nI 12 from rfl, pk_sub (by omega), pk_mul, nI_add]
  refine ⟨vp_in_nI (by omega) (by omega), vp_in_nI (by omega) (by omega), vp_in_nI (by omega) (by omega), vp_in_nI (by omega) (by omega), ?_⟩
  rintro _ rfl
  show R33 (nI (takesA A t m)) 499 M
  have key : ∀ n, n ≤ 500 → ∀ M', OP M0 A m t n M' → R33 (nI (takesA A t m)) (nI n + (-1)) M' := by
    intro n
    induction n with
    | zero =>
      intro _ M' hO'
      apply h33
      exact ⟨fun _ => h M' hO', fun q => absurd (by decide) q⟩
    | succ s ih =>
      intro hn M' hO'
      rw [pk_m1]
      apply h33
      refine ⟨fun q => absurd q (nI_pos (by omega)), fun _ => ⟨vp_in_nI (by omega) (by omega), ?_⟩⟩
      have hC2 := hO'.1.kc hK hC
      obtain ⟨g1, g2, b, hB, hT⟩ := hO'
      rw [nI_clamp (show t < 2 ^ 31 by omega), (hC2.2.2.2 t ht).1, nI_add, show (500 : Int32) = nI 500 from rfl, jmin_nI (by omega) (by omega), nI_clamp (show min 500 (s + A 13 t) < 2 ^ 31 by omega), nI_clamp (show s < 2 ^ 31 by omega), g2 _ (show min 500 (s + A 13 t) ≤ 500 by omega), g2 s (by omega), if_pos (by omega), if_neg (by omega), nI_add]
      refine ⟨vp_in_nI (by omega) (by omega), ?_⟩
      rintro _ rfl
      refine ⟨vp_in_nI (by omega) (by omega), ?_⟩
      have b1 := lst_b hK (show m ≤ 12 by omega) (show t ≤ 4 by omega) (show min 500 (s + A 13 t) ≤ 500 by omega)
      have b2 := lst_b hK (show m ≤ 12 by omega) (show t + 1 ≤ 4 by omega) (show s ≤ 500 by omega)
      have b3 := lst_b hK (show m ≤ 12 by omega) (show t ≤ 4 by omega) (show s ≤ 500 by omega)
      have e := lst_s hK hm (show t < 4 by omega) (show s ≤ 500 by omega)
      rw [if_pos ⟨ht, hl, by omega⟩] at e
      have e' : (lst A m t (min 500 (s + A 13 t)) < 2000000000 ∧ lst A m t s = min (lst A m (t + 1) s) (lst A m t (min 500 (s + A 13 t)) + takesA A t m)) ∨ (2000000000 ≤ lst A m t (min 500 (s + A 13 t)) ∧ lst A m t s = lst A m (t + 1) s) := by
        by_cases q : lst A m t (min 500 (s + A 13 t)) < NEV
        · rw [if_pos q] at e
          exact Or.inl ⟨q, e⟩
        · rw [if_neg q] at e
          unfold NEV at q
          exact Or.inr ⟨by omega, e⟩
      unfold cap NEV at *
      rw [nI_leI (by omega) (by omega)]
      refine ⟨fun q => ?_, fun q => ⟨vp_in_nI (by omega) (by omega), ?_⟩⟩
      · rintro _ rfl
        refine ih (by omega) M' ⟨g1, fun x hx => ?_, b, hB, hT.sh (by omega) (fun m' t' s' hm' ht' hs' c1 c2 => ?_)⟩
        · rw [g2 x hx]
          unfold cap
          by_cases c : s + 1 ≤ x
          · rw [if_pos c, if_pos (by omega)]
          · rw [if_neg c]
            by_cases c2 : s ≤ x
            · rw [if_pos c2, show x = s by omega]
              congr 1
              omega
            · rw [if_neg c2]
        · have e3 : m' = m := by omega
          have e4 : t' = t := by omega
          have e5 : s' = s := by omega
          rw [e3, e4, e5]
          omega
      · rintro _ rfl
        refine s_word (by omega) ?_
        rw [bx_63, nI_clamp (show 8 * (4 * m + t) + s / 64 < 2 ^ 31 by omega)]
        refine ⟨vp_in_nI (by omega) (by omega), vp_in_nI (by omega) (by omega), ?_⟩
        rintro _ rfl _ rfl
        refine ih (by omega) _ ⟨(g1.tr (SX.p98 _ _)).tr (SX.p99 _ _), fun x hx => ?_, _, BW.set (M := sA M' 98 s _) hB (show 8 * (4 * m + t) + s / 64 < 384 by omega) (show s % 64 < 64 by omega), hT.set hm (by omega) (by omega) (by omega)⟩
        rw [sB_x, sA_g]
        unfold cap
        by_cases c : x = s
        · rw [if_pos ⟨rfl, c⟩, if_pos (by omega), c]
          congr 1
          omega
        · rw [if_neg (fun d => c d.2), g2 x hx]
          by_cases c2 : s + 1 ≤ x
          · rw [if_pos c2, if_pos (by omega)]
          · rw [if_neg c2, if_neg (by omega)]
  exact key 500 (Nat.le_refl _) M hO

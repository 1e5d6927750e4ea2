/-! BITS of small numbers as ints; choice without instances; greatest members -/
noncomputable def cI (p : Prop) {α : Type} (a b : α) : α := @ite α p (Classical.propDecidable p) a b
theorem cI_t {p : Prop} {α : Type} {a b : α} (h : p) : cI p a b = a := @if_pos p (Classical.propDecidable p) h α a b
theorem cI_f {p : Prop} {α : Type} {a b : α} (h : ¬ p) : cI p a b = b := @if_neg p (Classical.propDecidable p) h α a b
theorem cI_iff {p q : Prop} {α : Type} {a b : α} (h : p ↔ q) : cI p a b = cI q a b := by
  by_cases hp : p
  · rw [cI_t hp, cI_t (h.mp hp)]
  · rw [cI_f hp, cI_f (fun x => hp (h.mpr x))]
theorem bx_and (a b : Nat) : nI a &&& nI b = nI (a &&& b) := by
  apply Int32.toBitVec_inj.1
  show BitVec.ofNat 32 a &&& BitVec.ofNat 32 b = BitVec.ofNat 32 (a &&& b)
  apply BitVec.eq_of_getLsbD_eq
  intro i hi
  simp [hi]
theorem bx_or (a b : Nat) : nI a ||| nI b = nI (a ||| b) := by
  apply Int32.toBitVec_inj.1
  show BitVec.ofNat 32 a ||| BitVec.ofNat 32 b = BitVec.ofNat 32 (a ||| b)
  apply BitVec.eq_of_getLsbD_eq
  intro i hi
  simp [hi]
theorem bx_xor (a b : Nat) : nI a ^^^ nI b = nI (a ^^^ b) := by
  apply Int32.toBitVec_inj.1
  show BitVec.ofNat 32 a ^^^ BitVec.ofNat 32 b = BitVec.ofNat 32 (a ^^^ b)
  apply BitVec.eq_of_getLsbD_eq
  intro i hi
  simp [hi]
theorem bx_cnt : ∀ n, n < 32 → ((nI n &&& 31).toBitVec.smod 32).toNat = n := by decide +kernel
theorem bx_p2 {k : Nat} (h : k < 31) : 2 ^ k < 2 ^ 31 := Nat.pow_lt_pow_right (by decide) h
theorem bx_shl {k : Nat} (h : k < 31) : (1 : Int32) <<< (nI k &&& 31) = nI (2 ^ k) := by
  have h2 := bx_p2 h
  show nI 1 <<< (nI k &&& 31) = _
  rw [pk_shlN (n := 1) (nI k &&& 31) k (bx_cnt k (by omega)) (by omega), Nat.one_mul]
theorem bx_shr {a k : Nat} (ha : a < 2 ^ 31) (h : k < 32) : nI a >>> (nI k &&& 31) = nI (a / 2 ^ k) := pk_shrN ha (nI k &&& 31) k (bx_cnt k h)
theorem bx_bit {a k : Nat} (ha : a < 2 ^ 31) (h : k < 32) : (nI a >>> (nI k &&& 31)) &&& 1 = nI (if a.testBit k then 1 else 0) := by
  rw [bx_shr ha h]
  show nI (a / 2 ^ k) &&& nI 1 = _
  rw [bx_and, Nat.and_one_is_mod, Nat.testBit_eq_decide_div_mod_eq]
  congr 1
  by_cases hq : a / 2 ^ k % 2 = 1
  · rw [if_pos (by simpa using hq), hq]
  · rw [if_neg (by simpa using hq)]
    omega
theorem bx_not {a b : Nat} : nI a &&& (nI b ^^^ (-1)) = nI (a &&& (b ^^^ 4294967295)) := by
  rw [show (-1 : Int32) = nI 4294967295 from rfl, bx_xor, bx_and]
/-- the set of those below n with P -/
def mk (P : Nat → Bool) : Nat → Nat
  | 0 => 0
  | n + 1 => mk P n ||| (if P n then 2 ^ n else 0)
theorem mk_lt (P : Nat → Bool) : ∀ n, mk P n < 2 ^ n
  | 0 => by show 0 < 2 ^ 0; decide
  | n + 1 => by
    have h1 := mk_lt P n
    have h2 : 2 ^ (n + 1) = 2 ^ n + 2 ^ n := by omega
    show mk P n ||| (if P n then 2 ^ n else 0) < 2 ^ (n + 1)
    apply Nat.or_lt_two_pow
    · omega
    · by_cases hp : P n = true
      · rw [if_pos hp]; have := Nat.two_pow_pos n; omega
      · rw [if_neg hp]; exact Nat.two_pow_pos _
theorem mk_bit (P : Nat → Bool) (k : Nat) : ∀ n, (mk P n).testBit k = (decide (k < n) && P k)
  | 0 => by show (0 : Nat).testBit k = _; simp
  | n + 1 => by
    show (mk P n ||| (if P n then 2 ^ n else 0)).testBit k = _
    rw [Nat.testBit_or, mk_bit P k n]
    by_cases hk : k = n
    · subst hk
      by_cases hp : P k = true
      · simp [hp]
      · simp [hp]
    · by_cases hp : P n = true
      · rw [if_pos hp, Nat.testBit_two_pow]
        by_cases h : k < n
        · simp [h, show k < n + 1 by omega, show ¬ n = k by omega]
        · simp [h, show ¬ k < n + 1 by omega, show ¬ n = k by omega]
      · rw [if_neg hp]
        by_cases h : k < n
        · simp [h, show k < n + 1 by omega]
        · simp [h, show ¬ k < n + 1 by omega]
theorem mk_congr {P P' : Nat → Bool} {n : Nat} (h : ∀ k, k < n → P k = P' k) : mk P n = mk P' n := by
  apply Nat.eq_of_testBit_eq
  intro k
  rw [mk_bit, mk_bit]
  by_cases hk : k < n
  · rw [h k hk]
  · simp [hk]
theorem bit_lt {a n k : Nat} (ha : a < 2 ^ n) (h : n ≤ k) : a.testBit k = false := Nat.testBit_lt_two_pow (Nat.lt_of_lt_of_le ha (Nat.pow_le_pow_right (by decide) h))
theorem lt_of_bits {a n : Nat} (h : ∀ k, n ≤ k → a.testBit k = false) : a < 2 ^ n := by
  apply Nat.lt_pow_two_of_testBit
  exact h
/-! SUBSETS -/
def sb (t s : Nat) : Prop := t &&& s = t
theorem sb_iff {t s : Nat} : sb t s ↔ ∀ k, t.testBit k = true → s.testBit k = true := by
  unfold sb
  constructor
  · intro h k hk
    rw [← h, Nat.testBit_and] at hk
    exact (Bool.and_eq_true_iff.mp hk).2
  · intro h
    apply Nat.eq_of_testBit_eq
    intro k
    rw [Nat.testBit_and]
    cases ht : t.testBit k with
    | false => rfl
    | true => rw [h k ht]; rfl
theorem sb_rf (s : Nat) : sb s s := Nat.and_self s
theorem sb_0 (s : Nat) : sb 0 s := Nat.zero_and s
theorem sb_tr {r t s : Nat} (h : sb r t) (k : sb t s) : sb r s := sb_iff.mpr fun i hi => sb_iff.mp k i (sb_iff.mp h i hi)
theorem sb_le {t s : Nat} (h : sb t s) : t ≤ s := by rw [← h]; exact Nat.and_le_right
theorem sb_and (t s : Nat) : sb (t &&& s) s := by unfold sb; rw [Nat.and_assoc, Nat.and_self]
theorem sb_xor {t s : Nat} (h : sb t s) : sb (s ^^^ t) s := sb_iff.mpr fun i hi => by
  rw [Nat.testBit_xor] at hi
  cases hs : s.testBit i with
  | true => rfl
  | false =>
    cases ht : t.testBit i with
    | false => rw [hs, ht] at hi; exact absurd hi (by decide)
    | true => have := sb_iff.mp h i ht; rw [hs] at this; exact absurd this (by decide)
/-- among the subsets of s, the next below t is (t - 1) &&& s -/
theorem sb_next : ∀ (t s x : Nat), sb t s → sb x s → x < t → x ≤ (t - 1) &&& s := by
  intro t
  induction t using Nat.strongRecOn with
  | ind t ih =>
    intro s x ht hx hlt
    have e : ∀ a b : Nat, a &&& b = 2 * (a / 2 &&& b / 2) + (a % 2) * (b % 2) := by
      intro a b
      have h1 := Nat.div_add_mod (a &&& b) 2
      have h2 : (a &&& b) / 2 = a / 2 &&& b / 2 := Nat.and_div_two
      have h3 : (a &&& b) % 2 = (a % 2) * (b % 2) := by
        have h : (a &&& b) % 2 = 1 ↔ (a % 2 = 1 ∧ b % 2 = 1) := by
          rw [Nat.mod_two_eq_one_iff_testBit_zero, Nat.mod_two_eq_one_iff_testBit_zero, Nat.mod_two_eq_one_iff_testBit_zero, Nat.testBit_and, Bool.and_eq_true]
        have hc := Nat.mod_two_eq_zero_or_one (a &&& b)
        rcases Nat.mod_two_eq_zero_or_one a with ha | ha <;> rcases Nat.mod_two_eq_zero_or_one b with hb | hb <;> rw [ha, hb] at h ⊢ <;> omega
      omega
    have ht2 : sb (t / 2) (s / 2) := by
      have := e t s
      rw [ht] at this
      unfold sb
      have hle : t / 2 &&& s / 2 ≤ t / 2 := Nat.and_le_left
      have : (t % 2) * (s % 2) ≤ t % 2 := by
        rcases Nat.mod_two_eq_zero_or_one s with hb | hb <;> rw [hb] <;> omega
      omega
    have hx2 : sb (x / 2) (s / 2) := by
      have := e x s
      rw [hx] at this
      unfold sb
      have hle : x / 2 &&& s / 2 ≤ x / 2 := Nat.and_le_left
      have : (x % 2) * (s % 2) ≤ x % 2 := by
        rcases Nat.mod_two_eq_zero_or_one s with hb | hb <;> rw [hb] <;> omega
      omega
    have hxb : x % 2 ≤ s % 2 := by
      have := e x s
      rw [hx, hx2] at this
      rcases Nat.mod_two_eq_zero_or_one s with hb | hb
      · rw [hb] at this; omega
      · omega
    have e2 := e (t - 1) s
    rcases Nat.mod_two_eq_zero_or_one t with h0 | h1
    · have hd : (t - 1) / 2 = t / 2 - 1 := by omega
      have hm : (t - 1) % 2 = 1 := by omega
      have hi := ih (t / 2) (by omega) (s / 2) (x / 2) ht2 hx2 (by omega)
      rw [hd, hm] at e2
      omega
    · have hd : (t - 1) / 2 = t / 2 := by omega
      have hm : (t - 1) % 2 = 0 := by omega
      rw [hd, hm, ht2] at e2
      omega
/-- the greatest number up to t, but 0, that has P; else 0 -/
noncomputable def gs (P : Nat → Prop) : Nat → Nat
  | 0 => 0
  | t + 1 => cI (P (t + 1)) (t + 1) (gs P t)
theorem gs_le (P : Nat → Prop) : ∀ t, gs P t ≤ t
  | 0 => Nat.le_refl 0
  | t + 1 => by
    show cI (P (t + 1)) (t + 1) (gs P t) ≤ t + 1
    by_cases h : P (t + 1)
    · rw [cI_t h]; exact Nat.le_refl _
    · rw [cI_f h]; have := gs_le P t; omega
theorem gs_in (P : Nat → Prop) : ∀ t, gs P t = 0 ∨ P (gs P t)
  | 0 => Or.inl rfl
  | t + 1 => by
    show cI (P (t + 1)) (t + 1) (gs P t) = 0 ∨ P (cI (P (t + 1)) (t + 1) (gs P t))
    by_cases h : P (t + 1)
    · rw [cI_t h]; exact Or.inr h
    · rw [cI_f h]; exact gs_in P t
theorem gs_hit {P : Nat → Prop} {t : Nat} (h0 : 0 < t) (h : P t) : gs P t = t := by
  cases t with
  | zero => omega
  | succ t => exact cI_t h
theorem gs_skip {P : Nat → Prop} {t u : Nat} (hu : u ≤ t) (h : ∀ x, u < x → x ≤ t → ¬ P x) : gs P t = gs P u := by
  obtain ⟨d, rfl⟩ : ∃ d, t = u + d := ⟨t - u, by omega⟩
  induction d with
  | zero => rfl
  | succ d ih =>
    show cI (P (u + d + 1)) (u + d + 1) (gs P (u + d)) = _
    rw [cI_f (h (u + d + 1) (by omega) (by omega))]
    exact ih (by omega) (fun x h1 h2 => h x h1 (by omega))
theorem gs_pos {P : Nat → Prop} {t x : Nat} (h0 : 0 < x) (hx : x ≤ t) (h : P x) : x ≤ gs P t := by
  induction t with
  | zero => omega
  | succ t ih =>
    show x ≤ cI (P (t + 1)) (t + 1) (gs P t)
    by_cases hp : P (t + 1)
    · rw [cI_t hp]; exact hx
    · rw [cI_f hp]
      by_cases e : x = t + 1
      · subst e; exact absurd h hp
      · exact ih (by omega)
theorem gs_congr {P P' : Nat → Prop} : ∀ t, (∀ x, 0 < x → x ≤ t → (P x ↔ P' x)) → gs P t = gs P' t
  | 0, _ => rfl
  | t + 1, h => by
    show cI (P (t + 1)) (t + 1) (gs P t) = cI (P' (t + 1)) (t + 1) (gs P' t)
    rw [gs_congr t (fun x h1 h2 => h x h1 (by omega)), cI_iff (h (t + 1) (by omega) (Nat.le_refl _))]

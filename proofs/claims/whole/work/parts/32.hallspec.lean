/-! THE HALL, said plainly: sets of asks are numbers, by their bits -/
/-- the sum of f over the members of s below n -/
def sumB (f : Nat → Nat) (s : Nat) : Nat → Nat
  | 0 => 0
  | n + 1 => sumB f s n + (if s.testBit n = true then f n else 0)
theorem sumB_congr {f g : Nat → Nat} {s t : Nat} : ∀ n, (∀ k, k < n → f k = g k) → (∀ k, k < n → s.testBit k = t.testBit k) → sumB f s n = sumB g t n
  | 0, _, _ => rfl
  | n + 1, h, h2 => by
    show sumB f s n + _ = sumB g t n + _
    rw [sumB_congr n (fun k hk => h k (by omega)) (fun k hk => h2 k (by omega)), h n (by omega), h2 n (by omega)]
theorem sumB_0 {f : Nat → Nat} : ∀ n, sumB f 0 n = 0
  | 0 => rfl
  | n + 1 => by
    show sumB f 0 n + _ = 0
    rw [sumB_0 n, Nat.zero_testBit]
    rfl
/-- a set and its part taken off -/
theorem sumB_split {f : Nat → Nat} {s t : Nat} (h : sb t s) : ∀ n, sumB f t n + sumB f (s ^^^ t) n = sumB f s n
  | 0 => rfl
  | n + 1 => by
    have ih := sumB_split h n (f := f)
    show (sumB f t n + _) + (sumB f (s ^^^ t) n + _) = sumB f s n + _
    rw [Nat.testBit_xor]
    cases ht : t.testBit n with
    | true =>
      have hs := sb_iff.mp h n ht
      rw [hs]
      simp
      omega
    | false =>
      cases hs : s.testBit n with
      | true => simp; omega
      | false => simp; omega
theorem sumB_mono {f : Nat → Nat} {s t : Nat} (h : sb t s) (n : Nat) : sumB f t n ≤ sumB f s n := by
  have := sumB_split h n (f := f)
  omega
theorem sumB_le {f : Nat → Nat} {s b : Nat} : ∀ n, (∀ k, k < n → f k ≤ b) → sumB f s n ≤ b * n
  | 0, _ => by show 0 ≤ b * 0; omega
  | n + 1, h => by
    have ih := sumB_le n (fun k hk => h k (by omega)) (f := f) (s := s)
    have := h n (by omega)
    show sumB f s n + (if s.testBit n = true then f n else 0) ≤ b * (n + 1)
    rw [Nat.mul_succ]
    by_cases hs : s.testBit n = true
    · rw [if_pos hs]; omega
    · rw [if_neg hs]; omega
theorem sumB_alone {f : Nat → Nat} {a s : Nat} (hs : s < 2 ^ a) : ∀ n, sumB f (2 ^ a ||| s) n = sumB f s n + (if a < n then f a else 0)
  | 0 => rfl
  | n + 1 => by
    have ih := sumB_alone hs n (f := f)
    show sumB f (2 ^ a ||| s) n + _ = (sumB f s n + _) + _
    rw [ih, Nat.testBit_or, Nat.testBit_two_pow]
    by_cases ha : a = n
    · subst ha
      have h1 : s.testBit a = false := bit_lt hs (Nat.le_refl _)
      simp [h1]
    · by_cases h2 : a < n
      · simp [ha, h2, show a < n + 1 by omega]
        omega
      · simp [ha, h2, show ¬ a < n + 1 by omega]
/-- two of the set are apart -/
def clashP (fo : Nat → Nat) (na : Nat) (s : Nat) : Prop := ∃ a, a < na ∧ s.testBit a = true ∧ ¬ s &&& fo a = 0
/-- the members of t can stand on machine k -/
def okP (na : Nat) (nd fo sz : Nat → Nat) (k t : Nat) : Prop := sumB nd t na ≤ sz k ∧ ¬ clashP fo na t
/-- s can be put on the last j of the twelve machines, those of st alone -/
def can (st : Nat → Bool) (ok : Nat → Nat → Prop) : Nat → Nat → Prop
  | 0, s => s = 0
  | j + 1, s => can st ok j s ∨ (st (11 - j) = true ∧ ∃ t, t ≠ 0 ∧ sb t s ∧ ok (11 - j) t ∧ can st ok j (s ^^^ t))
theorem can_0 {st : Nat → Bool} {ok : Nat → Nat → Prop} : ∀ j, can st ok j 0
  | 0 => rfl
  | j + 1 => Or.inl (can_0 j)
theorem can_up {st : Nat → Bool} {ok : Nat → Nat → Prop} {i j s : Nat} (h : can st ok i s) (hij : i ≤ j) : can st ok j s := by
  obtain ⟨d, rfl⟩ : ∃ d, j = i + d := ⟨j - i, by omega⟩
  induction d with
  | zero => exact h
  | succ d ih => exact Or.inl (ih (by omega))
theorem can_none {st : Nat → Bool} {ok : Nat → Nat → Prop} {j s : Nat} (h : ∀ k, 12 ≤ k + j → st k = false) : can st ok j s ↔ s = 0 := by
  induction j with
  | zero => exact Iff.rfl
  | succ j ih =>
    constructor
    · intro hc
      rcases hc with hc | ⟨hs, _⟩
      · exact (ih (fun k hk => h k (by omega))).mp hc
      · rw [h (11 - j) (by omega)] at hs
        exact absurd hs (by decide)
    · intro e
      subst e
      exact can_0 _
theorem can_congr {st st' : Nat → Bool} {ok ok' : Nat → Nat → Prop} {j : Nat} (h1 : ∀ k, k < 12 → 12 ≤ k + j → st k = st' k) : ∀ {s : Nat}, (∀ k t, k < 12 → 12 ≤ k + j → st k = true → sb t s → (ok k t ↔ ok' k t)) → (can st ok j s ↔ can st' ok' j s) := by
  induction j with
  | zero => intro s _; exact Iff.rfl
  | succ j ih =>
    intro s h2
    have e := h1 (11 - j)
    have i1 : can st ok j s ↔ can st' ok' j s := ih (fun k a b => h1 k a (by omega)) (fun k t a b => h2 k t a (by omega))
    show (_ ∨ _) ↔ (_ ∨ _)
    by_cases hj : j < 12
    · have e := h1 (11 - j) (by omega) (by omega)
      rw [i1, ← e]
      refine or_congr Iff.rfl (and_congr_right fun hst => exists_congr fun t => and_congr_right fun _ => and_congr_right fun ht => ?_)
      have i2 : can st ok j (s ^^^ t) ↔ can st' ok' j (s ^^^ t) := ih (fun k a b => h1 k a (by omega)) (fun k u a b c d => h2 k u a (by omega) c (sb_tr d (sb_xor ht)))
      rw [i2, h2 (11 - j) t (by omega) (by omega) hst ht]
    · have e := h1 0 (by omega) (by omega)
      have z : 11 - j = 0 := by omega
      rw [z, i1, ← e]
      refine or_congr Iff.rfl (and_congr_right fun hst => exists_congr fun t => and_congr_right fun _ => and_congr_right fun ht => ?_)
      have i2 : can st ok j (s ^^^ t) ↔ can st' ok' j (s ^^^ t) := ih (fun k a b => h1 k a (by omega)) (fun k u a b c d => h2 k u a (by omega) c (sb_tr d (sb_xor ht)))
      rw [i2, h2 0 t (by omega) (by omega) hst ht]
/-- what stands together -/
def sumS (st : Nat → Bool) (sz : Nat → Nat) : Nat → Nat
  | 0 => 0
  | j + 1 => sumS st sz j + (if st (11 - j) = true then sz (11 - j) else 0)
theorem can_sum {st : Nat → Bool} {na : Nat} {nd fo sz : Nat → Nat} {j s : Nat} (h : can st (okP na nd fo sz) j s) : sumB nd s na ≤ sumS st sz j := by
  induction j generalizing s with
  | zero =>
    have h0 : s = 0 := h
    subst h0
    rw [sumB_0]
    exact Nat.zero_le _
  | succ j ih =>
    show _ ≤ sumS st sz j + _
    rcases h with h | ⟨hs, t, _, ht, hok, hc⟩
    · have := ih h
      omega
    · rw [if_pos hs]
      have h1 := ih hc
      have h2 := sumB_split ht na (f := nd)
      have h3 := hok.1
      omega

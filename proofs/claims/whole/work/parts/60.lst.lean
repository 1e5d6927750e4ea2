/-! BUYING: what is yet to pay, its laws -/
theorem takesA_le {A : Abs} (hK : KR A) {t m : Nat} (ht : t < A 0 3) (hl : A 14 t ≤ m) (hm : m < 12) : takesA A t m ≤ 112000 := by
  obtain ⟨_, _, _, h4, h5⟩ := hK.2.2.2 t ht
  have h6 := h5 (m - A 14 t) (by omega)
  have h7 : A 15 t * (12 - m) ≤ 1000 * 12 := Nat.mul_le_mul h4 (by omega)
  unfold takesA
  omega
theorem lstE_f {A : Abs} (hK : KR A) {base : Nat → Nat} {m t : Nat} : ∀ f1 f2 s, s ≤ 500 → 501 - s ≤ f1 → 501 - s ≤ f2 → lstE A base m t f1 s = lstE A base m t f2 s
  | 0, f2, s, h, h1, h2 => absurd h1 (by omega)
  | f1 + 1, 0, s, h, h1, h2 => absurd h2 (by omega)
  | f1 + 1, f2 + 1, s, h, h1, h2 => by
    unfold lstE
    by_cases c : t < A 0 3 ∧ A 14 t ≤ m ∧ s < 500
    · rw [if_pos c, if_pos c]
      have h13 := (hK.2.2.2 t c.1).1
      have e := lstE_f hK (base := base) (m := m) (t := t) f1 f2 (min 500 (s + A 13 t)) (by omega) (by omega) (by omega)
      rw [e]
    · rw [if_neg c, if_neg c]
theorem lst_12 {A : Abs} {t s : Nat} : lst A 12 t s = 0 := if_neg (by decide)
theorem lst_in {A : Abs} {m t s : Nat} (hm : m < 12) : lst A m t s = lstT A (lstM A (11 - m)) m (4 - t) s := if_pos hm
/-- all types are done: the month's own -/
theorem lst_4 {A : Abs} {m s : Nat} (hm : m < 12) : lst A m 4 s = if A 12 m ≤ s then lst A (m + 1) 0 s else NEV := by
  rw [lst_in hm]
  show (if A 12 m ≤ s then lstM A (11 - m) s else NEV) = _
  have e : lstM A (11 - m) s = lst A (m + 1) 0 s := by
    by_cases h : m = 11
    · subst h
      rfl
    · rw [lst_in (by omega)]
      obtain ⟨d, hd, hd2⟩ : ∃ d, m = 10 - d ∧ d ≤ 10 := ⟨10 - m, by omega, by omega⟩
      subst hd
      rw [show 11 - (10 - d) = d + 1 by omega, show 11 - (10 - d + 1) = d by omega, show 10 - d + 1 = 11 - d by omega]
      rfl
  rw [e]
theorem lst_s {A : Abs} (hK : KR A) {m t s : Nat} (hm : m < 12) (ht : t < 4) (hs : s ≤ 500) : lst A m t s = if t < A 0 3 ∧ A 14 t ≤ m ∧ s < 500 then (if lst A m t (min 500 (s + A 13 t)) < NEV then min (lst A m (t + 1) s) (lst A m t (min 500 (s + A 13 t)) + takesA A t m) else lst A m (t + 1) s) else lst A m (t + 1) s := by
  obtain ⟨c, hc⟩ : ∃ c, 4 - t = c + 1 := ⟨3 - t, by omega⟩
  have e1 : ∀ x, lst A m t x = lstE A (lstT A (lstM A (11 - m)) m c) m t (501 - x) x := by
    intro x
    rw [lst_in hm, hc]
    show lstE A (lstT A (lstM A (11 - m)) m c) m (3 - c) (501 - x) x = _
    rw [show 3 - c = t by omega]
  have e2 : lst A m (t + 1) s = lstT A (lstM A (11 - m)) m c s := by
    rw [lst_in hm, show 4 - (t + 1) = c by omega]
  rw [e2, e1 (min 500 (s + A 13 t)), e1 s]
  obtain ⟨f, hf⟩ : ∃ f, 501 - s = f + 1 := ⟨500 - s, by omega⟩
  rw [hf]
  by_cases q : t < A 0 3 ∧ A 14 t ≤ m ∧ s < 500
  · have h13 := (hK.2.2.2 t q.1).1
    rw [if_pos q, lstE_f hK (501 - min 500 (s + A 13 t)) f (min 500 (s + A 13 t)) (by omega) (by omega) (by omega)]
    show (if t < A 0 3 ∧ A 14 t ≤ m ∧ s < 500 then _ else _) = _
    rw [if_pos q]
  · rw [if_neg q]
    show (if t < A 0 3 ∧ A 14 t ≤ m ∧ s < 500 then _ else _) = _
    rw [if_neg q]
theorem lst_skip {A : Abs} (hK : KR A) {m t s : Nat} (hm : m < 12) (ht : t < 4) (hs : s ≤ 500) (h : ¬ (t < A 0 3 ∧ A 14 t ≤ m ∧ s < 500)) : lst A m t s = lst A m (t + 1) s := by
  rw [lst_s hK hm ht hs, if_neg h]
theorem lst_top {A : Abs} (hK : KR A) {m s : Nat} (hm : m < 12) (hs : s ≤ 500) : ∀ d, A 0 3 + d ≤ 4 → lst A m (A 0 3) s = lst A m (A 0 3 + d) s
  | 0, _ => rfl
  | d + 1, h => by
    rw [lst_top hK hm hs d (by omega), lst_skip hK hm (by omega) hs (by omega)]
    rfl
def bdA (x s : Nat) : Prop := x = NEV ∨ x ≤ (500 - s) * 112000
theorem bdA_le {x s : Nat} (h : bdA x s) : x ≤ NEV := by
  unfold bdA NEV at *
  omega
theorem lst_bd0 {A : Abs} (hK : KR A) {m t : Nat} (hm : m < 12) (ht : t < 4) (hb : ∀ s, s ≤ 500 → bdA (lst A m (t + 1) s) s) : ∀ d s, s + d = 500 → bdA (lst A m t s) s := by
  intro d
  induction d using Nat.strongRecOn with
  | ind d ih =>
    intro s hs
    rw [lst_s hK hm ht (by omega)]
    by_cases q : t < A 0 3 ∧ A 14 t ≤ m ∧ s < 500
    · rw [if_pos q]
      have h13 := (hK.2.2.2 t q.1).1
      have h1 := ih (500 - min 500 (s + A 13 t)) (by omega) (min 500 (s + A 13 t)) (by omega)
      have h2 := hb s (by omega)
      have h3 := takesA_le hK q.1 q.2.1 hm
      unfold bdA NEV at *
      by_cases q2 : lst A m t (min 500 (s + A 13 t)) < 2000000000
      · rw [if_pos q2]
        omega
      · rw [if_neg q2]
        exact h2
    · rw [if_neg q]
      exact hb s (by omega)
theorem lst_bd {A : Abs} (hK : KR A) {s : Nat} (hs : s ≤ 500) : ∀ d m c t, m + d = 12 → t + c = 4 → bdA (lst A m t s) s := by
  intro d
  induction d generalizing s with
  | zero =>
    intro m c t h1 h2
    rw [show m = 12 by omega, lst_12]
    exact Or.inr (Nat.zero_le _)
  | succ d ih =>
    intro m c
    induction c generalizing s with
    | zero =>
      intro t h1 h2
      rw [show t = 4 by omega, lst_4 (by omega)]
      by_cases q : A 12 m ≤ s
      · rw [if_pos q]
        exact ih hs (m + 1) 4 0 (by omega) (by omega)
      · rw [if_neg q]
        exact Or.inl rfl
    | succ c ih2 =>
      intro t h1 h2
      exact lst_bd0 hK (by omega) (by omega) (fun s' hs' => ih2 hs' (t + 1) h1 (by omega)) (500 - s) s (by omega)
theorem lst_b {A : Abs} (hK : KR A) {m t s : Nat} (hm : m ≤ 12) (ht : t ≤ 4) (hs : s ≤ 500) : lst A m t s = NEV ∨ lst A m t s ≤ 56000000 := by
  have h := lst_bd hK hs (12 - m) m (4 - t) t (by omega) (by omega)
  unfold bdA at h
  omega
/-- what comes behind type t -/
theorem lst_n {A : Abs} {m t s : Nat} (hm : m < 12) (ht : t < 4) : (if t < 3 then lst A m (t + 1) s else if A 12 m ≤ s then lst A (m + 1) 0 s else NEV) = lst A m (t + 1) s := by
  by_cases q : t < 3
  · rw [if_pos q]
  · rw [if_neg q, show t + 1 = 4 by omega, lst_4 hm]
theorem many_s {A : Abs} {m t f s : Nat} (hm : m < 12) (ht : t < 4) : manyA A m t (f + 1) s = if lst A m t s < lst A m (t + 1) s then ((manyA A m t f (min 500 (s + A 13 t))).1 + 1, (manyA A m t f (min 500 (s + A 13 t))).2) else (0, s) := by
  show (if lst A m t s < (if t < 3 then lst A m (t + 1) s else if A 12 m ≤ s then lst A (m + 1) 0 s else NEV) then _ else _) = _
  rw [lst_n hm ht]
theorem lst_lt {A : Abs} (hK : KR A) {m t s : Nat} (hm : m < 12) (ht : t < 4) (hs : s ≤ 500) (h : lst A m t s < lst A m (t + 1) s) : t < A 0 3 ∧ A 14 t ≤ m ∧ s < 500 := by
  by_cases q : t < A 0 3 ∧ A 14 t ≤ m ∧ s < 500
  · exact q
  · rw [lst_skip hK hm ht hs q] at h
    omega
theorem many_none {A : Abs} (hK : KR A) {m t s f : Nat} (hm : m < 12) (ht : t < 4) (hs : s ≤ 500) (h : A 0 3 ≤ t) : manyA A m t (f + 1) s = (0, s) := by
  rw [many_s hm ht, if_neg (fun q => by have := lst_lt hK hm ht hs q; omega)]
theorem many_le {A : Abs} {m t : Nat} (hm : m < 12) (ht : t < 4) : ∀ f s, s ≤ 500 → (manyA A m t f s).2 ≤ 500
  | 0, s, h => h
  | f + 1, s, h => by
    rw [many_s hm ht]
    by_cases q : lst A m t s < lst A m (t + 1) s
    · rw [if_pos q]
      exact many_le hm ht f _ (by omega)
    · rw [if_neg q]
      exact h
theorem there_le {A : Abs} (hK : KR A) : ∀ k, k ≤ 48 → thereA A k ≤ 500
  | 0, _ => hK.2.1
  | k + 1, h => many_le (by omega) (by omega) 501 _ (there_le hK k (by omega))

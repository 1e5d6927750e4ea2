/-! A LINE, said plainly: when each hand is free, whose turn it is, the last end, and what was noted -/
abbrev LnS : Type := (Nat → Nat) × Nat × Nat × (Nat → Int32)
def uN (f : Nat → Nat) (k v : Nat) : Nat → Nat := fun j => if j = k then v else f j
def accU (a : Nat → Int32) (w : Nat) : Nat → Int32 := fun i => if i = 0 then jmax (a 0) (nI w) else if i = 1 then a 1 + nI w else if i = 2 then a 2 + 1 else a 3 + (if w = 0 then 0 else 1)
def lnS (H K t : Nat) (s : LnS) : LnS := (uN s.1 s.2.1 (max t (s.1 s.2.1) + K), (if s.2.1 + 1 < H then s.2.1 + 1 else 0), max t (s.1 s.2.1) + K, accU s.2.2.2 (max t (s.1 s.2.1) - t))
def lnT (H K t : Nat) : Nat → LnS → LnS
  | 0, s => s
  | j + 1, s => lnS H K t (lnT H K t j s)
def lnA (H K : Nat) (c : Nat → Nat) : Nat → LnS
  | 0 => (fun _ => 0, 0, 0, fun _ => 0)
  | t + 1 => lnT H K t (c t) (lnA H K c t)
def ky (H h i : Nat) : Nat := if i < h then i + H else i
/-- whose turn it is has been free longest; all that end, end within K of the next beginning -/
def lnI (H t B K : Nat) (s : LnS) : Prop := s.2.1 < H ∧ (∀ i j, i < H → j < H → ky H s.2.1 i ≤ ky H s.2.1 j → s.1 i ≤ s.1 j) ∧ (∀ k, k < H → s.1 k ≤ max t (s.1 s.2.1) + K) ∧ s.2.2.1 ≤ max t (s.1 s.2.1) + K ∧ (∀ k, k < H → s.1 k ≤ B) ∧ s.2.2.1 ≤ B
theorem ky_0 {H h i : Nat} (hh : h < H) : ky H h h ≤ ky H h i := by
  unfold ky
  rw [if_neg (by omega)]
  by_cases e : i < h
  · rw [if_pos e]; omega
  · rw [if_neg e]; omega
theorem lnI.min {H t B K : Nat} {s : LnS} (h : lnI H t B K s) {j : Nat} (hj : j < H) : s.1 s.2.1 ≤ s.1 j := h.2.1 _ _ h.1 hj (ky_0 h.1)
theorem ky_n {H h i : Nat} (hh : h < H) (hi : i < H) (hne : i ≠ h) : ky H (if h + 1 < H then h + 1 else 0) i = (if h + 1 < H then ky H h i else ky H h i - H) := by
  unfold ky
  by_cases e : h + 1 < H
  · rw [if_pos e, if_pos e]
    by_cases e2 : i < h
    · rw [if_pos e2, if_pos (by omega)]
    · rw [if_neg e2, if_neg (by omega)]
  · rw [if_neg e, if_neg e, if_neg (by omega), if_pos (by omega)]
    omega
theorem ky_h {H h i : Nat} (hh : h < H) (hi : i < H) (hne : i ≠ h) : ky H (if h + 1 < H then h + 1 else 0) i < ky H (if h + 1 < H then h + 1 else 0) h := by
  unfold ky
  by_cases e : h + 1 < H
  · rw [if_pos e, if_pos (by omega : h < h + 1)]
    by_cases e2 : i < h + 1
    · rw [if_pos e2]; omega
    · rw [if_neg e2]; omega
  · rw [if_neg e, if_neg (by omega), if_neg (by omega)]
    omega
theorem ky_ge {H h i : Nat} (e : ¬ h + 1 < H) (hh : h < H) (hi : i < H) (hne : i ≠ h) : H ≤ ky H h i := by
  unfold ky
  rw [if_pos (by omega)]
  omega
theorem lnI_S {H t B K : Nat} {s : LnS} (h : lnI H t B K s) (hB : t ≤ B) : lnI H t (B + K) K (lnS H K t s) := by
  obtain ⟨h1, h2, h3, h4, h5, h6⟩ := h
  obtain ⟨f, p, e, a⟩ := s
  dsimp only at h1 h2 h3 h4 h5 h6
  have hp : (if p + 1 < H then p + 1 else 0) < H := by
    by_cases q : p + 1 < H
    · rw [if_pos q]; exact q
    · rw [if_neg q]; omega
  have hmin : ∀ j, j < H → f p ≤ f j := fun j hj => h2 p j h1 hj (ky_0 h1)
  have hb : max t (f p) ≤ B := by
    have := h5 p h1
    omega
  have us : uN f p (max t (f p) + K) p = max t (f p) + K := if_pos rfl
  have un : ∀ j, j ≠ p → uN f p (max t (f p) + K) j = f j := fun j hj => if_neg hj
  have hq : max t (f p) ≤ max t (uN f p (max t (f p) + K) (if p + 1 < H then p + 1 else 0)) := by
    by_cases q : (if p + 1 < H then p + 1 else 0) = p
    · rw [q, us]
      omega
    · rw [un _ q]
      have := hmin _ hp
      omega
  have hu : ∀ k, k < H → uN f p (max t (f p) + K) k ≤ max t (f p) + K := by
    intro k hk
    by_cases q : k = p
    · rw [q, us]; exact Nat.le_refl _
    · rw [un k q]; exact h3 k hk
  refine ⟨hp, fun i j hi hj hk => ?_, fun k hk => ?_, ?_, fun k hk => ?_, ?_⟩
  · show uN f p (max t (f p) + K) i ≤ uN f p (max t (f p) + K) j
    have hk' : ky H (if p + 1 < H then p + 1 else 0) i ≤ ky H (if p + 1 < H then p + 1 else 0) j := hk
    by_cases ej : j = p
    · rw [ej, us]
      exact hu i hi
    · by_cases ei : i = p
      · subst ei
        have := ky_h h1 hj ej
        omega
      · rw [un i ei, un j ej]
        refine h2 i j hi hj ?_
        rw [ky_n h1 hi ei, ky_n h1 hj ej] at hk'
        by_cases q : p + 1 < H
        · rw [if_pos q, if_pos q] at hk'
          exact hk'
        · rw [if_neg q, if_neg q] at hk'
          have a1 := ky_ge q h1 hi ei
          have a2 := ky_ge q h1 hj ej
          omega
  · show uN f p (max t (f p) + K) k ≤ max t (uN f p (max t (f p) + K) (if p + 1 < H then p + 1 else 0)) + K
    have := hu k hk
    omega
  · show max t (f p) + K ≤ max t (uN f p (max t (f p) + K) (if p + 1 < H then p + 1 else 0)) + K
    omega
  · show uN f p (max t (f p) + K) k ≤ B + K
    have := hu k hk
    omega
  · show max t (f p) + K ≤ B + K
    omega
theorem lnI_t {H t t' B B' K : Nat} {s : LnS} (h : lnI H t B K s) (ht : t ≤ t') (hB : B ≤ B') : lnI H t' B' K s := by
  obtain ⟨h1, h2, h3, h4, h5, h6⟩ := h
  refine ⟨h1, h2, fun k hk => ?_, ?_, fun k hk => ?_, ?_⟩
  · have := h3 k hk; omega
  · omega
  · have := h5 k hk; omega
  · omega
theorem lnI_0 {H t B K : Nat} {a : Nat → Int32} (hH : 0 < H) : lnI H t B K (fun _ => 0, 0, 0, a) := ⟨hH, fun _ _ _ _ _ => Nat.le_refl _, fun _ _ => Nat.zero_le _, Nat.zero_le _, fun _ _ => Nat.zero_le _, Nat.zero_le _⟩
theorem lnI_T {H t B K : Nat} {s : LnS} (h : lnI H t B K s) (hB : t ≤ B) : ∀ j, lnI H t (B + K * j) K (lnT H K t j s)
  | 0 => by
    rw [Nat.mul_zero, Nat.add_zero]
    exact h
  | j + 1 => by
    have e : B + K * (j + 1) = B + K * j + K := by rw [Nat.mul_succ]; omega
    rw [e]
    exact lnI_S (lnI_T h hB j) (by omega)
theorem mul100 {K c : Nat} (hK : K ≤ 100) (hc : c ≤ 100) : K * c ≤ 10000 := Nat.mul_le_mul hK hc
theorem lnI_A {H K : Nat} {c : Nat → Nat} (hH : 0 < H) (hK : K ≤ 100) : ∀ t, (∀ j, j < t → c j ≤ 100) → lnI H t (10001 * t) K (lnA H K c t)
  | 0, _ => lnI_0 hH
  | t + 1, hc => by
    have ih := lnI_A hH hK t (fun j hj => hc j (by omega)) (c := c)
    have h := lnI_T ih (by omega) (c t)
    have := mul100 hK (hc t (by omega))
    exact lnI_t h (by omega) (by omega)
/-- how many of the first n of f are x -/
def cnt (f : Nat → Nat) (x : Nat) : Nat → Nat
  | 0 => 0
  | n + 1 => cnt f x n + (if f n = x then 1 else 0)
theorem cnt_out {f : Nat → Nat} {h v x : Nat} : ∀ n, n ≤ h → cnt (uN f h v) x n = cnt f x n
  | 0, _ => rfl
  | n + 1, hn => by
    show cnt (uN f h v) x n + (if uN f h v n = x then 1 else 0) = cnt f x n + (if f n = x then 1 else 0)
    rw [cnt_out n (by omega), show uN f h v n = f n from if_neg (by omega)]
theorem cnt_upd {f : Nat → Nat} {h v x : Nat} : ∀ n, h < n → cnt (uN f h v) x n + (if f h = x then 1 else 0) = cnt f x n + (if v = x then 1 else 0)
  | 0, hn => absurd hn (by omega)
  | n + 1, hn => by
    show cnt (uN f h v) x n + (if uN f h v n = x then 1 else 0) + _ = cnt f x n + (if f n = x then 1 else 0) + _
    by_cases e : h = n
    · subst e
      rw [cnt_out h (Nat.le_refl _), show uN f h v h = v from if_pos rfl]
      omega
    · have ih := cnt_upd (f := f) (h := h) (v := v) (x := x) n (by omega)
      rw [show uN f h v n = f n from if_neg (by omega)]
      omega
theorem cnt_pos {f : Nat → Nat} {k x : Nat} (e : f k = x) : ∀ n, k < n → 0 < cnt f x n
  | 0, hn => absurd hn (by omega)
  | n + 1, hn => by
    show 0 < cnt f x n + _
    by_cases q : k = n
    · subst q
      rw [if_pos e]
      omega
    · have := cnt_pos e n (by omega)
      omega
theorem cnt_in {f : Nat → Nat} {x : Nat} : ∀ n, 0 < cnt f x n → ∃ k, k < n ∧ f k = x
  | 0, hn => absurd hn (by show ¬ 0 < 0; omega)
  | n + 1, hn => by
    have hn' : 0 < cnt f x n + (if f n = x then 1 else 0) := hn
    by_cases e : f n = x
    · exact ⟨n, by omega, e⟩
    · rw [if_neg e] at hn'
      obtain ⟨k, hk, ek⟩ := cnt_in n hn'
      exact ⟨k, by omega, ek⟩
theorem cnt_min {f f' : Nat → Nat} {h h' n : Nat} (hh : h < n) (hh' : h' < n) (h1 : ∀ j, j < n → f h ≤ f j) (h2 : ∀ j, j < n → f' h' ≤ f' j) (e : ∀ x, cnt f' x n = cnt f x n) : f' h' = f h := by
  have p1 := cnt_pos (rfl : f h = f h) n hh
  rw [← e] at p1
  obtain ⟨k, hk, ek⟩ := cnt_in n p1
  have p2 := cnt_pos (rfl : f' h' = f' h') n hh'
  rw [e] at p2
  obtain ⟨k', hk', ek'⟩ := cnt_in n p2
  have := h1 k' hk'
  have := h2 k hk
  omega
theorem cnt_step {f f' : Nat → Nat} {h h' v n : Nat} (hh : h < n) (hh' : h' < n) (e : ∀ x, cnt f' x n = cnt f x n) (eq : f' h' = f h) (x : Nat) : cnt (uN f' h' v) x n = cnt (uN f h v) x n := by
  have a := cnt_upd (f := f) (v := v) (x := x) n hh
  have b := cnt_upd (f := f') (v := v) (x := x) n hh'
  rw [eq, e x] at b
  omega

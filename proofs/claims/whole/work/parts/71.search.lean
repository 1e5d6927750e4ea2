/-! A SEARCH for a way: who was reached from whom (cf), in what order (rc, told by q); G: what may flow -/
def cu (f : Nat → Int32) : Nat → Nat
  | 0 => 0
  | n + 1 => cu f n + (if f n = -1 then 1 else 0)
theorem cu_o {f : Nat → Int32} {k : Nat} {x : Int32} : ∀ n, n ≤ k → cu (upd f k x) n = cu f n
  | 0, _ => rfl
  | n + 1, h => by
    show cu (upd f k x) n + (if upd f k x n = -1 then 1 else 0) = cu f n + (if f n = -1 then 1 else 0)
    rw [cu_o n (by omega), pk_un (show n ≠ k by omega)]
theorem cu_upd {f : Nat → Int32} {k : Nat} {x : Int32} (hf : f k = -1) (hx : ¬ x = -1) : ∀ n, k < n → cu (upd f k x) n + 1 = cu f n
  | 0, h => absurd h (by omega)
  | n + 1, h => by
    show cu (upd f k x) n + (if upd f k x n = -1 then 1 else 0) + 1 = cu f n + (if f n = -1 then 1 else 0)
    by_cases e : k = n
    · subst e
      rw [cu_o k (Nat.le_refl _), pk_us, if_neg hx, if_pos hf]
    · have := cu_upd hf hx n (by omega)
      rw [pk_un (show n ≠ k by omega)]
      omega
theorem cu_one {f : Nat → Int32} {s : Nat} (hs : ¬ f s = -1) : ∀ n, (∀ v, v < n → v ≠ s → f v = -1) → cu f n + (if s < n then 1 else 0) = n
  | 0, _ => rfl
  | n + 1, h => by
    have ih := cu_one hs n (fun v hv => h v (by omega))
    show cu f n + (if f n = -1 then 1 else 0) + (if s < n + 1 then 1 else 0) = n + 1
    by_cases e : n = s
    · subst e
      rw [if_neg (by omega)] at ih
      rw [if_neg hs, if_pos (by omega)]
      omega
    · rw [if_pos (h n (by omega) e)]
      by_cases c : s < n
      · rw [if_pos c] at ih
        rw [if_pos (by omega)]
        omega
      · rw [if_neg c] at ih
        rw [if_neg (by omega)]
        omega
def BS (cf rc : Nat → Int32) (G : Nat → Nat → Nat) (s n : Nat) (q : Nat → Nat) : Prop :=
  1 ≤ n ∧ q 0 = s ∧ (∀ i, i < n → q i < 34 ∧ rc i = nI (q i) ∧ ¬ cf (q i) = -1) ∧ (∀ i j, i < j → j < n → q i ≠ q j) ∧ (∀ v, v < 34 → ¬ cf v = -1 → ∃ i, i < n ∧ q i = v) ∧ (∀ j, 0 < j → j < n → ∃ i, i < j ∧ cf (q j) = nI (q i) ∧ 0 < G (q i) (q j)) ∧ n + cu cf 34 = 34
theorem BS.init {cf rc : Nat → Int32} {G : Nat → Nat → Nat} {s : Nat} (hs : s < 34) (h1 : cf s = nI s) (h2 : ∀ v, v < 34 → v ≠ s → cf v = -1) (h3 : rc 0 = nI s) : BS cf rc G s 1 (fun _ => s) := by
  have hn : ¬ cf s = -1 := by
    rw [h1]
    exact nI_nm1 (by omega)
  refine ⟨Nat.le_refl _, rfl, fun i hi => ⟨hs, by rw [show i = 0 by omega]; exact h3, hn⟩, fun i j _ _ => absurd ‹j < 1› (by omega), fun v hv hc => ⟨0, by omega, ?_⟩, fun j _ _ => absurd ‹j < 1› (by omega), ?_⟩
  · by_cases e : v = s
    · exact e.symm
    · exact absurd (h2 v hv e) hc
  · have := cu_one hn 34 h2
    rw [if_pos hs] at this
    omega
theorem BS.add {cf rc : Nat → Int32} {G : Nat → Nat → Nat} {s n i v : Nat} {q : Nat → Nat} (h : BS cf rc G s n q) (hi : i < n) (hv : v < 34) (hc : cf v = -1) (hG : 0 < G (q i) v) : n < 34 ∧ BS (upd cf v (nI (q i))) (upd rc n (nI v)) G s (n + 1) (uN q n v) := by
  obtain ⟨h1, h2, h3, h4, h5, h6, h7⟩ := h
  have qi := (h3 i hi).1
  have hx : ¬ nI (q i) = -1 := nI_nm1 (by omega)
  have hcu := cu_upd hc hx 34 hv
  have un : ∀ j, j < n → uN q n v j = q j := fun j hj => if_neg (by omega)
  have us : uN q n v n = v := if_pos rfl
  have hvq : ∀ j, j < n → q j ≠ v := fun j hj e => (h3 j hj).2.2 (by rw [e]; exact hc)
  refine ⟨by omega, by omega, by rw [un 0 (by omega)]; exact h2, fun j hj => ?_, fun a b hab hb => ?_, fun x hx2 hcx => ?_, fun j h0 hj => ?_, by omega⟩
  · by_cases e : j = n
    · subst e
      rw [us, pk_us, pk_us]
      exact ⟨hv, rfl, hx⟩
    · have hj' : j < n := by omega
      rw [un j hj', pk_un e, pk_un (hvq j hj')]
      exact h3 j hj'
  · rw [un a (by omega)]
    by_cases e : b = n
    · subst e
      rw [us]
      exact hvq a (by omega)
    · rw [un b (by omega)]
      exact h4 a b hab (by omega)
  · by_cases e : x = v
    · exact ⟨n, by omega, by rw [us, e]⟩
    · rw [pk_un e] at hcx
      obtain ⟨j, hj, ej⟩ := h5 x hx2 hcx
      exact ⟨j, by omega, by rw [un j hj]; exact ej⟩
  · by_cases e : j = n
    · subst e
      exact ⟨i, hi, by rw [us, pk_us, un i hi], by rw [us, un i hi]; exact hG⟩
    · have hj' : j < n := by omega
      obtain ⟨a, ha, ea, ga⟩ := h6 j h0 hj'
      exact ⟨a, ha, by rw [un j hj', pk_un (hvq j hj'), un a (by omega)]; exact ea, by rw [un j hj', un a (by omega)]; exact ga⟩
theorem BS.way {cf rc : Nat → Int32} {G : Nat → Nat → Nat} {s n : Nat} {q : Nat → Nat} (h : BS cf rc G s n q) : ∀ j, j < n → ∃ L p, WAY G s (q j) L p ∧ L ≤ j ∧ (∀ k, k ≤ L → ∃ i, i ≤ j ∧ p k = q i) ∧ ∀ k, k < L → cf (p k) = nI (p (k + 1)) ∧ p k ≠ s := by
  intro j
  induction j using Nat.strongRecOn with
  | ind j ih =>
    intro hj
    obtain ⟨h1, h2, h3, h4, h5, h6, h7⟩ := h
    by_cases e : j = 0
    · subst e
      refine ⟨0, fun _ => q 0, ⟨rfl, h2, fun k _ => (h3 0 hj).1, fun i j h1 h2 => absurd h2 (by omega), fun k hk => absurd hk (by omega)⟩, Nat.le_refl _, fun k _ => ⟨0, Nat.le_refl _, rfl⟩, fun k hk => absurd hk (by omega)⟩
    · obtain ⟨i, hi, ei, gi⟩ := h6 j (by omega) hj
      obtain ⟨L, p, ⟨w1, w2, w3, w4, w5⟩, hL, hq, hc⟩ := ih i hi (by omega)
      have hjn : ∀ k, k ≤ L → q j ≠ p k := by
        intro k hk e2
        obtain ⟨a, ha, ea⟩ := hq k hk
        exact h4 a j (by omega) hj (by rw [← ea, e2])
      refine ⟨L + 1, fun k => match k with | 0 => q j | k + 1 => p k, ⟨rfl, w2, fun k hk => ?_, fun a b hab hb => ?_, fun k hk => ?_⟩, by omega, fun k hk => ?_, fun k hk => ?_⟩
      · cases k with
        | zero => exact (h3 j hj).1
        | succ k => exact w3 k (by omega)
      · cases b with
        | zero => exact absurd hab (by omega)
        | succ b =>
          cases a with
          | zero => exact hjn b (by omega)
          | succ a => exact w4 a b (by omega) (by omega)
      · cases k with
        | zero =>
          show 0 < G (p 0) (q j)
          rw [w1]
          exact gi
        | succ k => exact w5 k (by omega)
      · cases k with
        | zero => exact ⟨j, Nat.le_refl _, rfl⟩
        | succ k =>
          obtain ⟨a, ha, ea⟩ := hq k (by omega)
          exact ⟨a, by omega, ea⟩
      · cases k with
        | zero =>
          show cf (q j) = nI (p 0) ∧ q j ≠ s
          rw [w1]
          exact ⟨ei, fun e2 => h4 0 j (by omega) hj (by rw [h2, e2])⟩
        | succ k => exact hc k (by omega)
/-- from the first m all has been reached that may be -/
def CLO (cf : Nat → Int32) (G : Nat → Nat → Nat) (q : Nat → Nat) (m n : Nat) : Prop := ∀ i, i < m → i < n → ∀ v, v < 34 → 0 < G (q i) v → ¬ cf v = -1
def zOf (cf : Nat → Int32) : Nat → Bool := fun v => decide (¬ cf v = -1)
theorem BS.closed {cf rc : Nat → Int32} {G : Nat → Nat → Nat} {s n m : Nat} {q : Nat → Nat} (h : BS cf rc G s n q) (hc : CLO cf G q m n) (hm : n ≤ m) : ∀ u v, u < 34 → v < 34 → zOf cf u = true → zOf cf v = false → G u v = 0 := by
  intro u v hu hv h1 h2
  obtain ⟨i, hi, e⟩ := h.2.2.2.2.1 u hu (of_decide_eq_true h1)
  rcases Nat.eq_zero_or_pos (G u v) with c | c
  · exact c
  · rw [← e] at c
    exact absurd (hc i (by omega) hi v hv c) (of_decide_eq_false h2)
theorem BS.z0 {cf rc : Nat → Int32} {G : Nat → Nat → Nat} {s n : Nat} {q : Nat → Nat} (h : BS cf rc G s n q) : zOf cf s = true := by
  have := (h.2.2.1 0 h.1).2.2
  rw [h.2.1] at this
  exact decide_eq_true this

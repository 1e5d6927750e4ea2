/-! THE ABSTRACT STATE A: 0: machines, asks, batches, types, have; 1 size, 2 room, 3 up, 4 need, 5 first, 6 last, 7 apart; 8 work, 9 from, 10 due, 11 most; 12 wanted, 13 size, 14 lead, 15 power, 16.. prices -/
abbrev Abs : Type := Nat → Nat → Nat
def ldA (A : Abs) (s : Nat) : Nat := sumB (A 4) s (A 0 1)
def clA (A : Abs) (s : Nat) : Prop := clashP (A 7) (A 0 1) s
def okA (A : Abs) : Nat → Nat → Prop := okP (A 0 1) (A 4) (A 7) (A 1)
def wSt (w : Nat) : Nat → Bool := fun k => w.testBit k
def canA (A : Abs) (w j s : Nat) : Prop := can (wSt w) (okA A) j s
def HR (A : Abs) : Prop := A 0 0 ≤ 12 ∧ A 0 1 ≤ 10 ∧ (∀ k, k < A 0 0 → 1 ≤ A 1 k ∧ A 1 k ≤ 100 ∧ A 2 k < 4 ∧ A 3 k ≤ 1) ∧ (∀ a, a < A 0 1 → 1 ≤ A 4 a ∧ A 4 a ≤ 100 ∧ A 5 a ≤ A 6 a ∧ A 6 a < 24 ∧ A 7 a < 2 ^ A 0 1)
def soA (A : Abs) (h : Nat) : Nat := mk (fun a => decide (A 5 a ≤ h ∧ h ≤ A 6 a)) (A 0 1)
def upA (A : Abs) : Nat := mk (fun k => decide (A 3 k = 1)) (A 0 0)
def roA (A : Abs) (r : Nat) : Nat := mk (fun k => decide (A 2 k = r)) (A 0 0)
def stP (A : Abs) (f k : Nat) : Bool := decide (A 3 k = 1) && (decide (f < 1 ∨ 12 < f ∨ f - 1 ≠ k) && decide (f < 13 ∨ f - 13 ≠ A 2 k))
def stA (A : Abs) (f : Nat) : Nat := mk (stP A f) (A 0 0)
/-- what the table of the class says of a set, when the last j machines have been gone through -/
def Lt (st : Nat → Bool) (ok : Nat → Nat → Prop) (j s : Nat) (v : Int32) : Prop :=
  (¬ can st ok j s ∧ v = -1) ∨ (s = 0 ∧ v = 12) ∨ (s ≠ 0 ∧ ∃ i, i < j ∧ ¬ can st ok i s ∧ can st ok (i + 1) s ∧ v = nI (11 - i))
def Tab (A : Abs) (ak : Nat → Int32) (w : Nat) (f : Nat → Int32) : Prop := ∀ s, s < 2 ^ A 0 1 → (s = 0 ∨ ¬ ak s = 0) → Lt (wSt w) (okA A) 12 s (f s)
def AK (A : Abs) (ak : Nat → Int32) : Prop := (∀ h s, h < 24 → s ≠ 0 → sb s (soA A h) → ¬ ak s = 0) ∧ ∀ s t, ¬ ak s = 0 → t ≠ 0 → sb t s → ¬ ak t = 0
def LF (A : Abs) (M : Mem) : Prop := M.1 11 12 = -1 ∨ ∃ w, w < 2 ^ A 0 0 ∧ M.1 11 12 = nI w ∧ Tab A (M.1 19) w (M.1 20)
/-- the class's hall without its tables -/
def HC0 (A : Abs) (M : Mem) : Prop :=
  M.1 11 0 = nI (A 0 0) ∧ M.1 11 1 = nI (A 0 1) ∧ M.1 11 4 = nI (upA A) ∧ (∀ k, k < A 0 0 → M.1 12 k = nI (A 1 k)) ∧ (∀ r, r < 4 → M.1 13 r = nI (roA A r)) ∧ (∀ a, a < A 0 1 → M.1 14 a = nI (A 4 a)) ∧ (∀ a, a < 10 → M.1 15 a = nI (if a < A 0 1 then A 7 a else 0)) ∧ (∀ h, h < 24 → M.1 16 h = nI (soA A h)) ∧ AK A (M.1 19)
/-- load and clash -/
def HT (A : Abs) (M : Mem) : Prop := ∀ s, s < 2 ^ A 0 1 → M.1 17 s = nI (ldA A s) ∧ (M.1 18 s = 0 ↔ ¬ clA A s)
def HC (A : Abs) (M : Mem) : Prop := HC0 A M ∧ HT A M ∧ LF A M
def upT (M : Mem) (w : Nat) (f : Nat → Int32) : Mem := sAr (sA M 11 12 (nI w)) 20 f
theorem soA_lt (A : Abs) (h : Nat) : soA A h < 2 ^ A 0 1 := mk_lt _ _
theorem stA_lt (A : Abs) (f : Nat) : stA A f < 2 ^ A 0 0 := mk_lt _ _
theorem pw10 {A : Abs} (hR : HR A) : 2 ^ A 0 1 ≤ 1024 := Nat.pow_le_pow_right (n := 2) (by decide) hR.2.1
theorem pw12 {A : Abs} (hR : HR A) : 2 ^ A 0 0 ≤ 4096 := Nat.pow_le_pow_right (n := 2) (by decide) hR.1
theorem ldA_le {A : Abs} (hR : HR A) (s : Nat) : ldA A s ≤ 1000 := by
  have h1 := sumB_le (f := A 4) (s := s) (b := 100) (A 0 1) (fun k hk => (hR.2.2.2 k hk).2.1)
  have h2 := hR.2.1
  unfold ldA
  omega
theorem can_ld {A : Abs} {w j s : Nat} (h : canA A w j s) : ldA A s ≤ sumS (wSt w) (A 1) j := can_sum h
theorem Lt_neg {st : Nat → Bool} {ok : Nat → Nat → Prop} {j s : Nat} {v : Int32} (h : Lt st ok j s v) (hj : j ≤ 12) : v = -1 ↔ ¬ can st ok j s := by
  rcases h with ⟨h1, h2⟩ | ⟨h1, h2⟩ | ⟨h1, i, hi, h2, h3, h4⟩
  · exact ⟨fun _ => h1, fun _ => h2⟩
  · subst h1
    rw [h2]
    exact ⟨fun e => absurd e (by decide), fun e => absurd (can_0 _) e⟩
  · rw [h4]
    refine ⟨fun e => ?_, fun e => absurd (can_up h3 hi) e⟩
    have e2 : (nI (11 - i)).toInt = -1 := by rw [e]; rfl
    rw [nI_toInt (by omega)] at e2
    omega
theorem Lt_gt {st : Nat → Bool} {ok : Nat → Nat → Prop} {j s : Nat} {v : Int32} (h : Lt st ok j s v) (hj : j ≤ 12) {i : Nat} (hi : i ≤ j) (hi2 : i ≤ 11) : ¬ v ≤ nI (11 - i) ↔ can st ok i s := by
  rcases h with ⟨h1, h2⟩ | ⟨h1, h2⟩ | ⟨h1, i', hi', h2, h3, h4⟩
  · rw [h2]
    refine ⟨fun e => absurd ?_ e, fun e => absurd (can_up e hi) h1⟩
    rw [Int32.le_iff_toInt_le, nI_toInt (by omega)]
    show (-1 : Int) ≤ _
    omega
  · subst h1
    rw [h2]
    refine ⟨fun _ => can_0 _, fun _ e => ?_⟩
    have e2 : nI 12 ≤ nI (11 - i) := e
    rw [nI_leI (by omega) (by omega)] at e2
    omega
  · rw [h4, nI_leI (by omega) (by omega)]
    constructor
    · intro e
      exact can_up h3 (by omega)
    · intro e h5
      exact h2 (can_up e (by omega))
theorem Lt_idle {st : Nat → Bool} {ok : Nat → Nat → Prop} {j s : Nat} {v : Int32} (h : Lt st ok j s v) (hs : st (11 - j) = false) : Lt st ok (j + 1) s v := by
  rcases h with ⟨h1, h2⟩ | h | ⟨h1, i, hi, h2⟩
  · refine Or.inl ⟨fun hc => ?_, h2⟩
    rcases hc with hc | ⟨hc, _⟩
    · exact h1 hc
    · rw [hs] at hc; exact absurd hc (by decide)
  · exact Or.inr (Or.inl h)
  · exact Or.inr (Or.inr ⟨h1, i, by omega, h2⟩)
theorem Lt_keep {st : Nat → Bool} {ok : Nat → Nat → Prop} {j s : Nat} {v : Int32} (h : Lt st ok j s v) (hv : ¬ v = -1) : Lt st ok (j + 1) s v := by
  rcases h with ⟨h1, h2⟩ | h | ⟨h1, i, hi, h2⟩
  · exact absurd h2 hv
  · exact Or.inr (Or.inl h)
  · exact Or.inr (Or.inr ⟨h1, i, by omega, h2⟩)
theorem Lt_start {st : Nat → Bool} {ok : Nat → Nat → Prop} {j s : Nat} (h : ∀ k, 12 ≤ k + j → st k = false) : Lt st ok j s (if s = 0 then 12 else -1) := by
  by_cases h0 : s = 0
  · rw [if_pos h0]
    exact Or.inr (Or.inl ⟨h0, rfl⟩)
  · rw [if_neg h0]
    exact Or.inl ⟨fun hc => h0 ((can_none h).mp hc), rfl⟩
/-- what the greatest set on a machine is -/
def goodT (A : Abs) (w m s t : Nat) : Prop := sb t s ∧ okA A m t ∧ canA A w (11 - m) (s ^^^ t)
noncomputable def grA (A : Abs) (w m s : Nat) : Nat := gs (goodT A w m s) s
theorem grA_can {A : Abs} {w m s : Nat} (hm : m ≤ 11) (hst : wSt w m = true) (h0 : s ≠ 0) : canA A w (12 - m) s ↔ (canA A w (11 - m) s ∨ 0 < grA A w m s) := by
  have e : 12 - m = (11 - m) + 1 := by omega
  have e2 : 11 - (11 - m) = m := by omega
  rw [e]
  show (_ ∨ _) ↔ _
  refine or_congr Iff.rfl ?_
  rw [e2]
  constructor
  · rintro ⟨_, t, ht0, ht, hok, hc⟩
    have h1 := gs_pos (P := goodT A w m s) (by omega : 0 < t) (sb_le ht) ⟨ht, hok, hc⟩
    exact Nat.lt_of_lt_of_le (by omega) h1
  · intro hp
    rcases gs_in (goodT A w m s) s with h1 | h1
    · have hp' : 0 < gs (goodT A w m s) s := hp
      omega
    · exact ⟨hst, grA A w m s, by omega, h1.1, h1.2.1, h1.2.2⟩

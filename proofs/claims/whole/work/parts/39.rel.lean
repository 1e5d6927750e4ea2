/-! FLOWS, said plainly: x b h is the part of batch b in hour h -/
def sm (f : Nat → Nat) : Nat → Nat
  | 0 => 0
  | n + 1 => sm f n + f n
def inW (A : Abs) (b h : Nat) : Prop := b < A 0 2 ∧ A 9 b ≤ h ∧ h < A 10 b
/-- parts as told: in their windows, at most the most, at most what is left, at most the work -/
def feas (A : Abs) (lf : Nat → Nat) (x : Nat → Nat → Nat) : Prop := (∀ b h, ¬ inW A b h → x b h = 0) ∧ (∀ b h, x b h ≤ A 11 b) ∧ (∀ h, h < 24 → sm (fun b => x b h) 8 ≤ lf h) ∧ (∀ b, b < A 0 2 → sm (fun h => x b h) 24 ≤ A 8 b)
def tot (x : Nat → Nat → Nat) : Nat := sm (fun b => sm (fun h => x b h) 24) 8
def wkA (A : Abs) : Nat := sm (fun b => A 8 b) (A 0 2)
noncomputable def laidA (A : Abs) (lf : Nat → Nat) : Nat := mxs (fun v => ∃ x, feas A lf x ∧ tot x = v) (fun v => v) (wkA A + 1)
noncomputable def restA (A : Abs) (w : Nat) : Nat := wkA A - laidA A (lfA A w)
/-- all work laid in -/
def full (A : Abs) (lf : Nat → Nat) (x : Nat → Nat → Nat) : Prop := feas A lf x ∧ ∀ b, b < A 0 2 → sm (fun h => x b h) 24 = A 8 b
/-- the plan's first k parts, place 24 b + h -/
noncomputable def planK (A : Abs) (lf : Nat → Nat) : Nat → Nat → Nat
  | 0 => fun _ => 0
  | k + 1 => fun j => if j = k then gs (fun v => ∃ x, full A lf x ∧ (∀ i, i < k → x (i / 24) (i % 24) = planK A lf k i) ∧ x (k / 24) (k % 24) = v) 1000 else planK A lf k j
noncomputable def planA (A : Abs) (w b h : Nat) : Nat := planK A (lfA A w) 192 (24 * b + h)
def PR (A : Abs) : Prop := A 0 2 ≤ 8 ∧ ∀ b, b < A 0 2 → 1 ≤ A 8 b ∧ A 8 b ≤ 10000 ∧ A 9 b < A 10 b ∧ A 10 b ≤ 24 ∧ 1 ≤ A 11 b ∧ A 11 b ≤ 1000
/-- the class's plan -/
def PC0 (A : Abs) (M : Mem) : Prop := M.1 21 0 = nI (A 0 2) ∧ M.1 35 0 = 34 ∧ ∀ b, b < A 0 2 → M.1 31 b = nI (A 8 b) ∧ M.1 32 b = nI (A 9 b) ∧ M.1 33 b = nI (A 10 b) ∧ M.1 34 b = nI (A 11 b)
def PZ (A : Abs) (M : Mem) : Prop := ∀ b h, b < 8 → h < 24 → ¬ inW A b h → M.1 (23 + b) h = 0
def PF (A : Abs) (M : Mem) : Prop := M.1 21 8 = -1 ∨ ∃ w, w < 2 ^ A 0 0 ∧ M.1 21 8 = nI w ∧ M.1 21 1 = nI (restA A w) ∧ (restA A w = 0 → ∀ b h, inW A b h → M.1 (23 + b) h = nI (planA A w b h))
def PC (A : Abs) (M : Mem) : Prop := PC0 A M ∧ PZ A M ∧ PF A M
def PN (A : Abs) (N : Mem) : Prop := N.1 0 6 = nI (A 0 2) ∧ ∀ b, b < A 0 2 → N.1 14 b = nI (A 8 b) ∧ N.1 15 b = nI (A 9 b) ∧ N.1 16 b = nI (A 10 b) ∧ N.1 17 b = nI (A 11 b)
/-! BUYING, said plainly -/
def KR (A : Abs) : Prop := A 0 3 ≤ 4 ∧ A 0 4 ≤ 500 ∧ (∀ m, m < 12 → A 12 m ≤ 500) ∧ ∀ t, t < A 0 3 → 1 ≤ A 13 t ∧ A 13 t ≤ 100 ∧ A 14 t ≤ 11 ∧ A 15 t ≤ 1000 ∧ ∀ m, m < 12 → A (16 + t) m ≤ 100000
def NEV : Nat := 2000000000
def takesA (A : Abs) (t m : Nat) : Nat := A (16 + t) (m - A 14 t) + A 15 t * (12 - m)
/-- what is there yet to pay at month m, types from t on, with so much there: months counted down d = 12 - m, types c = 4 - t, sizes e = 500 - s -/
def lstE (A : Abs) (base : Nat → Nat) (m t : Nat) : Nat → Nat → Nat
  | 0, _ => 0
  | fuel + 1, s => if t < A 0 3 ∧ A 14 t ≤ m ∧ s < 500 then (let more := lstE A base m t fuel (min 500 (s + A 13 t)); if more < NEV then min (base s) (more + takesA A t m) else base s) else base s
/-- by month (12 - d) and type (4 - c) -/
def lstT (A : Abs) (next : Nat → Nat) (m : Nat) : Nat → Nat → Nat
  | 0, s => if A 12 m ≤ s then next s else NEV
  | c + 1, s => lstE A (lstT A next m c) m (3 - c) (501 - s) s
def lstM (A : Abs) : Nat → Nat → Nat
  | 0, _ => 0
  | d + 1, s => lstT A (lstM A d) (11 - d) 4 s
/-- least[month m][type t][s] -/
def lst (A : Abs) (m t s : Nat) : Nat := if m < 12 then lstT A (lstM A (11 - m)) m (4 - t) s else 0
/-- how many of type t are bought first, and what is there then -/
def manyA (A : Abs) (m t : Nat) : Nat → Nat → Nat × Nat
  | 0, s => (0, s)
  | fuel + 1, s => if lst A m t s < (if t < 3 then lst A m (t + 1) s else if A 12 m ≤ s then lst A (m + 1) 0 s else NEV) then ((manyA A m t fuel (min 500 (s + A 13 t))).1 + 1, (manyA A m t fuel (min 500 (s + A 13 t))).2) else (0, s)
/-- what is there ahead of step k = 4 m + t -/
def thereA (A : Abs) : Nat → Nat
  | 0 => A 0 4
  | k + 1 => (manyA A (k / 4) (k % 4) 501 (thereA A k)).2
def buysA (A : Abs) (m t : Nat) : Nat := (manyA A m t 501 (thereA A (4 * m + t))).1
def KC0 (A : Abs) (M : Mem) : Prop := M.1 75 0 = nI (A 0 3) ∧ M.1 75 3 = nI (A 0 4) ∧ (∀ m, m < 12 → M.1 89 m = nI (A 12 m)) ∧ ∀ t, t < A 0 3 → M.1 90 t = nI (A 13 t) ∧ M.1 91 t = nI (A 14 t) ∧ M.1 92 t = nI (A 15 t) ∧ ∀ m, m < 12 → M.1 (94 + t) m = nI (A (16 + t) m)
def KF (A : Abs) (M : Mem) : Prop := M.1 75 11 = 0 ∨ (M.1 75 11 = 1 ∧ M.1 75 1 = nI (min (lst A 0 0 (A 0 4)) 1000000000) ∧ (lst A 0 0 (A 0 4) < NEV → ∀ m t, m < 12 → t < A 0 3 → M.1 (77 + m) t = nI (buysA A m t)))
def KC (A : Abs) (M : Mem) : Prop := KC0 A M ∧ KF A M
def KN (A : Abs) (N : Mem) : Prop := N.1 0 7 = nI (A 0 3) ∧ N.1 0 40 = nI (A 0 4) ∧ (∀ m, m < 12 → N.1 26 m = nI (A 12 m)) ∧ ∀ t, t < A 0 3 → N.1 27 t = nI (A 13 t) ∧ N.1 28 t = nI (A 14 t) ∧ N.1 29 t = nI (A 15 t) ∧ ∀ m, m < 12 → N.1 30 (12 * t + m) = nI (A (16 + t) m)
/-! SHEETS, AND THE WHOLE -/
def RS (M N : Mem) : Prop := ∀ s, s < 6 → M.1 9 s = N.1 1 s ∧ M.1 10 s = N.1 2 s ∧ (M.1 10 s = -1 ∨ ∃ n, n ≤ 64 ∧ M.1 10 s = nI n ∧ ∀ j, j < n → M.2 (3 + s) j = N.2 3 (64 * s + j))
/-- who are apart are so both ways -/
def FS (A : Abs) : Prop := ∀ a b, a < A 0 1 → b < A 0 1 → (A 7 a).testBit b = (A 7 b).testBit a ∧ (A 7 a).testBit a = false
def RelA (A : Abs) (M N : Mem) : Prop := RS M N ∧ HR A ∧ HC A M ∧ HN A N ∧ PR A ∧ PC A M ∧ PN A N ∧ (FS A ∧ KR A) ∧ KC A M ∧ KN A N
def Rel (M N : Mem) : Prop := M.1 0 5 = N.1 0 0 ∧ ∃ A, RelA A M N
/-- class: what a question may change: the status, the table of sets, the line's own -/
def CE (M M' : Mem) : Prop := M'.2 = M.2 ∧ ∀ k, k ≠ 0 → k ≠ 11 → k ≠ 20 → k ≠ 73 → k ≠ 74 → M'.1 k = M.1 k
/-- reference: likewise -/
def NE (N N' : Mem) : Prop := N'.2 = N.2 ∧ (∀ j, 1 ≤ j → ¬ (30 ≤ j ∧ j ≤ 34) → N'.1 0 j = N.1 0 j) ∧ ∀ k, k ≠ 0 → ¬ (11 ≤ k ∧ k ≤ 13) → ¬ (18 ≤ k ∧ k ≤ 25) → k ≠ 31 → N'.1 k = N.1 k
theorem CE.rf (M : Mem) : CE M M := ⟨rfl, fun _ _ _ _ _ _ => rfl⟩
theorem CE.tr {M M' M2 : Mem} (h : CE M M') (k : CE M' M2) : CE M M2 := ⟨k.1.trans h.1, fun a b c d e f => (k.2 a b c d e f).trans (h.2 a b c d e f)⟩
theorem CE.st (M : Mem) (v : Int32) : CE M (sA M 0 5 v) := ⟨rfl, fun k h _ _ _ _ => sA_1 k h⟩
theorem EqT.ce {M M' : Mem} (h : EqT M M') : CE M M' := ⟨h.1, fun k _ h2 h3 _ _ => h.row k h3 h2⟩
theorem NE.rf (N : Mem) : NE N N := ⟨rfl, fun _ _ _ => rfl, fun _ _ _ _ _ => rfl⟩
theorem NE.tr {N N' N2 : Mem} (h : NE N N') (k : NE N' N2) : NE N N2 := ⟨k.1.trans h.1, fun a b c => (k.2.1 a b c).trans (h.2.1 a b c), fun a b c d e => (k.2.2 a b c d e).trans (h.2.2 a b c d e)⟩
theorem NE.st (N : Mem) (v : Int32) : NE N (sA N 0 0 v) := ⟨rfl, fun j h _ => by rw [sA_g, if_neg (by omega)], fun k h _ _ _ => sA_1 k h⟩
theorem EqN.ne {N N' : Mem} (h : EqN N N') : NE N N' := ⟨h.1, fun j _ _ => by rw [h.2 0 (by decide) (by decide) (by decide)], fun k _ h2 _ _ => h.2 k (by omega) (by omega) (by omega)⟩
theorem HN.ne {A : Abs} {N N' : Mem} (h : HN A N) (e : NE N N') : HN A N' := by
  unfold HN
  rw [e.2.1 4 (by decide) (by decide), e.2.1 5 (by decide) (by decide), e.2.2 4 (by decide) (by decide) (by decide) (by decide), e.2.2 5 (by decide) (by decide) (by decide) (by decide), e.2.2 6 (by decide) (by decide) (by decide) (by decide), e.2.2 7 (by decide) (by decide) (by decide) (by decide), e.2.2 8 (by decide) (by decide) (by decide) (by decide), e.2.2 9 (by decide) (by decide) (by decide) (by decide), e.2.2 10 (by decide) (by decide) (by decide) (by decide)]
  exact h
theorem PN.ne {A : Abs} {N N' : Mem} (h : PN A N) (e : NE N N') : PN A N' := by
  unfold PN
  rw [e.2.1 6 (by decide) (by decide), e.2.2 14 (by decide) (by decide) (by decide) (by decide), e.2.2 15 (by decide) (by decide) (by decide) (by decide), e.2.2 16 (by decide) (by decide) (by decide) (by decide), e.2.2 17 (by decide) (by decide) (by decide) (by decide)]
  exact h
theorem KN.ne {A : Abs} {N N' : Mem} (h : KN A N) (e : NE N N') : KN A N' := by
  unfold KN
  rw [e.2.1 7 (by decide) (by decide), e.2.1 40 (by decide) (by decide), e.2.2 26 (by decide) (by decide) (by decide) (by decide), e.2.2 27 (by decide) (by decide) (by decide) (by decide), e.2.2 28 (by decide) (by decide) (by decide) (by decide), e.2.2 29 (by decide) (by decide) (by decide) (by decide), e.2.2 30 (by decide) (by decide) (by decide) (by decide)]
  exact h
theorem PC.ce {A : Abs} {M M' : Mem} (hR : PR A) (h : PC A M) (e : CE M M') : PC A M' := by
  have r : ∀ b, b < 8 → M'.1 (23 + b) = M.1 (23 + b) := fun b hb => e.2 _ (by omega) (by omega) (by omega) (by omega) (by omega)
  obtain ⟨h0, hz, hf⟩ := h
  refine ⟨?_, fun b h h1 h2 h3 => ?_, ?_⟩
  · unfold PC0
    rw [e.2 21 (by decide) (by decide) (by decide) (by decide) (by decide), e.2 35 (by decide) (by decide) (by decide) (by decide) (by decide), e.2 31 (by decide) (by decide) (by decide) (by decide) (by decide), e.2 32 (by decide) (by decide) (by decide) (by decide) (by decide), e.2 33 (by decide) (by decide) (by decide) (by decide) (by decide), e.2 34 (by decide) (by decide) (by decide) (by decide) (by decide)]
    exact h0
  · rw [r b h1]
    exact hz b h h1 h2 h3
  · unfold PF
    rw [e.2 21 (by decide) (by decide) (by decide) (by decide) (by decide)]
    rcases hf with hf | ⟨w, h1, h2, h3, h4⟩
    · exact Or.inl hf
    · refine Or.inr ⟨w, h1, h2, h3, fun h5 b h h6 => ?_⟩
      rw [r b (by have := h6.1; have := hR.1; omega)]
      exact h4 h5 b h h6
theorem KC.ce {A : Abs} {M M' : Mem} (h : KC A M) (e : CE M M') : KC A M' := by
  have r : ∀ k, 75 ≤ k → M'.1 k = M.1 k := fun k hk => e.2 k (by omega) (by omega) (by omega) (by omega) (by omega)
  obtain ⟨h0, hf⟩ := h
  refine ⟨?_, ?_⟩
  · obtain ⟨a, b, c, d⟩ := h0
    unfold KC0
    rw [r 75 (by decide), r 89 (by decide), r 90 (by decide), r 91 (by decide), r 92 (by decide)]
    refine ⟨a, b, c, fun t ht => ?_⟩
    rw [r (94 + t) (by omega)]
    exact d t ht
  · unfold KF
    rw [r 75 (by decide)]
    rcases hf with hf | ⟨h1, h2, h3⟩
    · exact Or.inl hf
    · refine Or.inr ⟨h1, h2, fun h4 m t hm ht => ?_⟩
      rw [r (77 + m) (by omega)]
      exact h3 h4 m t hm ht
theorem RS.ce {M M' N N' : Mem} (h : RS M N) (e : CE M M') (f : NE N N') : RS M' N' := by
  intro s hs
  rw [e.2 9 (by decide) (by decide) (by decide) (by decide) (by decide), e.2 10 (by decide) (by decide) (by decide) (by decide) (by decide), f.2.2 1 (by decide) (by decide) (by decide) (by decide), f.2.2 2 (by decide) (by decide) (by decide) (by decide), e.1, f.1]
  exact h s hs
/-- the end of a question -/
theorem Rel.q {A : Abs} {M M' N N' : Mem} (h : RelA A M N) (hC : HC A M') (e : CE M M') (f : NE N N') (hst : M'.1 0 5 = N'.1 0 0) : Rel M' N' := by
  obtain ⟨h1, h2, h3, h4, h5, h6, h7, h8, h9, h10⟩ := h
  exact ⟨hst, A, h1.ce e f, h2, hC, h4.ne f, h5, h6.ce h5 e, h7.ne f, h8, h9.ce e, h10.ne f⟩
theorem HC.st {A : Abs} {M : Mem} (h : HC A M) (v : Int32) : HC A (sA M 0 5 v) := h
theorem Rel.no {A : Abs} {M N : Mem} (h : RelA A M N) (v : Int32) : Rel (sA M 0 5 v) (sA N 0 0 v) := Rel.q h (h.2.2.1.st v) (CE.st M v) (NE.st N v) (by rw [sA_g, sA_g, if_pos ⟨rfl, rfl⟩, if_pos ⟨rfl, rfl⟩])

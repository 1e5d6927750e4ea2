/-! FLOWS AND PLANS: what is laid in at most, and the plan's next part -/
def wkB (A : Abs) (b : Nat) : Nat := if b < A 0 2 then A 8 b else 0
def cpK (A : Abs) (k b w : Nat) : Nat := if b < A 0 2 ∧ A 9 b ≤ w ∧ w < A 10 b ∧ k ≤ 24 * b + w then A 11 b else 0
def CG (A : Abs) (lf : Nat → Nat) (k S T : Nat) : Nat → Nat → Nat := mkR S T (wkB A) (wkB A) (cpK A k) (cpK A k) lf lf
/-- rows of batches and hours, k parts settled as Y tells -/
def STG (A : Abs) (lf : Nat → Nat) (k : Nat) (Y : Nat → Nat) (rs : Nat → Nat) : Prop := (∀ b, b < 8 → rs b = sm (cpK A k b) 24 + sm (fun w => Y (24 * b + w)) 24) ∧ ∀ w, w < 24 → rs (8 + w) + sm (fun b => Y (24 * b + w)) 8 = lf w
def YK (A : Abs) (k : Nat) (Y : Nat → Nat) : Prop := (∀ j, k ≤ j → Y j = 0) ∧ ∀ b w, b < 8 → w < 24 → Y (24 * b + w) ≤ A 11 b ∧ (¬ inW A b w → Y (24 * b + w) = 0)
def xOf (k : Nat) (Y : Nat → Nat) (R : Nat → Nat → Nat) (b w : Nat) : Nat := if b < 8 ∧ w < 24 then (if 24 * b + w < k then Y (24 * b + w) else R (8 + w) b) else 0
def xk (k : Nat) (x : Nat → Nat → Nat) (b w : Nat) : Nat := if k ≤ 24 * b + w then x b w else 0
theorem wk8 {A : Abs} (hP : PR A) : sm (wkB A) 8 = wkA A := by
  obtain ⟨d, hd⟩ : ∃ d, 8 = A 0 2 + d := ⟨8 - A 0 2, by have := hP.1; omega⟩
  have e : sm (wkB A) (A 0 2 + d) = sm (fun b => A 8 b) (A 0 2) := by
    rw [sm_split d, sm_congr (f := wkB A) (g := fun b => A 8 b) (A 0 2) (fun i hi => if_pos hi), sm_z (n := d) (fun i _ => show wkB A (A 0 2 + i) = 0 from if_neg (by omega)), Nat.add_zero]
  unfold wkA
  rw [← e, ← hd]
theorem cpK_in {A : Abs} {k b w : Nat} (h : inW A b w) (hk : k ≤ 24 * b + w) : cpK A k b w = A 11 b := if_pos ⟨h.1, h.2.1, h.2.2, hk⟩
theorem cpK_out {A : Abs} {k b w : Nat} (h : ¬ inW A b w) : cpK A k b w = 0 := if_neg (fun c => h ⟨c.1, c.2.1, c.2.2.1⟩)
theorem cpK_lt {A : Abs} {k b w : Nat} (h : 24 * b + w < k) : cpK A k b w = 0 := if_neg (fun c => by omega)
theorem inW_lt {A : Abs} (hP : PR A) {b w : Nat} (h : inW A b w) : b < 8 ∧ w < 24 := by
  have h1 := hP.1
  have h2 := hP.2 b h.1
  obtain ⟨a, c, d⟩ := h
  omega
theorem inW_em (A : Abs) (b w : Nat) : inW A b w ∨ ¬ inW A b w := by
  unfold inW
  omega
/-- a table tells parts that are as told -/
theorem st_feas {A : Abs} (hP : PR A) {lf : Nat → Nat} {k S T : Nat} (h : ST S T) {Y rs : Nat → Nat} {R : Nat → Nat → Nat} (hM : MX (CG A lf k S T) rs R) (hS : STG A lf k Y rs) (hY : YK A k Y) : feas A lf (xOf k Y R) ∧ (∀ b, b < 8 → sm (fun w => xOf k Y R b w) 24 + R S b = wkB A b) ∧ tot (xOf k Y R) + rs S = wkA A := by
  have hR0 : ∀ b w, b < 8 → w < 24 → R (8 + w) b ≤ cpK A k b w := by
    intro b w hb hw
    have := MX.pbh h hM hb hw
    omega
  have hx : ∀ b w, b < 8 → w < 24 → xOf k Y R b w = Y (24 * b + w) + R (8 + w) b := by
    intro b w hb hw
    unfold xOf
    rw [if_pos ⟨hb, hw⟩]
    by_cases c : 24 * b + w < k
    · rw [if_pos c]
      have := hR0 b w hb hw
      rw [cpK_lt c] at this
      omega
    · rw [if_neg c, hY.1 _ (by omega)]
      omega
  have hrow : ∀ b, b < 8 → sm (fun w => xOf k Y R b w) 24 + R S b = wkB A b := by
    intro b hb
    have e1 : sm (fun w => xOf k Y R b w) 24 = sm (fun w => Y (24 * b + w)) 24 + sm (fun w => R (8 + w) b) 24 := by
      rw [sm_congr 24 (fun w hw => hx b w hb hw), sm_add]
    have e2 := MX.rowb h hM hb
    have e3 := hS.1 b hb
    have e4 := MX.psb h hM hb
    have e5 : sm (fun w => R b (8 + w)) 24 + sm (fun w => R (8 + w) b) 24 = sm (cpK A k b) 24 := by
      rw [← sm_add]
      exact sm_congr 24 (fun w hw => MX.pbh h hM hb hw)
    omega
  refine ⟨⟨fun b w hn => ?_, fun b w => ?_, fun w hw => ?_, fun b hb => ?_⟩, hrow, ?_⟩
  · by_cases c : b < 8 ∧ w < 24
    · rw [hx b w c.1 c.2, (hY.2 b w c.1 c.2).2 hn]
      have := hR0 b w c.1 c.2
      rw [cpK_out hn] at this
      omega
    · exact if_neg c
  · by_cases c : b < 8 ∧ w < 24
    · unfold xOf
      rw [if_pos c]
      by_cases d : 24 * b + w < k
      · rw [if_pos d]
        exact (hY.2 b w c.1 c.2).1
      · rw [if_neg d]
        have h1 := hR0 b w c.1 c.2
        have h2 : cpK A k b w ≤ A 11 b := by
          unfold cpK
          by_cases e : b < A 0 2 ∧ A 9 b ≤ w ∧ w < A 10 b ∧ k ≤ 24 * b + w
          · rw [if_pos e]; exact Nat.le_refl _
          · rw [if_neg e]; exact Nat.zero_le _
        omega
    · rw [show xOf k Y R b w = 0 from if_neg c]
      exact Nat.zero_le _
  · have e1 : sm (fun b => xOf k Y R b w) 8 = sm (fun b => Y (24 * b + w)) 8 + sm (R (8 + w)) 8 := by
      rw [sm_congr 8 (fun b hb => hx b w hb hw), sm_add]
    have e2 := MX.rowh h hM hw
    have e3 := hS.2 w hw
    omega
  · have e1 := hrow b (by have := hP.1; omega)
    rw [show wkB A b = A 8 b from if_pos hb] at e1
    omega
  · have e1 : tot (xOf k Y R) + sm (R S) 8 = sm (wkB A) 8 := by
      unfold tot
      rw [← sm_add]
      exact sm_congr 8 hrow
    rw [MX.rowS h hM, wk8 hP] at e1
    exact e1
/-- parts as told make a table -/
theorem x_st {A : Abs} (hP : PR A) {lf : Nat → Nat} {k S T : Nat} (h : ST S T) {Y : Nat → Nat} (hY : YK A k Y) {x : Nat → Nat → Nat} (hf : feas A lf x) (ha : ∀ i, i < k → i < 192 → x (i / 24) (i % 24) = Y i) : ∃ rs R, MX (CG A lf k S T) rs R ∧ STG A lf k Y rs ∧ rs S + tot x = wkA A ∧ rs T = tot x := by
  obtain ⟨f1, f2, f3, f4⟩ := hf
  have hxy : ∀ b w, b < 8 → w < 24 → xk k x b w + Y (24 * b + w) = x b w := by
    intro b w hb hw
    unfold xk
    by_cases c : k ≤ 24 * b + w
    · rw [if_pos c, hY.1 _ c]
      rfl
    · rw [if_neg c, ← ha (24 * b + w) (by omega) (by omega), show (24 * b + w) / 24 = b by omega, show (24 * b + w) % 24 = w by omega]
      omega
  have hxc : ∀ b w, xk k x b w ≤ cpK A k b w := by
    intro b w
    unfold xk
    by_cases c : k ≤ 24 * b + w
    · rw [if_pos c]
      rcases inW_em A b w with d | d
      · rw [cpK_in d c]
        exact f2 b w
      · rw [f1 b w d]
        exact Nat.zero_le _
    · rw [if_neg c]
      exact Nat.zero_le _
  have hxw : ∀ b, sm (x b) 24 ≤ wkB A b := by
    intro b
    unfold wkB
    by_cases c : b < A 0 2
    · rw [if_pos c]
      exact f4 b c
    · rw [if_neg c, sm_z (fun w _ => f1 b w (fun d => c d.1))]
      exact Nat.le_refl _
  have hM : MX (CG A lf k S T) (fun u => sm (mkR S T (fun b => wkB A b - sm (x b) 24) (fun b => sm (x b) 24) (fun b w => cpK A k b w - xk k x b w) (fun b w => xk k x b w) (fun w => lf w - sm (fun b => x b w) 8) (fun w => sm (fun b => x b w) 8) u) 34) (mkR S T (fun b => wkB A b - sm (x b) 24) (fun b => sm (x b) 24) (fun b w => cpK A k b w - xk k x b w) (fun b w => xk k x b w) (fun w => lf w - sm (fun b => x b w) 8) (fun w => sm (fun b => x b w) 8)) := by
    refine ⟨mk_sym h (fun b _ => ?_) (fun b w _ _ => ?_) (fun w hw => ?_), fun _ _ => rfl⟩
    · have := hxw b
      show wkB A b - sm (x b) 24 + sm (x b) 24 = _
      omega
    · have := hxc b w
      show cpK A k b w - xk k x b w + xk k x b w = _
      omega
    · have := f3 w hw
      show lf w - sm (fun b => x b w) 8 + sm (fun b => x b w) 8 = _
      omega
  have htot : sm (fun w => sm (fun b => x b w) 8) 24 = tot x := by
    unfold tot
    rw [sm_swap (f := fun b w => x b w) 8]
  refine ⟨_, _, hM, ⟨fun b hb => ?_, fun w hw => ?_⟩, ?_, ?_⟩
  · show sm (mkR S T _ _ _ _ _ _ b) 34 = _
    rw [row_b h hb, ← sm_add, ← sm_add]
    refine sm_congr 24 (fun w hw => ?_)
    have e1 := hxy b w hb hw
    have e2 := hxc b w
    omega
  · show sm (mkR S T _ _ _ _ _ _ (8 + w)) 34 + _ = _
    rw [row_h h hw]
    have e1 : sm (fun b => xk k x b w) 8 + sm (fun b => Y (24 * b + w)) 8 = sm (fun b => x b w) 8 := by
      rw [← sm_add]
      exact sm_congr 8 (fun b hb => hxy b w hb hw)
    have e2 := f3 w hw
    omega
  · show sm (mkR S T _ _ _ _ _ _ S) 34 + _ = _
    rw [row_S h, ← wk8 hP]
    unfold tot
    rw [← sm_add]
    refine sm_congr 8 (fun b _ => ?_)
    have := hxw b
    show wkB A b - sm (x b) 24 + sm (x b) 24 = _
    omega
  · show sm (mkR S T _ _ _ _ _ _ T) 34 = _
    rw [row_T h]
    exact htot
theorem mxs_le {P : Nat → Prop} {f : Nat → Nat} {B : Nat} : ∀ n, (∀ x, x < n → f x ≤ B) → mxs P f n ≤ B
  | 0, _ => Nat.zero_le _
  | n + 1, h => by
    show max (mxs P f n) (cI (P n) (f n) 0) ≤ B
    have h1 := mxs_le n (fun x hx => h x (by omega)) (P := P)
    by_cases c : P n
    · rw [cI_t c]
      have := h n (by omega)
      omega
    · rw [cI_f c]
      omega
theorem mxs_max {P : Nat → Prop} {d n : Nat} (hd : P d) (hdn : d < n) (h : ∀ x, P x → x ≤ d) : mxs P (fun v => v) n = d := by
  rw [mxs_skip (u := d + 1) (by omega) (fun x h1 _ hx => by have := h x hx; omega)]
  show max (mxs P (fun v => v) d) (cI (P d) d 0) = d
  rw [cI_t hd]
  have := mxs_le (P := P) (f := fun v => v) (B := d) d (fun x hx => by show x ≤ d; omega)
  omega
theorem Y0K (A : Abs) : YK A 0 (fun _ => 0) := ⟨fun _ _ => rfl, fun _ _ _ _ => ⟨Nat.zero_le _, fun _ => rfl⟩⟩
/-- what is laid in at most -/
theorem laid_is {A : Abs} (hP : PR A) {lf : Nat → Nat} {S T : Nat} (h : ST S T) {rs : Nat → Nat} {R : Nat → Nat → Nat} (hM : MX (CG A lf 0 S T) rs R) (hS : STG A lf 0 (fun _ => 0) rs) (hc : rs S = 0 ∨ CUT R S T) : laidA A lf + rs S = wkA A := by
  have hst := h
  unfold ST at hst
  obtain ⟨g1, g2, g3⟩ := st_feas hP h hM hS (Y0K A)
  have e : laidA A lf = tot (xOf 0 (fun _ => 0) R) := by
    unfold laidA
    refine mxs_max ⟨_, g1, rfl⟩ (by omega) ?_
    rintro v ⟨x, hx, rfl⟩
    obtain ⟨rs', R', hM', hS', e1, e2⟩ := x_st hP h (Y0K A) (k := 0) hx (fun i hi => absurd hi (by omega))
    rcases hc with c | ⟨Z, z1, z2, z3⟩
    · omega
    · have := mincut hM hM' z1 (by omega) z2 z3 (fun u hu h1 h2 => ?_)
      · omega
      · rcases kinds h hu with e | e | e | ⟨w, hw, e⟩
        · exact absurd e h1
        · exact absurd e h2
        · rw [hS.1 u e, hS'.1 u e]
        · have a := hS.2 w hw
          have b := hS'.2 w hw
          rw [e]
          omega
  omega

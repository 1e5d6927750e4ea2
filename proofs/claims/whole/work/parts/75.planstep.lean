/-! THE PLAN, part by part -/
def STF (A : Abs) (lf : Nat → Nat) (k : Nat) (Y : Nat → Nat) (S T : Nat) (rs : Nat → Nat) (R : Nat → Nat → Nat) : Prop := MX (CG A lf k S T) rs R ∧ STG A lf k Y rs ∧ rs S = 0 ∧ rs T = wkA A
theorem st_full {A : Abs} (hP : PR A) {lf : Nat → Nat} {k S T : Nat} (h : ST S T) {Y rs : Nat → Nat} {R : Nat → Nat → Nat} (hF : STF A lf k Y S T rs R) (hY : YK A k Y) : full A lf (xOf k Y R) := by
  obtain ⟨hM, hS, h0, _⟩ := hF
  obtain ⟨g1, g2, g3⟩ := st_feas hP h hM hS hY
  refine ⟨g1, fun b hb => ?_⟩
  have hb8 : b < 8 := by have := hP.1; omega
  have e1 := g2 b hb8
  have e2 := MX.rowS h hM
  have e3 := sm_in (f := R S) (k := b) 8 hb8
  rw [show wkB A b = A 8 b from if_pos hb] at e1
  omega
theorem x_full {A : Abs} (hP : PR A) {lf : Nat → Nat} {k S T : Nat} (h : ST S T) {Y : Nat → Nat} (hY : YK A k Y) {x : Nat → Nat → Nat} (hf : full A lf x) (ha : ∀ i, i < k → i < 192 → x (i / 24) (i % 24) = Y i) : ∃ rs R, STF A lf k Y S T rs R := by
  obtain ⟨rs, R, hM, hS, e1, e2⟩ := x_st hP h hY hf.1 ha
  have e3 : tot x = wkA A := by
    rw [← wk8 hP]
    unfold tot
    refine sm_congr 8 (fun b _ => ?_)
    unfold wkB
    by_cases c : b < A 0 2
    · rw [if_pos c]
      exact hf.2 b c
    · rw [if_neg c]
      exact sm_z (fun w _ => hf.1.1 b w (fun d => c d.1))
  exact ⟨rs, R, hM, hS, by omega, by omega⟩
theorem mk_cp {S T : Nat} (h : ST S T) {cs cl : Nat → Nat} {cp cp' : Nat → Nat → Nat} {a c : Nat} (ha : a < 34) (hc : c < 34) (he : ∀ b w, b < 8 → w < 24 → ((a = b ∧ c = 8 + w) ∨ (a = 8 + w ∧ c = b)) → cp b w = cp' b w) : mkR S T cs cs cp cp cl cl a c = mkR S T cs cs cp' cp' cl cl a c := by
  unfold mkR
  unfold ST at h
  by_cases c1 : a = S
  · rw [if_pos c1, if_pos c1]
  · rw [if_neg c1, if_neg c1]
    by_cases c2 : a = T
    · rw [if_pos c2, if_pos c2]
    · rw [if_neg c2, if_neg c2]
      by_cases c3 : a < 8
      · rw [if_pos c3, if_pos c3]
        by_cases c4 : c = S
        · rw [if_pos c4, if_pos c4]
        · rw [if_neg c4, if_neg c4]
          by_cases c5 : 8 ≤ c ∧ c < 32
          · rw [if_pos c5, if_pos c5]
            exact he a (c - 8) c3 (by omega) (Or.inl ⟨rfl, by omega⟩)
          · rw [if_neg c5, if_neg c5]
      · rw [if_neg c3, if_neg c3]
        by_cases c4 : c = T
        · rw [if_pos c4, if_pos c4]
        · rw [if_neg c4, if_neg c4]
          by_cases c5 : c < 8
          · rw [if_pos c5, if_pos c5]
            exact he c (a - 8) c5 (by omega) (Or.inr ⟨by omega, rfl⟩)
          · rw [if_neg c5, if_neg c5]
/-- a pipe taken away -/
def rm (R : Nat → Nat → Nat) (u v : Nat) : Nat → Nat → Nat := fun a c => if (a = u ∧ c = v) ∨ (a = v ∧ c = u) then 0 else R a c
theorem cpK_s {A : Abs} {k b w : Nat} (h : ¬ 24 * b + w = k) : cpK A (k + 1) b w = cpK A k b w := by
  unfold cpK
  by_cases c : b < A 0 2 ∧ A 9 b ≤ w ∧ w < A 10 b ∧ k + 1 ≤ 24 * b + w
  · rw [if_pos c, if_pos (by omega)]
  · rw [if_neg c, if_neg (by omega)]
theorem rm_MX {A : Abs} {lf : Nat → Nat} {k b w S T : Nat} (h : ST S T) {rs : Nat → Nat} {R : Nat → Nat → Nat} (hb : b < 8) (hw : w < 24) (hk : k = 24 * b + w) (hM : MX (CG A lf k S T) rs R) : ∃ rs1, MX (CG A lf (k + 1) S T) rs1 (rm R b (8 + w)) ∧ rs1 b + R b (8 + w) = rs b ∧ rs1 (8 + w) + R (8 + w) b = rs (8 + w) ∧ ∀ u, u < 34 → u ≠ b → u ≠ 8 + w → rs1 u = rs u := by
  have row : ∀ u v, v < 34 → ((u = b ∧ v = 8 + w) ∨ (u = 8 + w ∧ v = b)) → u < 34 → sm (rm R b (8 + w) u) 34 + R u v = sm (R u) 34 := by
    intro u v hv hc hu
    have e := sm_up (f := R u) (k := v) (v := 0) 34 hv
    have e2 : sm (rm R b (8 + w) u) 34 = sm (uN (R u) v 0) 34 := by
      refine sm_congr 34 (fun c _ => ?_)
      unfold rm uN
      by_cases q : c = v
      · rw [if_pos q, if_pos (by omega)]
      · rw [if_neg q, if_neg (by omega)]
    omega
  refine ⟨fun u => sm (rm R b (8 + w) u) 34, ⟨fun u v hu hv => ?_, fun _ _ => rfl⟩, ?_, ?_, fun u hu h1 h2 => ?_⟩
  · by_cases c : (u = b ∧ v = 8 + w) ∨ (u = 8 + w ∧ v = b)
    · unfold rm
      rw [if_pos c, if_pos (by omega)]
      unfold CG
      rcases c with c | c
      · rw [c.1, c.2, mk_bh h hb hw, cpK_lt (by omega)]
      · rw [c.1, c.2, mk_hb h hw hb, cpK_lt (by omega)]
    · unfold rm
      rw [if_neg c, if_neg (by omega), hM.1 u v hu hv]
      unfold CG
      exact mk_cp h hu hv (fun b' w' _ _ hq => (cpK_s (by omega)).symm)
  · rw [← hM.2 b (by omega)]
    exact row b (8 + w) (by omega) (Or.inl ⟨rfl, rfl⟩) (by omega)
  · rw [← hM.2 (8 + w) (by omega)]
    exact row (8 + w) b (by omega) (Or.inr ⟨rfl, rfl⟩) (by omega)
  · rw [← hM.2 u hu]
    refine sm_congr 34 (fun c _ => ?_)
    unfold rm
    rw [if_neg (by omega)]
def planP (A : Abs) (lf : Nat → Nat) (k v : Nat) : Prop := ∃ x, full A lf x ∧ (∀ i, i < k → x (i / 24) (i % 24) = planK A lf k i) ∧ x (k / 24) (k % 24) = v
theorem planK_s {A : Abs} {lf : Nat → Nat} {k j : Nat} : planK A lf (k + 1) j = if j = k then gs (planP A lf k) 1000 else planK A lf k j := rfl
theorem gs_is {P : Nat → Prop} {v n : Nat} (hv : P v) (hn : v ≤ n) (h : ∀ x, P x → x ≤ v) : gs P n = v := by
  rw [gs_skip (u := v) hn (fun x h1 _ hx => by have := h x hx; omega)]
  rcases Nat.eq_zero_or_pos v with e | e
  · subst e
    rfl
  · exact gs_hit e hv
theorem gs_none {P : Nat → Prop} {n : Nat} (h : ∀ x, P x → x = 0) : gs P n = 0 := by
  rw [gs_skip (u := 0) (Nat.zero_le _) (fun x h1 _ hx => by have := h x hx; omega)]
  rfl
/-- a place that no batch may use -/
theorem plan_out {A : Abs} (hP : PR A) {lf : Nat → Nat} {k S T : Nat} (hk : k < 192) (hn : ¬ inW A (k / 24) (k % 24)) {rs : Nat → Nat} {R : Nat → Nat → Nat} (hF : STF A lf k (planK A lf k) S T rs R) (hY : YK A k (planK A lf k)) : STF A lf (k + 1) (planK A lf (k + 1)) S T rs R ∧ YK A (k + 1) (planK A lf (k + 1)) := by
  have e0 : gs (planP A lf k) 1000 = 0 := gs_none (by
    rintro v ⟨x, hx, _, rfl⟩
    exact hx.1.1 _ _ hn)
  have e1 : planK A lf (k + 1) = planK A lf k := by
    funext j
    rw [planK_s]
    by_cases c : j = k
    · rw [if_pos c, e0, c, hY.1 k (Nat.le_refl _)]
    · rw [if_neg c]
  have e2 : cpK A (k + 1) = cpK A k := by
    funext b w
    by_cases c : 24 * b + w = k
    · have d : ¬ inW A b w := by
        intro d
        have := inW_lt hP d
        apply hn
        rw [show k / 24 = b by omega, show k % 24 = w by omega]
        exact d
      rw [cpK_out d, cpK_out d]
    · exact cpK_s c
  rw [e1]
  refine ⟨?_, fun j hj => hY.1 j (by omega), hY.2⟩
  unfold STF CG STG at *
  rw [e2]
  exact hF
theorem plan_in {A : Abs} (hP : PR A) {lf : Nat → Nat} {k S T : Nat} (h : ST S T) (hin : inW A (k / 24) (k % 24)) {rs rs1 rs2 : Nat → Nat} {R R2 : Nat → Nat → Nat} {p : Nat} (hF : STF A lf k (planK A lf k) S T rs R) (hY : YK A k (planK A lf k)) (r1 : rs1 (k / 24) + R (k / 24) (8 + k % 24) = rs (k / 24)) (r2 : rs1 (8 + k % 24) + R (8 + k % 24) (k / 24) = rs (8 + k % 24)) (r3 : ∀ u, u < 34 → u ≠ k / 24 → u ≠ 8 + k % 24 → rs1 u = rs u) (hM2 : MX (CG A lf (k + 1) S T) rs2 R2) (hW : RW rs1 rs2 (8 + k % 24) (k / 24) p) (hp : p ≤ R (k / 24) (8 + k % 24)) (hc : p = R (k / 24) (8 + k % 24) ∨ CUT R2 (8 + k % 24) (k / 24)) :
    planK A lf (k + 1) k = R (8 + k % 24) (k / 24) + p ∧ STF A lf (k + 1) (planK A lf (k + 1)) S T rs2 R2 ∧ YK A (k + 1) (planK A lf (k + 1)) := by
  have hst := h
  unfold ST at hst
  obtain ⟨hb, hw⟩ := inW_lt hP hin
  obtain ⟨hM, hS, h0, hT⟩ := hF
  have hmo := (hP.2 (k / 24) hin.1).2.2.2.2.2
  have hsum := MX.pbh h hM hb hw
  rw [cpK_in hin (by omega)] at hsum
  have ek : 24 * (k / 24) + k % 24 = k := by omega
  -- sums with one place more, whatever it is
  have yb : ∀ v b, b < 8 → sm (fun w => uN (planK A lf k) k v (24 * b + w)) 24 = sm (fun w => planK A lf k (24 * b + w)) 24 + (if b = k / 24 then v else 0) := by
    intro v b hb'
    by_cases c : b = k / 24
    · rw [if_pos c]
      have e := sm_up (f := fun w => planK A lf k (24 * b + w)) (k := k % 24) (v := v) 24 hw
      have e2 : sm (fun w => uN (planK A lf k) k v (24 * b + w)) 24 = sm (uN (fun w => planK A lf k (24 * b + w)) (k % 24) v) 24 := by
        refine sm_congr 24 (fun w hw' => ?_)
        unfold uN
        by_cases q : w = k % 24
        · rw [if_pos q, if_pos (by omega)]
        · rw [if_neg q, if_neg (by omega)]
      have e3 : planK A lf k (24 * b + k % 24) = 0 := hY.1 _ (by omega)
      omega
    · rw [if_neg c, Nat.add_zero]
      refine sm_congr 24 (fun w hw' => ?_)
      unfold uN
      rw [if_neg (by omega)]
  have yw : ∀ v w, w < 24 → sm (fun b => uN (planK A lf k) k v (24 * b + w)) 8 = sm (fun b => planK A lf k (24 * b + w)) 8 + (if w = k % 24 then v else 0) := by
    intro v w hw'
    by_cases c : w = k % 24
    · rw [if_pos c]
      have e := sm_up (f := fun b => planK A lf k (24 * b + w)) (k := k / 24) (v := v) 8 hb
      have e2 : sm (fun b => uN (planK A lf k) k v (24 * b + w)) 8 = sm (uN (fun b => planK A lf k (24 * b + w)) (k / 24) v) 8 := by
        refine sm_congr 8 (fun b hb' => ?_)
        unfold uN
        by_cases q : b = k / 24
        · rw [if_pos q, if_pos (by omega)]
        · rw [if_neg q, if_neg (by omega)]
      have e3 : planK A lf k (24 * (k / 24) + w) = 0 := hY.1 _ (by omega)
      omega
    · rw [if_neg c, Nat.add_zero]
      refine sm_congr 8 (fun b hb' => ?_)
      unfold uN
      rw [if_neg (by omega)]
  have cb : ∀ b, b < 8 → sm (cpK A (k + 1) b) 24 + (if b = k / 24 then A 11 (k / 24) else 0) = sm (cpK A k b) 24 := by
    intro b hb'
    by_cases c : b = k / 24
    · rw [if_pos c]
      have e := sm_up (f := cpK A k b) (k := k % 24) (v := 0) 24 hw
      have e2 : sm (cpK A (k + 1) b) 24 = sm (uN (cpK A k b) (k % 24) 0) 24 := by
        refine sm_congr 24 (fun w hw' => ?_)
        unfold uN
        by_cases q : w = k % 24
        · rw [if_pos q, cpK_lt (by omega)]
        · rw [if_neg q, cpK_s (by omega)]
      rw [c, cpK_in hin (by omega)] at e
      rw [c] at e2 ⊢
      omega
    · rw [if_neg c, Nat.add_zero]
      exact sm_congr 24 (fun w hw' => cpK_s (by omega))
  have yk : ∀ v, v ≤ A 11 (k / 24) → YK A (k + 1) (uN (planK A lf k) k v) := by
    intro v hv
    refine ⟨fun j hj => ?_, fun b w hb' hw' => ?_⟩
    · unfold uN
      rw [if_neg (by omega)]
      exact hY.1 j (by omega)
    · unfold uN
      by_cases c : 24 * b + w = k
      · rw [if_pos c]
        rw [show b = k / 24 by omega, show w = k % 24 by omega]
        exact ⟨hv, fun d => absurd hin d⟩
      · rw [if_neg c]
        exact hY.2 b w hb' hw'
  have w0 := hW
  have hrow : STG A lf (k + 1) (uN (planK A lf k) k (R (8 + k % 24) (k / 24) + p)) rs2 := by
    refine ⟨fun b hb' => ?_, fun w hw' => ?_⟩
    · have e1 := hS.1 b hb'
      have e2 := hW b (by omega)
      have e3 := yb (R (8 + k % 24) (k / 24) + p) b hb'
      have e4 := cb b hb'
      rw [if_neg (by omega)] at e2
      by_cases c : b = k / 24
      · rw [if_pos c] at e2 e3 e4
        rw [c] at e1 e2 e3 e4 ⊢
        omega
      · rw [if_neg c] at e2 e3 e4
        have e5 := r3 b (by omega) c (by omega)
        omega
    · have e1 := hS.2 w hw'
      have e2 := hW (8 + w) (by omega)
      have e3 := yw (R (8 + k % 24) (k / 24) + p) w hw'
      rw [show (if 8 + w = k / 24 then p else 0) = 0 from if_neg (by omega)] at e2
      by_cases c : w = k % 24
      · rw [if_pos c] at e3
        rw [if_pos (by omega)] at e2
        rw [c] at e1 e2 e3 ⊢
        omega
      · rw [if_neg c] at e3
        rw [if_neg (by omega)] at e2
        have e5 := r3 (8 + w) (by omega) (by omega) (by omega)
        omega
  have hends : rs2 S = 0 ∧ rs2 T = wkA A := by
    have e1 := hW S (by omega)
    have e2 := hW T (by omega)
    rw [if_neg (by omega), if_neg (by omega)] at e1 e2
    have e3 := r3 S (by omega) (by omega) (by omega)
    have e4 := r3 T (by omega) (by omega) (by omega)
    omega
  have hF2 : STF A lf (k + 1) (uN (planK A lf k) k (R (8 + k % 24) (k / 24) + p)) S T rs2 R2 := ⟨hM2, hrow, hends.1, hends.2⟩
  have hY2 := yk (R (8 + k % 24) (k / 24) + p) (by omega)
  have hv : planP A lf k (R (8 + k % 24) (k / 24) + p) := by
    refine ⟨_, st_full hP h hF2 hY2, fun i hi => ?_, ?_⟩
    · unfold xOf
      rw [if_pos (by omega), if_pos (by omega)]
      unfold uN
      rw [show 24 * (i / 24) + i % 24 = i by omega, if_neg (by omega)]
    · unfold xOf
      rw [if_pos ⟨hb, hw⟩, if_pos (by omega), ek]
      exact if_pos rfl
  have hmax : ∀ v, planP A lf k v → v ≤ R (8 + k % 24) (k / 24) + p := by
    rintro v ⟨x, hx, ha, rfl⟩
    have hxm := hx.1.2.1 (k / 24) (k % 24)
    rcases hc with c | ⟨Z, z1, z2, z3⟩
    · omega
    · obtain ⟨rs', R', hM', hS', g1, g2⟩ := x_full hP h (yk (x (k / 24) (k % 24)) hxm) hx (fun i hi hi2 => by
        unfold uN
        by_cases q : i = k
        · rw [if_pos q, q]
        · rw [if_neg q]
          exact ha i (by omega))
      have := mincut hM2 hM' z1 (by omega) z2 z3 (fun u hu h1 h2 => ?_)
      · have a := hrow.2 (k % 24) hw
        have b := hS'.2 (k % 24) hw
        rw [yw _ _ hw, if_pos rfl] at a b
        omega
      · rcases kinds h hu with e | e | e | ⟨w, hw', e⟩
        · rw [e, hends.1, g1]
        · rw [e, hends.2, g2]
        · rw [hrow.1 u e, hS'.1 u e, yb _ u e, yb _ u e, if_neg h2, if_neg h2]
        · have a := hrow.2 w hw'
          have b := hS'.2 w hw'
          rw [yw _ _ hw', if_neg (by omega)] at a b
          rw [e]
          omega
  have eg : gs (planP A lf k) 1000 = R (8 + k % 24) (k / 24) + p := gs_is hv (by omega) hmax
  have eY : planK A lf (k + 1) = uN (planK A lf k) k (R (8 + k % 24) (k / 24) + p) := by
    funext j
    rw [planK_s, eg]
    rfl
  rw [eY]
  exact ⟨if_pos rfl, hF2, hY2⟩
theorem planK_st {A : Abs} {lf : Nat → Nat} {j : Nat} : ∀ k, j < k → planK A lf k j = planK A lf (j + 1) j
  | 0, h => absurd h (by omega)
  | k + 1, h => by
    by_cases c : j = k
    · rw [c]
    · rw [planK_s, if_neg c]
      exact planK_st k (by omega)

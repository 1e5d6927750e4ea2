/-! MAKING: the rows of the constructors, over worlds that are lists; new arrays are of the classes that T names -/
def AO (U : State) : Prop := (Cond.arrayOver (.array .int)).before #[] U = true ∧ (Cond.arrayOver (.array .long)).before #[] U = true
theorem AO.moved {u U : State} (h : u.vm.Alike U.vm) (hZ : AO u) : AO U := ⟨over_moved h hZ.1, over_moved h hZ.2⟩
theorem AO.use_i {U : State} {a : Array Value} (hZ : AO U) : (Cond.arrayOver (.array .int)).before a U = true := over_moved (Vm.Alike.refl U.vm) hZ.1
theorem AO.use_l {U : State} {a : Array Value} (hZ : AO U) : (Cond.arrayOver (.array .long)).before a U = true := over_moved (Vm.Alike.refl U.vm) hZ.2
theorem n_outer (c : ClassId) (N h0 : Nat) : ∀ i : Nat, i ≤ N → Jvm.Free.Multi.outerC c N h0 i = arrV c N (fun j => va_rf (if j < i then some (h0 + 1 + j) else none))
  | 0, _ => by
    show ({ cls := c, slots := Array.replicate N .null, vm := .none } : Cell) = _
    rw [arrV_new]
    refine congrArg (arrV c N) (funext fun j => ?_)
    rw [if_neg (Nat.not_lt_zero j)]
    rfl
  | i + 1, h => by
    show (Jvm.Free.Multi.outerC c N h0 i).setSlot i (.ref (h0 + 1 + i)) = _
    rw [n_outer c N h0 i (by omega), arrV_store]
    refine congrArg (arrV c N) (funext fun j => ?_)
    unfold updV
    by_cases e : j = i
    · rw [if_pos e, if_pos (by omega), e]
      rfl
    · rw [if_neg e]
      show va_rf (if j < i then some (h0 + 1 + j) else none) = _
      by_cases h2 : j < i
      · rw [if_pos h2, if_pos (by omega)]
      · rw [if_neg h2, if_neg (by omega)]
theorem n_news {A : Nat → Prop} {ws ws' : va_W} {n0 : Nat} (hD : va_D A ws) (hlt : ∀ (k : Nat) (x : Nat × va_E), ws[k]? = some x → x.1 < n0) (hnew : ∀ (k : Nat) (x : Nat × va_E), ws'[k]? = some x → x.1 = n0 + k) (hA : ∀ q, n0 ≤ q → A q) : va_D A (ws ++ ws') := by
  refine hD.app ⟨fun i j x y hi hj hxy => ?_, fun k x hk => hA _ (by rw [hnew k x hk]; omega)⟩ (fun i j x y hi hj hxy => ?_)
  · have := hnew i x hi
    have := hnew j y hj
    omega
  · have := hlt i x hi
    have := hnew j y hj
    omega
/-- the rows of a new grid, behind its outer array -/
def gridW (ro ri : ClassId) (N q : Nat) (z : vp_A) : va_W := (q, .inl (ro, N, .inr (.inr (.inr (.inr (fun i => if i < N then some (q + 1 + i) else none)))))) :: (List.range N).map (fun i => (q + 1 + i, .inl (ri, z)))
theorem gridW_at {ro ri : ClassId} {N q : Nat} {z : vp_A} {k : Nat} {x : Nat × va_E} (h : (gridW ro ri N q z)[k]? = some x) : x.1 = q + k ∧ ((k = 0 ∧ x.2 = .inl (ro, N, .inr (.inr (.inr (.inr (fun i => if i < N then some (q + 1 + i) else none)))))) ∨ ∃ i, k = i + 1 ∧ i < N ∧ x.2 = .inl (ri, z)) := by
  unfold gridW at h
  cases k with
  | zero => rw [List.getElem?_cons_zero] at h; cases h; exact ⟨rfl, Or.inl ⟨rfl, rfl⟩⟩
  | succ k =>
    rw [List.getElem?_cons_succ, List.getElem?_map] at h
    by_cases hk : k < N
    · rw [List.getElem?_range hk] at h
      cases h
      exact ⟨by show q + 1 + k = q + (k + 1); omega, Or.inr ⟨k, rfl, hk, rfl⟩⟩
    · rw [List.getElem?_eq_none (by rw [List.length_range]; omega)] at h
      cases h
section NN
variable {p : Program} {l : Launch} {e : Env} {R : Room} {s : State} {m : MethodId} {args : Array Value} {below : List Frame} {meth : Method} {c : Code} {H H0 : Heap} {locs : List Loc} {cells slots : Nat} {Q : State → Prop}
variable {cc : ByteArray} {pc nL : Nat} {ls : Array Slot} {rest : List Value} {own : String} {Ts : List Cond} {D : va_G} {T : Nat → ClassId} {A : Nat → Prop} {ws : va_W}
theorem n_newa (S : CallFix p m c cc nL s args Ts own) (hK : va_K D vwCl (tyT T) s) (hP : va_P D vwCl ws H) (hD : va_D A ws) (hS : va_S A H0 H locs) (hA : ∀ q, H0.size ≤ q → A q) {atype : ArrayType} {ty : FieldType} (j : Nat) (harr : (Cond.arrayClass (newarray.typeOf atype)).before args s = true) (hty : newarray.typeOf atype = ty) (hu : ∀ cA, va_RA s cA ty → cA = T j)
    {n : Int32} {N' : Nat} {a0 : vp_A} (ha : ∀ cA : ClassId, vp_cell cA a0 = arrV cA N' (fun _ => defaultValue ty)) (hn : ¬ n < 0) (hN : n.toNatClampNeg = N') (hbytes : N' * componentBytes ty ≤ 536870912) (hcells : cells + 1 ≤ R.cells) (hslots : slots + N' ≤ R.slots) (hdg : decode cc pc = .ok (.newarray atype, 2))
    (kk : ∀ (q : Nat) (H1 : Heap), va_P D vwCl (ws ++ [(q, .inl (T j, a0))]) H1 → va_D A (ws ++ [(q, .inl (T j, a0))]) → va_S A H0 H1 locs →
      W p l e R s m args below meth c H1 locs (cells + 1) (slots + N') Q (F0 m (pc + 2) ls (.ref q :: rest))) : W p l e R s m args below meth c H locs cells slots Q (F0 m pc ls (.int n :: rest)) := by
  refine va_newa S.1 S.2.1 harr hty hK hP hD hS hA ha hn hN hbytes hcells hslots hdg (fun q cA H1 hK1 hP1 hD1 hS1 => ?_)
  have e1 := hu cA (hK1.2 5 (cA, ty) rfl).2
  subst e1
  exact kk q H1 hP1 hD1 hS1
theorem n_mna (S : CallFix p m c cc nL s args Ts own) (hP : va_P D vwCl ws H) (hD : va_D A ws) (hS : va_S A H0 H locs) (hA : ∀ q, H0.size ≤ q → A q) {index : Nat} {ty : FieldType} {ro ri : ClassId} (hclink : (Cond.classLink own index ("[" ++ (FieldType.array ty).toString)).before args s = true) (hover : (Cond.arrayOver (.array ty)).before args s = true) (harr : (Cond.arrayClass ty).before args s = true)
    (hro : s.vm.findClass ("[" ++ (FieldType.array ty).toString) = some ro) (hri : s.vm.findClass (FieldType.array ty).toString = some ri) {n k : Int32} {N' K' : Nat} {z : vp_A} (hn : ¬ n < 0) (hk : ¬ k < 0) (hN : n.toNatClampNeg = N') (hM : k.toNatClampNeg = K')
    (hb1 : N' * 4 ≤ 536870912) (hb2 : K' * componentBytes ty ≤ 536870912) (hb3 : K' ≤ 536870912) (hdf : fits ty (defaultValue ty) = true) (hdd : (defaultValue ty).isDefault = true) (hcells : cells + (1 + N') ≤ R.cells) (hslots : slots + (N' + N' * K') ≤ R.slots) (hz : ∀ c : ClassId, Jvm.Free.Multi.innerC c K' (defaultValue ty) = vp_cell c z) (hdg : decode cc pc = .ok (.multianewarray index 2, 4))
    (kk : ∀ (q : Nat) (H1 : Heap), va_P D vwCl (ws ++ gridW ro ri N' q z) H1 → va_D A (ws ++ gridW ro ri N' q z) → va_S A H0 H1 locs →
      W p l e R s m args below meth c H1 locs (cells + 1 + N') (slots + N' + N' * K') Q (F0 m (pc + 4) ls (.ref q :: rest))) : W p l e R s m args below meth c H locs cells slots Q (F0 m pc ls (.int k :: .int n :: rest)) := by
  subst hN
  subst hM
  intro T0 hT Xs
  obtain ⟨vm₁, cA, comp, -, fA, fC, -, -, X', step⟩ := Xs.multianewarray2F S.1 S.2.2.2.1 hclink hover harr (g := F0 m pc ls (.int k :: .int n :: rest)) rfl (by rw [S.2.1]; exact hdg) rfl hn hk hb1 hb2 hb3 hdf hdd hcells hslots
  cases Option.some.inj (hro.symm.trans fA)
  cases Option.some.inj (hri.symm.trans fC)
  generalize hF : Jvm.Free.Multi.fill (T0.setVm vm₁) ro ri n.toNatClampNeg k.toNatClampNeg (defaultValue ty) n.toNatClampNeg = F at X' step
  have hTh : (T0.setVm vm₁).heap = H := hT
  obtain ⟨f1, f2, -, -⟩ := Jvm.Free.Multi.fill_facts (T0.setVm vm₁) ro ri n.toNatClampNeg k.toNatClampNeg (defaultValue ty) n.toNatClampNeg
  rw [hF, hTh] at f1 f2
  have hold : ∀ x : Nat, x < H.size → F.heap[x]? = H[x]? := fun x hx => by
    have h9 := Jvm.Free.Multi.fill_old (T0.setVm vm₁) ro ri n.toNatClampNeg k.toNatClampNeg (defaultValue ty) (a := x) (by rw [hTh]; exact hx) n.toNatClampNeg
    rw [hF, hTh] at h9
    exact h9
  have hrow : ∀ j : Nat, j < n.toNatClampNeg → F.heap[H.size + 1 + j]? = some (vp_cell ri z) := fun j hj => by
    have h9 := Jvm.Free.Multi.fill_inner (T0.setVm vm₁) ro ri n.toNatClampNeg k.toNatClampNeg (defaultValue ty) n.toNatClampNeg j hj
    rw [hF, hTh, hz] at h9
    exact h9
  rw [n_outer ro n.toNatClampNeg H.size n.toNatClampNeg (Nat.le_refl _)] at f2
  have hlt : ∀ (k9 : Nat) (x : Nat × va_E), ws[k9]? = some x → x.1 < H.size := fun k9 x hx => (hP k9 x hx).lt
  have hP1 : va_P D vwCl (ws ++ gridW ro ri n.toNatClampNeg H.size z) F.heap := va_P.app (hP.kept (fun k9 x hx => hold x.1 (hlt k9 x hx))) (fun k9 x hx => by
    obtain ⟨ha, h2 | ⟨i, h3, h4, h5⟩⟩ := gridW_at hx
    · obtain ⟨a9, e9⟩ := x
      obtain ⟨h6, h7⟩ := h2
      have ha2 : a9 = H.size := by rw [h6] at ha; exact ha
      have h7' : e9 = _ := h7
      subst ha2
      subst h7'
      exact f2
    · obtain ⟨a9, e9⟩ := x
      have ha2 : a9 = H.size + 1 + i := by
        have ha' : a9 = H.size + k9 := ha
        omega
      have h7' : e9 = _ := h5
      subst ha2
      subst h7'
      exact hrow i h4)
  have hD1 : va_D A (ws ++ gridW ro ri n.toNatClampNeg H.size z) := n_news hD hlt (fun k9 x hx => (gridW_at hx).1) (fun q hq => hA q (Nat.le_trans hS.1 hq))
  obtain ⟨t, a1, b1⟩ := kk H.size F.heap hP1 hD1 ⟨by rw [f1]; have := hS.1; omega, fun x h1 h2 => (hold x (Nat.lt_of_lt_of_le h1 hS.1)).trans (hS.2.1 x h1 h2), hS.2.2⟩ F rfl X'
  refine ⟨t, step t ?_, b1⟩
  have e9 : T0.heap.size = H.size := by rw [hT]
  rw [e9]
  exact a1
end NN
/-- behind a call on the last cells of a list: what came back stands in their place -/
theorem n_join {D : va_G} {cl : List vw_C} {A0 : Nat → Prop} {w0 wc w1 : va_W} {H H1 : Heap} (hP : va_P D cl (w0 ++ wc) H) (hD : va_D A0 (w0 ++ wc)) (hk : ∀ q : Nat, q < H.size → ¬ va_A wc H.size q → H1[q]? = H[q]?) (hF : ∀ q, va_A wc H.size q → A0 q) (hP1 : va_P D cl w1 H1) (hD1 : va_D (va_A wc H.size) w1) : va_P D cl (w0 ++ w1) H1 ∧ va_D A0 (w0 ++ w1) := by
  have a1 : ∀ (k : Nat) (q : Nat × va_E), w0[k]? = some q → (w0 ++ wc)[k]? = some q := fun k q h => by rw [List.getElem?_append_left (List.getElem?_eq_some_iff.mp h).1]; exact h
  have a2 : ∀ (k : Nat) (q : Nat × va_E), wc[k]? = some q → (w0 ++ wc)[w0.length + k]? = some q := fun k q h => by rw [List.getElem?_append_right (by omega), Nat.add_sub_cancel_left]; exact h
  have apart : ∀ (k : Nat) (q : Nat × va_E), w0[k]? = some q → q.1 < H.size ∧ ¬ va_A wc H.size q.1 := by
    intro k q hq
    have hl := (hP k q (a1 k q hq)).lt
    refine ⟨hl, fun h => ?_⟩
    rcases h with ⟨k2, e, h⟩ | h
    · have hij := hD.1 k (w0.length + k2) q (q.1, e) (a1 k q hq) (a2 k2 _ h) rfl
      have := (List.getElem?_eq_some_iff.mp hq).1
      omega
    · omega
  refine ⟨va_P.app (fun k q hq => (hP k q (a1 k q hq)).kept (hk q.1 (apart k q hq).1 (apart k q hq).2)) hP1, va_D.app ⟨fun i j x y hi hj hxy => hD.1 i j x y (a1 i x hi) (a1 j y hj) hxy, fun k q hq => hD.2 k q (a1 k q hq)⟩ (hD1.weaken (fun k q _ h => hF q.1 h)) (fun i j x y hx hy hxy => ?_)⟩
  exact (apart i x hx).2 (by rw [hxy]; exact hD1.2 j y hy)
theorem n_sub {D : va_G} {cl : List vw_C} {w0 wc : va_W} {H : Heap} (hP : va_P D cl (w0 ++ wc) H) : va_P D cl wc H := fun k q h => hP (w0.length + k) q (by rw [List.getElem?_append_right (by omega), Nat.add_sub_cancel_left]; exact h)
theorem n_subD {A : Nat → Prop} {w0 wc : va_W} (hD : va_D A (w0 ++ wc)) : va_D A wc := by
  have a2 : ∀ (k : Nat) (q : Nat × va_E), wc[k]? = some q → (w0 ++ wc)[w0.length + k]? = some q := fun k q h => by rw [List.getElem?_append_right (by omega), Nat.add_sub_cancel_left]; exact h
  exact ⟨fun i j x y hi hj hxy => by have := hD.1 _ _ x y (a2 i x hi) (a2 j y hj) hxy; omega, fun k q h => hD.2 _ q (a2 k q h)⟩
theorem n_free {A0 : Nat → Prop} {w0 wc : va_W} {H0 H : Heap} {locs : List Loc} (hD : va_D A0 (w0 ++ wc)) (hS : va_S A0 H0 H locs) (hA : ∀ q, H0.size ≤ q → A0 q) : ∀ q, va_A wc H.size q → A0 q := by
  intro q h
  rcases h with ⟨k, e, h⟩ | h
  · exact (n_subD hD).2 k (q, e) h
  · exact hA q (Nat.le_trans hS.1 h)

/-! LAYOUTS GLUED: a sublayout stands behind another one, its own references moved -/
def shc (n : Nat) (c : LayC) : LayC := (c.1, c.2.1, if 4 ≤ c.1 then c.2.2.1 + n else c.2.2.1, c.2.2.2.map (fun o => o.map (· + n)))
def shL (n : Nat) (L : Lay) : Lay := L.map (shc n)
def glue {α : Type} (n : Nat) (f g : Nat → α) : Nat → α := fun k => if k < n then f k else g (k - n)
def glueM (n : Nat) (M N : Mem) : Mem := (glue n M.1 N.1, glue n M.2 N.2)
theorem glue_lo {α : Type} {n k : Nat} {f g : Nat → α} (h : k < n) : glue n f g k = f k := if_pos h
theorem glue_hi {α : Type} {n k : Nat} {f g : Nat → α} : glue n f g (n + k) = g k := by
  unfold glue
  rw [if_neg (by omega), Nat.add_sub_cancel_left]
theorem flds_sh {σ : Nat → Nat} {f : Nat → Int32} {n : Nat} {sl : List (Option Nat)} : flds σ f (sl.map (fun o => o.map (· + n))) = flds (fun k => σ (n + k)) f sl := by
  unfold flds
  rw [List.length_map]
  apply List.map_congr_left
  intro j _
  unfold slotV
  rw [List.getElem?_map]
  cases sl[j]? with
  | none => rfl
  | some o =>
    cases o with
    | none => rfl
    | some r => show Value.ref (σ (r + n)) = Value.ref (σ (n + r)); rw [Nat.add_comm]
theorem cell_sh {T : Nat → ClassId} {σ : Nat → Nat} {M : Mem} {n k : Nat} {c : LayC} : cellOf T σ M (n + k) (shc n c) = cellOf T (fun k => σ (n + k)) (fun k => M.1 (n + k), fun k => M.2 (n + k)) k c := by
  obtain ⟨c1, c2, c3, c4⟩ := c
  unfold cellOf shc
  dsimp only
  by_cases h0 : c1 = 0
  · rw [if_pos h0, if_pos h0, flds_sh]
  · rw [if_neg h0, if_neg h0]
    by_cases h1 : c1 = 1
    · rw [if_pos h1, if_pos h1]
    · rw [if_neg h1, if_neg h1]
      by_cases h2 : c1 = 2
      · rw [if_pos h2, if_pos h2]
      · rw [if_neg h2, if_neg h2]
        by_cases h3 : c1 = 3
        · rw [if_pos h3, if_pos h3]
        · rw [if_neg h3, if_neg h3, if_pos (show 4 ≤ c1 by omega)]
          have e : (fun i => if i < c2 then some (σ (c3 + n + i)) else none) = (fun i => if i < c2 then some (σ (n + (c3 + i))) else none) := by
            funext i
            rw [show c3 + n + i = n + (c3 + i) by omega]
          rw [e]
theorem wd_app {T : Nat → ClassId} {σ : Nat → Nat} {M : Mem} {La Lb : Lay} {n : Nat} (hn : La.length = n) : wd T (La ++ shL n Lb) σ M = wd T La σ M ++ wd T Lb (fun k => σ (n + k)) (fun k => M.1 (n + k), fun k => M.2 (n + k)) := by
  subst hn
  apply List.ext_getElem?
  intro j
  by_cases hj : j < La.length
  · have h1 : (La ++ shL La.length Lb)[j]? = some La[j] := by rw [List.getElem?_append_left hj, List.getElem?_eq_getElem hj]
    rw [wd_get h1, List.getElem?_append_left (by rw [wd_len]; exact hj), wd_get (List.getElem?_eq_getElem hj)]
  · obtain ⟨k, rfl⟩ : ∃ k, j = La.length + k := ⟨j - La.length, by omega⟩
    rw [List.getElem?_append_right (by rw [wd_len]; omega), wd_len, Nat.add_sub_cancel_left]
    by_cases hk : k < Lb.length
    · have h1 : (La ++ shL La.length Lb)[La.length + k]? = some (shc La.length Lb[k]) := by
        rw [List.getElem?_append_right (by omega), Nat.add_sub_cancel_left, shL, List.getElem?_map, List.getElem?_eq_getElem hk]
        rfl
      rw [wd_get h1, wd_get (List.getElem?_eq_getElem hk), cell_sh]
    · rw [List.getElem?_eq_none (by rw [wd_len, List.length_append, shL, List.length_map]; omega), List.getElem?_eq_none (by rw [wd_len]; omega)]
theorem wd_glue {T : Nat → ClassId} {σ τ : Nat → Nat} {M N : Mem} {La Lb : Lay} {n : Nat} (hn : La.length = n) : wd T (La ++ shL n Lb) (glue n σ τ) (glueM n M N) = wd T La (glue n σ τ) (glueM n M N) ++ wd T Lb τ N := by
  rw [wd_app hn]
  have e1 : (fun k => glue n σ τ (n + k)) = τ := funext fun k => glue_hi
  have e2 : (fun k => (glueM n M N).1 (n + k)) = N.1 := funext fun k => glue_hi
  have e3 : (fun k => (glueM n M N).2 (n + k)) = N.2 := funext fun k => glue_hi
  rw [e1, e2, e3]
/-- the rows of a grid under a table of addresses -/
theorem n_grid {ro ri : ClassId} {N q b : Nat} {z : vp_A} {σ : Nat → Nat} (h0 : ∀ i, i < N → σ (b + i) = q + 1 + i) : gridW ro ri N q z = (q, .inl (ro, N, .inr (.inr (.inr (.inr (fun i => if i < N then some (σ (b + i)) else none)))))) :: (List.range N).map (fun i => (σ (b + i), .inl (ri, z))) := by
  unfold gridW
  have e1 : (fun i => if i < N then some (q + 1 + i) else none) = (fun i => if i < N then some (σ (b + i)) else none) := by
    funext i
    by_cases h : i < N
    · rw [if_pos h, if_pos h, h0 i h]
    · rw [if_neg h, if_neg h]
  have e2 : (List.range N).map (fun i => (q + 1 + i, (.inl (ri, z) : va_E))) = (List.range N).map (fun i => (σ (b + i), .inl (ri, z))) := by
    apply List.map_congr_left
    intro i hi
    rw [h0 i (List.mem_range.mp hi)]
  rw [e1, e2]
def Z0 : Mem := (fun _ _ => 0, fun _ _ => 0)
/-! THE CONTRACT OF A CONSTRUCTOR: one object at first, a whole layout behind it -/
def preN (D : va_G) (T : Nat → ClassId) (av : List Value) (x : Nat × va_E) (sz : Nat) : Array Value → State → Prop :=
  va_Pc av (fun U => U.heap.size = sz ∧ va_P D vwCl [x] U.heap ∧ va_K D vwCl (tyT T) U ∧ va_D (fun _ => True) [x] ∧ NW U ∧ AO U)
def postN (D : va_G) (T : Nat → ClassId) (L : Lay) (M : Mem) (x : Nat × va_E) (sz : Nat) : Array Value → State → Outcome → State → Prop :=
  va_Qv (fun σ : Nat → Nat => σ 0 = x.1) (fun σ t => va_P D vwCl (wd T L σ M) t.heap ∧ va_D (va_A [x] sz) (wd T L σ M)) (va_A [x] sz)
theorem preN_blind {D : va_G} {T : Nat → ClassId} {av : List Value} {x : Nat × va_E} {sz : Nat} : FrameBlind (preN D T av x sz) := fun a U g mk q => by
  obtain ⟨q0, qz, qP, qK, qD, qN, qO⟩ := q
  exact ⟨q0, qz, qP, va_K.moved (u := U) (U := U.calling g mk a) (Vm.Alike.refl U.vm) qK, qD, NW.same (U := U.calling g mk a) rfl qN, AO.moved (U := U.calling g mk a) (Vm.Alike.refl U.vm) qO⟩
theorem n_of {y : MethodName} {ws ws' : List Cond} {rm : Room} {cc : ByteArray} {maxL mc ms : Nat} {own : String} {l : Launch} {D : va_G} {T : Nat → ClassId} {av : List Value} {x : Nat × va_E} {sz : Nat} {Qc : Array Value → State → Outcome → State → Prop} (hy : plainName y.cls = true) (hw : ws = Cond.code y cc maxL none :: ws') (hown : y.cls = own) (hyn : y.name = "<init>") (hlen : (lg_sl av).length ≤ maxL)
    (body : ∀ (p : Program) (e : Env) (s : State) (m : MethodId) (args : Array Value) (below : List Frame) (meth : Method) (c : Code) (H : Heap) (ls : Array Slot) (locs : List Loc) (A : Nat → Prop), CallFix p m c cc maxL s args ws own → meth.sig.returnType = none → meth.locks = false → meth.name = "<init>" → lv_has ls maxL (lv_args 0 av) → s.heap.size = sz → A = va_A [x] sz → (∀ q, s.heap.size ≤ q → A q) → va_K D vwCl (tyT T) s → va_P D vwCl [x] H → va_D A [x] → va_S A s.heap H locs → NW s → AO s →
      W p l e rm s m args below meth c H locs 0 0 (MQ below Qc args s mc ms A) (F0 m 0 ls [])) : Met l y ws rm (preN D T av x sz) Qc mc ms (va_A [x] sz) := by
  refine Met.ofW (cc := cc) (maxL := maxL) (ret := none) hy hw ?_
  intro p e s m args below meth c s₁ B hml hv
  obtain ⟨rfl, hz, hP, hK, hD, hN, hO⟩ := hv
  have hts := atoms_spec (ws := ws) B.pre
  have hf : s.vm.findClass own = some m.cls := by rw [← hown]; exact findClass_of_methodNamed B.named
  have hin : meth.name = "<init>" := by rw [← hyn]; exact (name_of_methodNamed B.named B.method).1
  have hl := lv_entry av (n := maxL) hlen
  rw [lg_entry_eq]
  exact body p e s m _ below meth c s.heap _ [] _ ⟨B.exec, B.bytes, hml, hf, hts⟩ B.returns B.notSynchronized hin hl hz rfl (fun q h => Or.inr (by rw [← hz]; exact h)) hK hP hD.self va_S.rf hN hO
section NI
variable {p : Program} {l : Launch} {e : Env} {R : Room} {s : State} {m : MethodId} {args a : Array Value} {below : List Frame} {meth : Method} {c : Code} {H H0 : Heap} {locs : List Loc} {cells slots : Nat} {Q : State → Prop}
variable {cc : ByteArray} {pc nL : Nat} {ls : Array Slot} {rest st : List Value} {own : String} {Ts : List Cond} {D : va_G} {T : Nat → ClassId} {A : Nat → Prop} {tl w0 : va_W} {h0 : Nat}
theorem n_put (S : CallFix p m c cc nL s args Ts own) (hK : va_K D vwCl (tyT T) s) {C : String} {TX : u_T} {N ci : Nat} {fs : List Value} (hP : va_P D vwCl ((h0, .inr (ci, fs)) :: tl) H) (hD : va_D A ((h0, .inr (ci, fs)) :: tl)) (hS : va_S A H0 H locs) (k : Nat) {index : Nat} (hin : ∀ w ∈ u_ws C TX N, w ∈ Ts) (hc : vwCl[ci]? = some (C, TX, N)) (hlink : (Cond.fieldLink own index C (TX k).2.1 (TX k).2.2.1).before args s = true) (hr : (TX k).1 = C) (hk : k < N)
    (ty0 : Nat → FieldType) (hty : ∀ k, k < N → parseFieldDescriptor (TX k).2.2.1 = some (ty0 k)) (hnm : ∀ a, a < N → ∀ b, b < N → a ≠ b → (TX a).2.1 ≠ (TX b).2.1) (hfin : (TX k).2.2.2 = false ∨ (meth.name = "<init>" ∧ C = own)) {v : Value} (hn : narrow (ty0 k) v = v) (hfit : fits (ty0 k) v = true) (hl : k < fs.length) (hdg : decode cc pc = .ok (.putfield index, 3))
    (kk : ∀ (H1 : Heap) (locs1 : List Loc), va_P D vwCl ((h0, .inr (ci, fs.set k v)) :: tl) H1 → va_D A ((h0, .inr (ci, fs.set k v)) :: tl) → va_S A H0 H1 locs1 → W p l e R s m args below meth c H1 locs1 cells slots Q (F0 m (pc + 3) ls rest)) : W p l e R s m args below meth c H locs cells slots Q (F0 m pc ls (v :: .ref h0 :: rest)) := by
  by_cases hf : (TX k).2.2.2 = false
  · exact va_put S.1 S.2.1 S.2.2.2.2 hin ty0 hty hnm S.2.2.2.1 hK hP hD hS 0 rfl hc k hk hlink (fun x h => by rw [← hr]; exact h) hf (hty k hk) hn hfit hl hdg (fun H1 locs1 hP1 hD1 hS1 => kk H1 locs1 hP1 hD1 hS1)
  · obtain ⟨h1, h2⟩ := hfin.resolve_left hf
    exact va_putF S.1 S.2.1 S.2.2.2.2 hin ty0 hty hnm S.2.2.2.1 hK hP hD hS 0 rfl hc k hk hlink (fun x h => by rw [← hr]; exact h) (by cases hq : (TX k).2.2.2 with
      | true => rfl
      | false => exact absurd hq hf) h1 (hr.trans h2) (hty k hk) hn hfit hl hdg (fun H1 locs1 hP1 hD1 hS1 => kk H1 locs1 hP1 hD1 hS1)
theorem n_callI (S : CallFix p m c cc nL s args Ts own) (hK : va_K D vwCl (tyT T) s) (hN : NW s) (hO : AO s) {x : Nat × va_E} (hP : va_P D vwCl (w0 ++ [x]) H) (hD : va_D A (w0 ++ [x])) (hS : va_S A H0 H locs) (hA : ∀ q, H0.size ≤ q → A q) {y : MethodName} {ws : List Cond} {rm : Room} {bytes : ByteArray} {maxL n index mc ms : Nat} {As : List Value} {L : Lay} {M : Mem}
    (hM : Met l y ws rm (preN D T (.ref x.1 :: As) x H.size) (postN D T L M x H.size) mc ms (va_A [x] H.size)) (cw : CallB R s args own index y bytes maxL none ws rm mc ms n ∧ y.name = "<init>" ∧ (Cond.instanceMethod y).before args s = true)
    (hn : As.length = n) (hls : ls.size = nL) (hst : st = As.reverse ++ .ref x.1 :: rest) (hcat : (rest.map fun v => v.category).sum ≤ 8) (hdg : decode cc pc = .ok (.invokespecial index, 3)) (hf : cells + mc ≤ R.cells ∧ slots + ms ≤ R.slots)
    (kk : ∀ (σ : Nat → Nat) (H1 : Heap) (locs1 : List Loc), σ 0 = x.1 → va_P D vwCl (w0 ++ wd T L σ M) H1 → va_D A (w0 ++ wd T L σ M) → va_S A H0 H1 locs1 → W p l e R s m args below meth c H1 locs1 (cells + mc) (slots + ms) Q (F0 m (pc + 3) ls rest)) : W p l e R s m args below meth c H locs cells slots Q (F0 m pc ls st) := by
  have hF := n_free hD hS hA
  have hPc := n_sub hP
  have hDc := n_subD hD
  refine va_callv (va_runI S hM cw ⟨preN_blind, fun U hU hWm => ⟨rfl, by rw [hU], by rw [hU]; exact hPc, va_K.moved hWm.alike hK, hDc.weaken (fun _ _ _ _ => trivial), NW.warm hWm hN, AO.moved hWm.alike hO⟩⟩ rfl hn hls hst (lv_room hcat) hdg hf) hS (fun q _ h => hF q h) hF (fun σ t H1 locs1 ht hvm hp hB hz hk hS1 => ?_)
  obtain ⟨hP1, hD1⟩ := hB
  rw [ht] at hP1
  obtain ⟨g1, g2⟩ := n_join hP hD hk hF hP1 hD1
  exact kk σ H1 locs1 hp g1 g2 hS1
theorem n_vret {L : Lay} {M : Mem} {x : Nat × va_E} {ws : va_W} {sz : Nat} (S : CallFix p m c cc nL s args Ts own) (hr : meth.sig.returnType = none) (hlk : meth.locks = false) (hAe : A = va_A [x] sz) (hP : va_P D vwCl ws H) (hD : va_D A ws) (hS : va_S A s.heap H locs) (σ : Nat → Nat) (h0 : σ 0 = x.1) (he : ws = wd T L σ M) (hdg : decode cc pc = .ok (.return_, 1)) :
    W p l e R s m args below meth c H locs cells slots (MQ below (postN D T L M x sz) args s cells slots A) (F0 m pc ls []) := by
  subst he
  subst hAe
  exact W.vret S.1 S.2.1 hr (fun t ht hWm => ⟨⟨σ, rfl, h0, by rw [ht]; exact hP, hD⟩, hS.F ht⟩) hS.2.2 hdg hlk
end NI
/-! A CALL, AND WHAT STAYS: the rows of a call that also say that all else is unchanged -/
section RD
variable {p : Program} {l : Launch} {e : Env} {R : Room} {s : State} {m : MethodId} {args a : Array Value} {below : List Frame} {meth : Method} {c : Code} {H H0 : Heap} {locs : List Loc} {cells slots : Nat} {Q : State → Prop}
variable {pc : Nat} {ls : Array Slot} {rest st : List Value} {D : va_G} {T : Nat → ClassId} {L : Lay} {σ : Nat → Nat} {M : Mem} {A : Nat → Prop}
theorem r_goI2 {post : Int32 → Mem → Prop} (hr : va_Run p l e R s m args below meth c H locs cells slots 0 0 (F0 m pc ls st) rest (postI D T L σ post a) (fA L σ)) (hW : Wd D T L σ M A s H0 H locs)
    (kk : ∀ (r : Int32) (M1 : Mem) (H1 : Heap) (locs1 : List Loc), post r M1 → Wd D T L σ M1 A s H0 H1 locs1 → (∀ q : Nat, q < H.size → ¬ fA L σ q → H1[q]? = H[q]?) → W p l e R s m args below meth c H1 locs1 cells slots Q (F0 m (pc + 3) ls (.int r :: rest))) : W p l e R s m args below meth c H locs cells slots Q (F0 m pc ls st) := by
  obtain ⟨hK, hP, hD, hS, hN⟩ := hW
  refine va_calli hr hS (fun q _ h => fA_in hD q h) (fun q h => fA_in hD q h) (fun r M1 t H1 locs1 ht hvm hp hB hz hk hS1 => ?_)
  obtain ⟨hP1, hK1⟩ := hB
  rw [ht] at hP1
  exact kk r M1 H1 locs1 hp ⟨hK, hP1, wd_D hD, hS1, hN⟩ hk
theorem r_goL2 {post : Int64 → Mem → Prop} (hr : va_Run p l e R s m args below meth c H locs cells slots 0 0 (F0 m pc ls st) rest (postL D T L σ post a) (fA L σ)) (hW : Wd D T L σ M A s H0 H locs)
    (kk : ∀ (r : Int64) (M1 : Mem) (H1 : Heap) (locs1 : List Loc), post r M1 → Wd D T L σ M1 A s H0 H1 locs1 → (∀ q : Nat, q < H.size → ¬ fA L σ q → H1[q]? = H[q]?) → W p l e R s m args below meth c H1 locs1 cells slots Q (F0 m (pc + 3) ls (.long r :: rest))) : W p l e R s m args below meth c H locs cells slots Q (F0 m pc ls st) := by
  obtain ⟨hK, hP, hD, hS, hN⟩ := hW
  refine va_calll hr hS (fun q _ h => fA_in hD q h) (fun q h => fA_in hD q h) (fun r M1 t H1 locs1 ht hvm hp hB hz hk hS1 => ?_)
  obtain ⟨hP1, hK1⟩ := hB
  rw [ht] at hP1
  exact kk r M1 H1 locs1 hp ⟨hK, hP1, wd_D hD, hS1, hN⟩ hk
theorem r_goV2 {post : Mem → Prop} (hr : va_Run p l e R s m args below meth c H locs cells slots 0 0 (F0 m pc ls st) rest (postV D T L σ post a) (fA L σ)) (hW : Wd D T L σ M A s H0 H locs)
    (kk : ∀ (M1 : Mem) (H1 : Heap) (locs1 : List Loc), post M1 → Wd D T L σ M1 A s H0 H1 locs1 → (∀ q : Nat, q < H.size → ¬ fA L σ q → H1[q]? = H[q]?) → W p l e R s m args below meth c H1 locs1 cells slots Q (F0 m (pc + 3) ls rest)) : W p l e R s m args below meth c H locs cells slots Q (F0 m pc ls st) := by
  obtain ⟨hK, hP, hD, hS, hN⟩ := hW
  refine va_callv hr hS (fun q _ h => fA_in hD q h) (fun q h => fA_in hD q h) (fun M1 t H1 locs1 ht hvm hp hB hz hk hS1 => ?_)
  obtain ⟨hP1, hK1⟩ := hB
  rw [ht] at hP1
  exact kk M1 H1 locs1 hp ⟨hK, hP1, wd_D hD, hS1, hN⟩ hk
/-- the other world stays -/
theorem keepW {L2 : Lay} {τ : Nat → Nat} {M1 N : Mem} {H1 : Heap} {locs1 : List Loc} (hV : Wd D T L2 τ N A s H0 H locs) (hW : Wd D T L σ M1 A s H0 H1 locs1) (hk : ∀ q : Nat, q < H.size → ¬ fA L σ q → H1[q]? = H[q]?) (hd : ∀ i, i < L.length → ∀ j, j < L2.length → σ i ≠ τ j) : Wd D T L2 τ N A s H0 H1 locs1 :=
  ⟨hV.1, hV.2.1.kept (fun k q hq => hk q.1 ((hV.2.1 k q hq).lt) (fun h => by
    obtain ⟨i, hi, e⟩ := h
    obtain ⟨hj, e2⟩ := wd_in hq
    exact hd i hi k hj (e.symm.trans e2))), hV.2.2.1, hW.2.2.2.1, hV.2.2.2.2⟩
end RD

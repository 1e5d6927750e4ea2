/-! MAKING: the rows of the constructors, over worlds that are lists; new arrays are of the classes that T names -/
def AO (U : State) : Prop := (Cond.arrayOver (.array .int)).before #[] U = true ∧ (Cond.arrayOver (.array .long)).before #[] U = true
theorem AO.moved {u U : State} (h : u.vm.Alike U.vm) (hZ : AO u) : AO U := ⟨arrayOver_alikeB h hZ.1, arrayOver_alikeB h hZ.2⟩
theorem AO.use_i {U : State} {a : Array Value} (hZ : AO U) : (Cond.arrayOver (.array .int)).before a U = true := arrayOver_alikeB (Vm.Alike.refl U.vm) hZ.1
theorem AO.use_l {U : State} {a : Array Value} (hZ : AO U) : (Cond.arrayOver (.array .long)).before a U = true := arrayOver_alikeB (Vm.Alike.refl U.vm) hZ.2
theorem n_outer (c : ClassId) (N h0 : Nat) : ∀ i : Nat, i ≤ N → Jvm.Free.Multi.outerC c N h0 i = arrV c N (fun j => va_rf (if j < i then some (h0 + 1 + j) else none))
  | 0, _ => by
    show ({ cls := c, slots := Array.replicate N .null, vm := .none } : Cell) = _
    rw [arrV_new]
    refine congrArg (arrV c N) (funext fun j => ?_)
    rw [if_neg (Nat.not_lt_zero j)]
    rfl
  | i + 1, h => by
    show (Jvm.Free.Multi.outerC c N h0 i).setSlot i (.ref (h0 + 1 + i)) = _
    rw [n_outer c N h0 i (by omega), arrV_store]
    refine congrArg (arrV c N) (funext fun j => ?_)
    unfold updV
    by_cases e : j = i
    · rw [if_pos e, if_pos (by omega), e]
      rfl
    · rw [if_neg e]
      by_cases h2 : j < i
      · rw [if_pos h2, if_pos (by omega)]
      · rw [if_neg h2, if_neg (by omega)]
theorem n_news {A : Nat → Prop} {ws ws' : va_W} {n0 : Nat} (hD : va_D A ws) (hlt : ∀ (k : Nat) (x : Nat × va_E), ws[k]? = some x → x.1 < n0) (hnew : ∀ (k : Nat) (x : Nat × va_E), ws'[k]? = some x → x.1 = n0 + k) (hA : ∀ q, n0 ≤ q → A q) : va_D A (ws ++ ws') := by
  refine hD.app ⟨fun i j x y hi hj hxy => ?_, fun k x hk => hA _ (by rw [hnew k x hk]; omega)⟩ (fun i j x y hi hj hxy => ?_)
  · have := hnew i x hi
    have := hnew j y hj
    omega
  · have := hlt i x hi
    have := hnew j y hj
    omega
/-- the rows of a new grid, behind its outer array -/
def gridW (ro ri : ClassId) (N q : Nat) (z : vp_A) : va_W := (q, .inl (ro, N, .inr (.inr (.inr (.inr (fun i => if i < N then some (q + 1 + i) else none)))))) :: (List.range N).map (fun i => (q + 1 + i, .inl (ri, z)))
theorem gridW_at {ro ri : ClassId} {N q : Nat} {z : vp_A} {k : Nat} {x : Nat × va_E} (h : (gridW ro ri N q z)[k]? = some x) : x.1 = q + k ∧ ((k = 0 ∧ x.2 = .inl (ro, N, .inr (.inr (.inr (.inr (fun i => if i < N then some (q + 1 + i) else none)))))) ∨ ∃ i, k = i + 1 ∧ i < N ∧ x.2 = .inl (ri, z)) := by
  unfold gridW at h
  cases k with
  | zero => rw [List.getElem?_cons_zero] at h; cases h; exact ⟨rfl, Or.inl ⟨rfl, rfl⟩⟩
  | succ k =>
    rw [List.getElem?_cons_succ, List.getElem?_map] at h
    by_cases hk : k < N
    · rw [List.getElem?_range hk] at h
      cases h
      exact ⟨by show q + 1 + k = q + (k + 1); omega, Or.inr ⟨k, rfl, hk, rfl⟩⟩
    · rw [List.getElem?_eq_none (by rw [List.length_range]; omega)] at h
      cases h
section NN
variable {p : Program} {l : Launch} {e : Env} {R : Room} {s : State} {m : MethodId} {args : Array Value} {below : List Frame} {meth : Method} {c : Code} {H H0 : Heap} {locs : List Loc} {cells slots : Nat} {Q : State → Prop}
variable {cc : ByteArray} {pc nL : Nat} {ls : Array Slot} {rest : List Value} {own : String} {Ts : List Cond} {D : va_G} {T : Nat → ClassId} {A : Nat → Prop} {ws : va_W}
theorem n_newa (S : CallFix p m c cc nL s args Ts own) (hK : va_K D vwCl (tyT T) s) (hP : va_P D vwCl ws H) (hD : va_D A ws) (hS : va_S A H0 H locs) (hA : ∀ q, H0.size ≤ q → A q) {atype : ArrayType} {ty : FieldType} (j : Nat) (harr : (Cond.arrayClass (newarray.typeOf atype)).before args s = true) (hty : newarray.typeOf atype = ty) (hu : ∀ cA, va_RA s cA ty → cA = T j)
    {n : Int32} {N' : Nat} {a0 : vp_A} (ha : ∀ cA : ClassId, vp_cell cA a0 = arrV cA N' (fun _ => defaultValue ty)) (hn : ¬ n < 0) (hN : n.toNatClampNeg = N') (hbytes : N' * componentBytes ty ≤ 536870912) (hcells : cells + 1 ≤ R.cells) (hslots : slots + N' ≤ R.slots) (hdg : decode cc pc = .ok (.newarray atype, 2))
    (kk : ∀ (q : Nat) (H1 : Heap), va_P D vwCl (ws ++ [(q, .inl (T j, a0))]) H1 → va_D A (ws ++ [(q, .inl (T j, a0))]) → va_S A H0 H1 locs →
      W p l e R s m args below meth c H1 locs (cells + 1) (slots + N') Q (F0 m (pc + 2) ls (.ref q :: rest))) : W p l e R s m args below meth c H locs cells slots Q (F0 m pc ls (.int n :: rest)) := by
  refine va_newa S.1 S.2.1 harr hty hK hP hD hS hA ha hn hN hbytes hcells hslots hdg (fun q cA H1 hK1 hP1 hD1 hS1 => ?_)
  have e1 := hu cA (hK1.2 5 (cA, ty) rfl).2
  subst e1
  exact kk q H1 hP1 hD1 hS1
theorem n_mna (S : CallFix p m c cc nL s args Ts own) (hP : va_P D vwCl ws H) (hD : va_D A ws) (hS : va_S A H0 H locs) (hA : ∀ q, H0.size ≤ q → A q) {index : Nat} {ty : FieldType} {ro ri : ClassId} (hclink : (Cond.classLink own index ("[" ++ (FieldType.array ty).toString)).before args s = true) (hover : (Cond.arrayOver (.array ty)).before args s = true) (harr : (Cond.arrayClass ty).before args s = true)
    (hro : s.vm.findClass ("[" ++ (FieldType.array ty).toString) = some ro) (hri : s.vm.findClass (FieldType.array ty).toString = some ri) {n k : Int32} {N' K' : Nat} {z : vp_A} (hn : ¬ n < 0) (hk : ¬ k < 0) (hN : n.toNatClampNeg = N') (hM : k.toNatClampNeg = K')
    (hb1 : N' * 4 ≤ 536870912) (hb2 : K' * componentBytes ty ≤ 536870912) (hb3 : K' ≤ 536870912) (hdf : fits ty (defaultValue ty) = true) (hdd : (defaultValue ty).isDefault = true) (hcells : cells + (1 + N') ≤ R.cells) (hslots : slots + (N' + N' * K') ≤ R.slots) (hz : ∀ c : ClassId, Jvm.Free.Multi.innerC c K' (defaultValue ty) = vp_cell c z) (hdg : decode cc pc = .ok (.multianewarray index 2, 4))
    (kk : ∀ (q : Nat) (H1 : Heap), va_P D vwCl (ws ++ gridW ro ri N' q z) H1 → va_D A (ws ++ gridW ro ri N' q z) → va_S A H0 H1 locs →
      W p l e R s m args below meth c H1 locs (cells + 1 + N') (slots + N' + N' * K') Q (F0 m (pc + 4) ls (.ref q :: rest))) : W p l e R s m args below meth c H locs cells slots Q (F0 m pc ls (.int k :: .int n :: rest)) := by
  subst hN
  subst hM
  intro T0 hT Xs
  obtain ⟨vm₁, cA, comp, -, fA, fC, -, -, X', step⟩ := Xs.multianewarray2F S.1 S.2.2.2.1 hclink hover harr (g := F0 m pc ls (.int k :: .int n :: rest)) rfl (by rw [S.2.1]; exact hdg) rfl hn hk hb1 hb2 hb3 hdf hdd hcells hslots
  cases Option.some.inj (hro.symm.trans fA)
  cases Option.some.inj (hri.symm.trans fC)
  generalize hF : Jvm.Free.Multi.fill (T0.setVm vm₁) ro ri n.toNatClampNeg k.toNatClampNeg (defaultValue ty) n.toNatClampNeg = F at X' step
  have hTh : (T0.setVm vm₁).heap = H := hT
  obtain ⟨f1, f2, -, -⟩ := Jvm.Free.Multi.fill_facts (T0.setVm vm₁) ro ri n.toNatClampNeg k.toNatClampNeg (defaultValue ty) n.toNatClampNeg
  rw [hF, hTh] at f1 f2
  have hold : ∀ x : Nat, x < H.size → F.heap[x]? = H[x]? := fun x hx => by
    have h9 := Jvm.Free.Multi.fill_old (T0.setVm vm₁) ro ri n.toNatClampNeg k.toNatClampNeg (defaultValue ty) (a := x) (by rw [hTh]; exact hx) n.toNatClampNeg
    rw [hF, hTh] at h9
    exact h9
  have hrow : ∀ j : Nat, j < n.toNatClampNeg → F.heap[H.size + 1 + j]? = some (vp_cell ri z) := fun j hj => by
    have h9 := Jvm.Free.Multi.fill_inner (T0.setVm vm₁) ro ri n.toNatClampNeg k.toNatClampNeg (defaultValue ty) n.toNatClampNeg j hj
    rw [hF, hTh, hz] at h9
    exact h9
  rw [n_outer ro n.toNatClampNeg H.size n.toNatClampNeg (Nat.le_refl _)] at f2
  have hlt : ∀ (k9 : Nat) (x : Nat × va_E), ws[k9]? = some x → x.1 < H.size := fun k9 x hx => (hP k9 x hx).lt
  have hP1 : va_P D vwCl (ws ++ gridW ro ri n.toNatClampNeg H.size z) F.heap := va_P.app (hP.kept (fun k9 x hx => hold x.1 (hlt k9 x hx))) (fun k9 x hx => by
    obtain ⟨ha, h2 | ⟨i, h3, h4, h5⟩⟩ := gridW_at hx
    · obtain ⟨a9, e9⟩ := x
      obtain ⟨h6, h7⟩ := h2
      have ha2 : a9 = H.size := by rw [h6] at ha; exact ha
      have h7' : e9 = _ := h7
      subst ha2
      subst h7'
      exact f2
    · obtain ⟨a9, e9⟩ := x
      have ha2 : a9 = H.size + 1 + i := by
        have ha' : a9 = H.size + k9 := ha
        omega
      have h7' : e9 = _ := h5
      subst ha2
      subst h7'
      exact hrow i h4)
  have hD1 : va_D A (ws ++ gridW ro ri n.toNatClampNeg H.size z) := n_news hD hlt (fun k9 x hx => (gridW_at hx).1) (fun q hq => hA q (Nat.le_trans hS.1 hq))
  obtain ⟨t, a1, b1⟩ := kk H.size F.heap hP1 hD1 ⟨by rw [f1]; have := hS.1; omega, fun x h1 h2 => (hold x (Nat.lt_of_lt_of_le h1 hS.1)).trans (hS.2.1 x h1 h2), hS.2.2⟩ F rfl X'
  refine ⟨t, step t ?_, b1⟩
  have e9 : T0.heap.size = H.size := by rw [hT]
  rw [e9]
  exact a1
end NN
/-- behind a call on the last cells of a list: what came back stands in their place -/
theorem n_join {D : va_G} {cl : List vw_C} {A0 : Nat → Prop} {w0 wc w1 : va_W} {H H1 : Heap} (hP : va_P D cl (w0 ++ wc) H) (hD : va_D A0 (w0 ++ wc)) (hk : ∀ q : Nat, q < H.size → ¬ va_A wc H.size q → H1[q]? = H[q]?) (hF : ∀ q, va_A wc H.size q → A0 q) (hP1 : va_P D cl w1 H1) (hD1 : va_D (va_A wc H.size) w1) : va_P D cl (w0 ++ w1) H1 ∧ va_D A0 (w0 ++ w1) := by
  have a1 : ∀ (k : Nat) (q : Nat × va_E), w0[k]? = some q → (w0 ++ wc)[k]? = some q := fun k q h => by rw [List.getElem?_append_left (List.getElem?_eq_some_iff.mp h).1]; exact h
  have a2 : ∀ (k : Nat) (q : Nat × va_E), wc[k]? = some q → (w0 ++ wc)[w0.length + k]? = some q := fun k q h => by rw [List.getElem?_append_right (by omega), Nat.add_sub_cancel_left]; exact h
  have apart : ∀ (k : Nat) (q : Nat × va_E), w0[k]? = some q → q.1 < H.size ∧ ¬ va_A wc H.size q.1 := by
    intro k q hq
    have hl := (hP k q (a1 k q hq)).lt
    refine ⟨hl, fun h => ?_⟩
    rcases h with ⟨k2, e, h⟩ | h
    · have hij := hD.1 k (w0.length + k2) q (q.1, e) (a1 k q hq) (a2 k2 _ h) rfl
      have := (List.getElem?_eq_some_iff.mp hq).1
      omega
    · omega
  refine ⟨va_P.app (fun k q hq => (hP k q (a1 k q hq)).kept (hk q.1 (apart k q hq).1 (apart k q hq).2)) hP1, va_D.app ⟨fun i j x y hi hj hxy => hD.1 i j x y (a1 i x hi) (a1 j y hj) hxy, fun k q hq => hD.2 k q (a1 k q hq)⟩ (hD1.weaken (fun k q _ h => hF q.1 h)) (fun i j x y hx hy hxy => ?_)⟩
  exact (apart i x hx).2 (by rw [hxy]; exact hD1.2 j y hy)
theorem n_sub {D : va_G} {cl : List vw_C} {w0 wc : va_W} {H : Heap} (hP : va_P D cl (w0 ++ wc) H) : va_P D cl wc H := fun k q h => hP (w0.length + k) q (by rw [List.getElem?_append_right (by omega), Nat.add_sub_cancel_left]; exact h)
theorem n_subD {A : Nat → Prop} {w0 wc : va_W} (hD : va_D A (w0 ++ wc)) : va_D A wc := by
  have a2 : ∀ (k : Nat) (q : Nat × va_E), wc[k]? = some q → (w0 ++ wc)[w0.length + k]? = some q := fun k q h => by rw [List.getElem?_append_right (by omega), Nat.add_sub_cancel_left]; exact h
  exact ⟨fun i j x y hi hj hxy => by have := hD.1 _ _ x y (a2 i x hi) (a2 j y hj) hxy; omega, fun k q h => hD.2 _ q (a2 k q h)⟩
theorem n_free {A0 : Nat → Prop} {w0 wc : va_W} {H0 H : Heap} {locs : List Loc} (hD : va_D A0 (w0 ++ wc)) (hS : va_S A0 H0 H locs) (hA : ∀ q, H0.size ≤ q → A0 q) : ∀ q, va_A wc H.size q → A0 q := by
  intro q h
  rcases h with ⟨k, e, h⟩ | h
  · exact (n_subD hD).2 k (q, e) h
  · exact hA q (Nat.le_trans hS.1 h)

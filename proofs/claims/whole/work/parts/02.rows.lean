/-! MEMORY: cell k at place j holds an int (or a boolean) M.1 k j, or a long M.2 k j; an object's int field is a place of its cell -/
abbrev Mem : Type := (Nat → Nat → Int32) × (Nat → Nat → Int64)
abbrev LayC : Type := Nat × Nat × Nat × List (Option Nat)
abbrev Lay : Type := List LayC
def sA (M : Mem) (k j : Nat) (v : Int32) : Mem := (fun k' => if k' = k then upd (M.1 k) j v else M.1 k', M.2)
def sB (M : Mem) (k j : Nat) (v : Int64) : Mem := (M.1, fun k' => if k' = k then vp_updL (M.2 k) j v else M.2 k')
def sAr (M : Mem) (k : Nat) (f : Nat → Int32) : Mem := (fun k' => if k' = k then f else M.1 k', M.2)
def sBr (M : Mem) (k : Nat) (f : Nat → Int64) : Mem := (M.1, fun k' => if k' = k then f else M.2 k')
def jmax (x y : Int32) : Int32 := if x < y then y else x
def jmin (x y : Int32) : Int32 := if y < x then y else x
def jushrL (x : Int64) (y : Int32) : Int64 := (x.toUInt64 >>> (y.toInt64.toUInt64 &&& Int64.toUInt64 63)).toInt64
def jshlL (x : Int64) (y : Int32) : Int64 := x <<< (y.toInt64 &&& 63)
def zb (v : Int32) : Prop := narrow .boolean (.int v) = .int v
/-! THE WORLD of a layout: kinds 0 object (class, -, slots), 1 int[], 2 boolean[], 3 long[] (length), 4 int[][], 5 long[][] (length, first row's cell) -/
def slotV (σ : Nat → Nat) (f : Nat → Int32) (sl : List (Option Nat)) (j : Nat) : Value := match sl[j]? with
  | some (some r) => .ref (σ r)
  | _ => .int (f j)
def flds (σ : Nat → Nat) (f : Nat → Int32) (sl : List (Option Nat)) : List Value := (List.range sl.length).map (slotV σ f sl)
def cellOf (T : Nat → ClassId) (σ : Nat → Nat) (M : Mem) (k : Nat) (c : LayC) : va_E :=
  if c.1 = 0 then .inr (c.2.1, flds σ (M.1 k) c.2.2.2)
  else if c.1 = 1 then .inl (T 1, c.2.1, .inl (M.1 k))
  else if c.1 = 2 then .inl (T 2, c.2.1, .inl (M.1 k))
  else if c.1 = 3 then .inl (T 3, c.2.1, .inr (.inl (M.2 k)))
  else .inl (T c.1, c.2.1, .inr (.inr (.inr (.inr (fun i => if i < c.2.1 then some (σ (c.2.2.1 + i)) else none)))))
def tyT (T : Nat → ClassId) : List (ClassId × FieldType) := [(T 1, .int), (T 2, .boolean), (T 3, .long), (T 4, .array .int), (T 5, .array .long)]
def wd (T : Nat → ClassId) (L : Lay) (σ : Nat → Nat) (M : Mem) : va_W := (List.range L.length).map (fun k => (σ k, cellOf T σ M k (L.getD k (0, 0, 0, []))))
theorem wd_len {T : Nat → ClassId} {σ : Nat → Nat} {L : Lay} {M : Mem} : (wd T L σ M).length = L.length := by simp [wd]
theorem wd_get {T : Nat → ClassId} {σ : Nat → Nat} {L : Lay} {M : Mem} {k : Nat} {c : LayC} (h : L[k]? = some c) : (wd T L σ M)[k]? = some (σ k, cellOf T σ M k c) := by
  have hk : k < L.length := (List.getElem?_eq_some_iff.mp h).1
  unfold wd
  rw [List.getElem?_map, List.getElem?_range hk]
  simp [List.getD_eq_getElem?_getD, h]
theorem wd_in {T : Nat → ClassId} {σ : Nat → Nat} {L : Lay} {M : Mem} {k : Nat} {q : Nat × va_E} (h : (wd T L σ M)[k]? = some q) : k < L.length ∧ q.1 = σ k := by
  have hk : k < L.length := by
    have := (List.getElem?_eq_some_iff.mp h).1
    rwa [wd_len] at this
  unfold wd at h
  rw [List.getElem?_map, List.getElem?_range hk] at h
  cases h
  exact ⟨hk, rfl⟩
theorem cellOf_congr {T : Nat → ClassId} {σ : Nat → Nat} {M M' : Mem} {k : Nat} {c : LayC} (h1 : M'.1 k = M.1 k) (h2 : M'.2 k = M.2 k) : cellOf T σ M' k c = cellOf T σ M k c := by
  unfold cellOf
  rw [h1, h2]
theorem wd_set {T : Nat → ClassId} {σ : Nat → Nat} {L : Lay} {M M' : Mem} {k : Nat} {c : LayC} {e : va_E} (h : L[k]? = some c) (h1 : ∀ k', k' ≠ k → M'.1 k' = M.1 k') (h2 : ∀ k', k' ≠ k → M'.2 k' = M.2 k') (he : cellOf T σ M' k c = e) : (wd T L σ M).set k (σ k, e) = wd T L σ M' := by
  have hk : k < L.length := (List.getElem?_eq_some_iff.mp h).1
  apply List.ext_getElem?
  intro j
  by_cases hj : j = k
  · subst hj
    rw [List.getElem?_set_self (by rw [wd_len]; exact hk), wd_get h, he]
  · rw [List.getElem?_set_ne (Ne.symm hj)]
    unfold wd
    rw [List.getElem?_map, List.getElem?_map]
    by_cases hl : j < L.length
    · rw [List.getElem?_range hl]
      simp only [Option.map_some]
      rw [cellOf_congr (h1 j hj) (h2 j hj)]
    · rw [List.getElem?_eq_none (by rw [List.length_range]; omega)]
      rfl
theorem wd_D {A : Nat → Prop} {T : Nat → ClassId} {σ : Nat → Nat} {L : Lay} {M M' : Mem} (h : va_D A (wd T L σ M)) : va_D A (wd T L σ M') := by
  have key : ∀ (k : Nat) (q : Nat × va_E), (wd T L σ M')[k]? = some q → ∃ q0, (wd T L σ M)[k]? = some q0 ∧ q0.1 = q.1 := by
    intro k q hq
    obtain ⟨hk, hq1⟩ := wd_in hq
    have hc : L[k]? = some L[k] := List.getElem?_eq_getElem hk
    exact ⟨_, wd_get hc, hq1.symm⟩
  refine ⟨fun i j x y hi hj hxy => ?_, fun k q hk => ?_⟩
  · obtain ⟨x0, h1, h2⟩ := key i x hi
    obtain ⟨y0, h3, h4⟩ := key j y hj
    exact h.1 i j x0 y0 h1 h3 (h2.trans (hxy.trans h4.symm))
  · obtain ⟨q0, h1, h2⟩ := key k q hk
    rw [← h2]
    exact h.2 k q0 h1
theorem flds_get {σ : Nat → Nat} {f : Nat → Int32} {sl : List (Option Nat)} {j : Nat} (h : j < sl.length) : (flds σ f sl)[j]? = some (slotV σ f sl j) := by
  unfold flds
  rw [List.getElem?_map, List.getElem?_range h]
  rfl
theorem flds_len {σ : Nat → Nat} {f : Nat → Int32} {sl : List (Option Nat)} : (flds σ f sl).length = sl.length := by simp [flds]
theorem slotV_i {σ : Nat → Nat} {f : Nat → Int32} {sl : List (Option Nat)} {j : Nat} (h : sl[j]? = some none) : slotV σ f sl j = .int (f j) := by
  unfold slotV
  rw [h]
theorem slotV_r {σ : Nat → Nat} {f : Nat → Int32} {sl : List (Option Nat)} {j r : Nat} (h : sl[j]? = some (some r)) : slotV σ f sl j = .ref (σ r) := by
  unfold slotV
  rw [h]
theorem flds_set {σ : Nat → Nat} {f : Nat → Int32} {sl : List (Option Nat)} {j : Nat} {v : Int32} (h : sl[j]? = some none) : flds σ (upd f j v) sl = (flds σ f sl).set j (.int v) := by
  have hj : j < sl.length := (List.getElem?_eq_some_iff.mp h).1
  apply List.ext_getElem?
  intro i
  by_cases hi : i = j
  · subst hi
    rw [List.getElem?_set_self (by rw [flds_len]; exact hj), flds_get hj, slotV_i h]
    simp [upd]
  · rw [List.getElem?_set_ne (Ne.symm hi)]
    unfold flds
    rw [List.getElem?_map, List.getElem?_map]
    by_cases hl : i < sl.length
    · rw [List.getElem?_range hl]
      simp only [Option.map_some]
      have e : slotV σ (upd f j v) sl i = slotV σ f sl i := by simp only [slotV, upd, if_neg hi]
      rw [e]
    · rw [List.getElem?_eq_none (by rw [List.length_range]; omega)]
      rfl
theorem sA_1 {M : Mem} {k j : Nat} {v : Int32} (k' : Nat) (h : k' ≠ k) : (sA M k j v).1 k' = M.1 k' := if_neg h
theorem sA_s {M : Mem} {k j : Nat} {v : Int32} : (sA M k j v).1 k = upd (M.1 k) j v := if_pos rfl
theorem sB_s {M : Mem} {k j : Nat} {v : Int64} : (sB M k j v).2 k = vp_updL (M.2 k) j v := if_pos rfl
theorem sB_1 {M : Mem} {k j : Nat} {v : Int64} (k' : Nat) (h : k' ≠ k) : (sB M k j v).2 k' = M.2 k' := if_neg h

theorem cell_o {T : Nat → ClassId} {σ : Nat → Nat} {M : Mem} {k ci b : Nat} {sl : List (Option Nat)} : cellOf T σ M k (0, ci, b, sl) = .inr (ci, flds σ (M.1 k) sl) := by simp [cellOf]
theorem cell_i {T : Nat → ClassId} {σ : Nat → Nat} {M : Mem} {k n b : Nat} {sl : List (Option Nat)} : cellOf T σ M k (1, n, b, sl) = .inl (T 1, n, .inl (M.1 k)) := by simp [cellOf]
theorem cell_z {T : Nat → ClassId} {σ : Nat → Nat} {M : Mem} {k n b : Nat} {sl : List (Option Nat)} : cellOf T σ M k (2, n, b, sl) = .inl (T 2, n, .inl (M.1 k)) := by simp [cellOf]
theorem cell_l {T : Nat → ClassId} {σ : Nat → Nat} {M : Mem} {k n b : Nat} {sl : List (Option Nat)} : cellOf T σ M k (3, n, b, sl) = .inl (T 3, n, .inr (.inl (M.2 k))) := by simp [cellOf]
theorem cell_q {T : Nat → ClassId} {σ : Nat → Nat} {M : Mem} {k t n b : Nat} {sl : List (Option Nat)} : cellOf T σ M k (t + 4, n, b, sl) = .inl (T (t + 4), n, .inr (.inr (.inr (.inr (fun i => if i < n then some (σ (b + i)) else none))))) := by
  unfold cellOf
  rw [if_neg (show ¬ t + 4 = 0 by omega), if_neg (show ¬ t + 4 = 1 by omega), if_neg (show ¬ t + 4 = 2 by omega), if_neg (show ¬ t + 4 = 3 by omega)]
theorem vp_lt {x : Int32} {n : Nat} (h : vp_in x n) : x.toNatClampNeg < n := Nat.not_le.mp fun q => h (Or.inr q)
/-- the four links of nest mates -/
def NW (U : State) : Prop := va_Nw (.methodLinkNest RX4 29 yX6_within RX6) U ∧ va_Nw (.methodLinkNest RX1 44 yX6_within RX6) U ∧ va_Nw (.methodLinkNest RX3 45 yX6_within RX6) U ∧ va_Nw (.methodLinkNest RX2 43 yX6_within RX6) U
theorem NW.same {u U : State} (h : u.vm = U.vm) (hN : NW u) : NW U := ⟨va_Nw.same rfl h hN.1, va_Nw.same rfl h hN.2.1, va_Nw.same rfl h hN.2.2.1, va_Nw.same rfl h hN.2.2.2⟩
theorem NW.warm {s U : State} (h : s.WarmedH U.vm) (hN : NW s) : NW U := ⟨va_Nw.warmM h hN.1, va_Nw.warmM h hN.2.1, va_Nw.warmM h hN.2.2.1, va_Nw.warmM h hN.2.2.2⟩
/-- the world stands in the heap H, and since H0 nothing outside A has changed -/
def Wd (D : va_G) (T : Nat → ClassId) (L : Lay) (σ : Nat → Nat) (M : Mem) (A : Nat → Prop) (s : State) (H0 H : Heap) (locs : List Loc) : Prop :=
  va_K D vwCl (tyT T) s ∧ va_P D vwCl (wd T L σ M) H ∧ va_D A (wd T L σ M) ∧ va_S A H0 H locs ∧ NW s
def fA (L : Lay) (σ : Nat → Nat) : Nat → Prop := fun q => ∃ k, k < L.length ∧ q = σ k
def preW (D : va_G) (T : Nat → ClassId) (L : Lay) (σ : Nat → Nat) (av : List Value) (M : Mem) : Array Value → State → Prop :=
  va_Pc av (fun U => va_P D vwCl (wd T L σ M) U.heap ∧ va_K D vwCl (tyT T) U ∧ va_D (fun _ => True) (wd T L σ M) ∧ NW U)
def endW (D : va_G) (T : Nat → ClassId) (L : Lay) (σ : Nat → Nat) : Mem → State → Prop := fun M t => va_P D vwCl (wd T L σ M) t.heap ∧ va_K D vwCl (tyT T) t
abbrev postI (D : va_G) (T : Nat → ClassId) (L : Lay) (σ : Nat → Nat) (post : Int32 → Mem → Prop) := va_Qi post (endW D T L σ) (fA L σ)
abbrev postL (D : va_G) (T : Nat → ClassId) (L : Lay) (σ : Nat → Nat) (post : Int64 → Mem → Prop) := va_Ql post (endW D T L σ) (fA L σ)
abbrev postV (D : va_G) (T : Nat → ClassId) (L : Lay) (σ : Nat → Nat) (post : Mem → Prop) := va_Qv post (endW D T L σ) (fA L σ)
theorem preW_blind {D : va_G} {T : Nat → ClassId} {L : Lay} {σ : Nat → Nat} {av : List Value} {M : Mem} : FrameBlind (preW D T L σ av M) := fun a U g mk q => by
  obtain ⟨q0, qP, qK, qD, qN⟩ := q
  exact ⟨q0, qP, va_K.moved (u := U) (U := U.calling g mk a) (Vm.Alike.refl U.vm) qK, qD, NW.same (U := U.calling g mk a) rfl qN⟩
theorem fA_in {A : Nat → Prop} {T : Nat → ClassId} {L : Lay} {σ : Nat → Nat} {M : Mem} (h : va_D A (wd T L σ M)) (q : Nat) (hq : fA L σ q) : A q := by
  obtain ⟨k, hk, rfl⟩ := hq
  exact h.2 k _ (wd_get (List.getElem?_eq_getElem hk))
theorem fA_self {A : Nat → Prop} {T : Nat → ClassId} {L : Lay} {σ : Nat → Nat} {M : Mem} (h : va_D A (wd T L σ M)) : va_D (fA L σ) (wd T L σ M) := ⟨h.1, fun k q hq => ⟨k, (wd_in hq).1, (wd_in hq).2⟩⟩
section RR
variable {p : Program} {l : Launch} {e : Env} {R : Room} {s : State} {m : MethodId} {args : Array Value} {below : List Frame} {meth : Method} {c : Code} {H H0 : Heap} {locs : List Loc} {cells slots : Nat} {Q : State → Prop}
variable {cc : ByteArray} {pc nL : Nat} {ls : Array Slot} {rest st : List Value} {own : String} {Ts : List Cond} {D : va_G} {T : Nat → ClassId} {L : Lay} {σ : Nat → Nat} {M : Mem} {A : Nat → Prop}
theorem r_getI (S : CallFix p m c cc nL s args Ts own) (hW : Wd D T L σ M A s H0 H locs) {C : String} {TX : u_T} {N ci k j b index : Nat} {sl : List (Option Nat)} (hin : ∀ w ∈ u_ws C TX N, w ∈ Ts) (hc : vwCl[ci]? = some (C, TX, N)) (hlink : (Cond.fieldLink own index C (TX j).2.1 (TX j).2.2.1).before args s = true) (hr : (TX j).1 = C) (hk : L[k]? = some (0, ci, b, sl)) (hj : j < N) (hs : sl[j]? = some none) (hdg : decode cc pc = .ok (.getfield index, 3))
    (kk : W p l e R s m args below meth c H locs cells slots Q (F0 m (pc + 3) ls (.int (M.1 k j) :: rest))) : W p l e R s m args below meth c H locs cells slots Q (F0 m pc ls (.ref (σ k) :: rest)) := by
  obtain ⟨hK, hP, hD, hS, hN⟩ := hW
  exact va_get (v := .int (M.1 k j)) S.1 S.2.1 S.2.2.2.2 hin S.2.2.2.1 hK hP k (by rw [← cell_o]; exact wd_get hk) hc j hj hlink (fun x h => by rw [← hr]; exact h) (by rw [flds_get (List.getElem?_eq_some_iff.mp hs).1, slotV_i hs]) hdg kk
theorem r_getR (S : CallFix p m c cc nL s args Ts own) (hW : Wd D T L σ M A s H0 H locs) {C : String} {TX : u_T} {N ci k j b r index : Nat} {sl : List (Option Nat)} (hin : ∀ w ∈ u_ws C TX N, w ∈ Ts) (hc : vwCl[ci]? = some (C, TX, N)) (hlink : (Cond.fieldLink own index C (TX j).2.1 (TX j).2.2.1).before args s = true) (hr : (TX j).1 = C) (hk : L[k]? = some (0, ci, b, sl)) (hj : j < N) (hs : sl[j]? = some (some r)) (hdg : decode cc pc = .ok (.getfield index, 3))
    (kk : W p l e R s m args below meth c H locs cells slots Q (F0 m (pc + 3) ls (.ref (σ r) :: rest))) : W p l e R s m args below meth c H locs cells slots Q (F0 m pc ls (.ref (σ k) :: rest)) := by
  obtain ⟨hK, hP, hD, hS, hN⟩ := hW
  exact va_get (v := .ref (σ r)) S.1 S.2.1 S.2.2.2.2 hin S.2.2.2.1 hK hP k (by rw [← cell_o]; exact wd_get hk) hc j hj hlink (fun x h => by rw [← hr]; exact h) (by rw [flds_get (List.getElem?_eq_some_iff.mp hs).1, slotV_r hs]) hdg kk
theorem r_putI (S : CallFix p m c cc nL s args Ts own) (hW : Wd D T L σ M A s H0 H locs) {C : String} {TX : u_T} {N ci k j b index : Nat} {sl : List (Option Nat)} (hin : ∀ w ∈ u_ws C TX N, w ∈ Ts) (hc : vwCl[ci]? = some (C, TX, N)) (hlink : (Cond.fieldLink own index C (TX j).2.1 (TX j).2.2.1).before args s = true) (hr : (TX j).1 = C) (hk : L[k]? = some (0, ci, b, sl)) (hj : j < N) (hs : sl[j]? = some none)
    (ty0 : Nat → FieldType) (hty : ∀ k, k < N → parseFieldDescriptor (TX k).2.2.1 = some (ty0 k)) (hnm : ∀ a, a < N → ∀ b, b < N → a ≠ b → (TX a).2.1 ≠ (TX b).2.1) (hfin : (TX j).2.2.2 = false) {x : Int32} (hn : narrow (ty0 j) (.int x) = .int x) (hfit : fits (ty0 j) (.int x) = true) (hdg : decode cc pc = .ok (.putfield index, 3))
    (kk : ∀ (M1 : Mem) (H1 : Heap) (locs1 : List Loc), M1 = sA M k j x → Wd D T L σ M1 A s H0 H1 locs1 → W p l e R s m args below meth c H1 locs1 cells slots Q (F0 m (pc + 3) ls rest)) : W p l e R s m args below meth c H locs cells slots Q (F0 m pc ls (.int x :: .ref (σ k) :: rest)) := by
  obtain ⟨hK, hP, hD, hS, hN⟩ := hW
  have hjl : j < sl.length := (List.getElem?_eq_some_iff.mp hs).1
  have hE : (wd T L σ M).set k (σ k, .inr (ci, (flds σ (M.1 k) sl).set j (.int x))) = wd T L σ (sA M k j x) := wd_set hk (fun k' h => sA_1 k' h) (fun _ _ => rfl) (by rw [cell_o, sA_s, flds_set hs])
  refine va_put (v := .int x) S.1 S.2.1 S.2.2.2.2 hin ty0 hty hnm S.2.2.2.1 hK hP hD hS k (by rw [← cell_o]; exact wd_get hk) hc j hj hlink (fun x h => by rw [← hr]; exact h) hfin (hty j hj) hn hfit (by rw [flds_len]; exact hjl) hdg (fun H1 locs1 hP1 hD1 hS1 => ?_)
  rw [hE] at hP1 hD1
  exact kk _ H1 locs1 rfl ⟨hK, hP1, hD1, hS1, hN⟩
theorem r_iald (S : CallFix p m c cc nL s args Ts own) (hW : Wd D T L σ M A s H0 H locs) {k n b : Nat} {sl : List (Option Nat)} {i : Int32} (hk : L[k]? = some (1, n, b, sl)) (hin : vp_in i n) (hdg : decode cc pc = .ok (.iaload, 1))
    (kk : W p l e R s m args below meth c H locs cells slots Q (F0 m (pc + 1) ls (.int (M.1 k i.toNatClampNeg) :: rest))) : W p l e R s m args below meth c H locs cells slots Q (F0 m pc ls (.int i :: .ref (σ k) :: rest)) := by
  obtain ⟨hK, hP, hD, hS, hN⟩ := hW
  exact va_iald S.1 S.2.1 hK hP k 0 (by rw [← cell_i]; exact wd_get hk) rfl hin hdg kk
theorem r_zald (S : CallFix p m c cc nL s args Ts own) (hW : Wd D T L σ M A s H0 H locs) {k n b : Nat} {sl : List (Option Nat)} {i : Int32} (hk : L[k]? = some (2, n, b, sl)) (hin : vp_in i n) (hdg : decode cc pc = .ok (.baload, 1))
    (kk : W p l e R s m args below meth c H locs cells slots Q (F0 m (pc + 1) ls (.int (M.1 k i.toNatClampNeg) :: rest))) : W p l e R s m args below meth c H locs cells slots Q (F0 m pc ls (.int i :: .ref (σ k) :: rest)) := by
  obtain ⟨hK, hP, hD, hS, hN⟩ := hW
  exact va_zald S.1 S.2.1 hK hP k 1 (by rw [← cell_z]; exact wd_get hk) rfl hin hdg kk
theorem r_lald (S : CallFix p m c cc nL s args Ts own) (hW : Wd D T L σ M A s H0 H locs) {k n b : Nat} {sl : List (Option Nat)} {i : Int32} (hk : L[k]? = some (3, n, b, sl)) (hin : vp_in i n) (hdg : decode cc pc = .ok (.laload, 1))
    (kk : W p l e R s m args below meth c H locs cells slots Q (F0 m (pc + 1) ls (.long (M.2 k i.toNatClampNeg) :: rest))) : W p l e R s m args below meth c H locs cells slots Q (F0 m pc ls (.int i :: .ref (σ k) :: rest)) := by
  obtain ⟨hK, hP, hD, hS, hN⟩ := hW
  exact va_lald S.1 S.2.1 hK hP k 2 (by rw [← cell_l]; exact wd_get hk) rfl hin hdg kk
theorem r_iast (S : CallFix p m c cc nL s args Ts own) (hW : Wd D T L σ M A s H0 H locs) {k n b : Nat} {sl : List (Option Nat)} {i x : Int32} (hk : L[k]? = some (1, n, b, sl)) (hin : vp_in i n) (hdg : decode cc pc = .ok (.iastore, 1))
    (kk : ∀ (M1 : Mem) (H1 : Heap) (locs1 : List Loc), M1 = sA M k i.toNatClampNeg x → Wd D T L σ M1 A s H0 H1 locs1 → W p l e R s m args below meth c H1 locs1 cells slots Q (F0 m (pc + 1) ls rest)) : W p l e R s m args below meth c H locs cells slots Q (F0 m pc ls (.int x :: .int i :: .ref (σ k) :: rest)) := by
  obtain ⟨hK, hP, hD, hS, hN⟩ := hW
  refine va_iast S.1 S.2.1 hK hP hD hS k 0 (by rw [← cell_i]; exact wd_get hk) rfl hin hdg (fun H1 locs1 hP1 hD1 hS1 => ?_)
  rw [wd_set (M := M) (M' := sA M k i.toNatClampNeg x) hk (fun k' h => sA_1 k' h) (fun _ _ => rfl) (by rw [cell_i, sA_s])] at hP1 hD1
  exact kk _ H1 locs1 rfl ⟨hK, hP1, hD1, hS1, hN⟩
theorem r_zast (S : CallFix p m c cc nL s args Ts own) (hW : Wd D T L σ M A s H0 H locs) {k n b : Nat} {sl : List (Option Nat)} {i x : Int32} (hk : L[k]? = some (2, n, b, sl)) (hin : vp_in i n) (hdg : decode cc pc = .ok (.bastore, 1))
    (kk : ∀ (M1 : Mem) (H1 : Heap) (locs1 : List Loc), M1 = sA M k i.toNatClampNeg (vp_nar .boolean x) → Wd D T L σ M1 A s H0 H1 locs1 → W p l e R s m args below meth c H1 locs1 cells slots Q (F0 m (pc + 1) ls rest)) : W p l e R s m args below meth c H locs cells slots Q (F0 m pc ls (.int x :: .int i :: .ref (σ k) :: rest)) := by
  obtain ⟨hK, hP, hD, hS, hN⟩ := hW
  refine va_zast S.1 S.2.1 hK hP hD hS k 1 (by rw [← cell_z]; exact wd_get hk) rfl hin hdg (fun H1 locs1 hP1 hD1 hS1 => ?_)
  rw [wd_set (M := M) (M' := sA M k i.toNatClampNeg (vp_nar .boolean x)) hk (fun k' h => sA_1 k' h) (fun _ _ => rfl) (by rw [cell_z, sA_s])] at hP1 hD1
  exact kk _ H1 locs1 rfl ⟨hK, hP1, hD1, hS1, hN⟩
theorem r_last (S : CallFix p m c cc nL s args Ts own) (hW : Wd D T L σ M A s H0 H locs) {k n b : Nat} {sl : List (Option Nat)} {i : Int32} {x : Int64} (hk : L[k]? = some (3, n, b, sl)) (hin : vp_in i n) (hdg : decode cc pc = .ok (.lastore, 1))
    (kk : ∀ (M1 : Mem) (H1 : Heap) (locs1 : List Loc), M1 = sB M k i.toNatClampNeg x → Wd D T L σ M1 A s H0 H1 locs1 → W p l e R s m args below meth c H1 locs1 cells slots Q (F0 m (pc + 1) ls rest)) : W p l e R s m args below meth c H locs cells slots Q (F0 m pc ls (.long x :: .int i :: .ref (σ k) :: rest)) := by
  obtain ⟨hK, hP, hD, hS, hN⟩ := hW
  refine va_last S.1 S.2.1 hK hP hD hS k 2 (by rw [← cell_l]; exact wd_get hk) rfl hin hdg (fun H1 locs1 hP1 hD1 hS1 => ?_)
  rw [wd_set (M := M) (M' := sB M k i.toNatClampNeg x) hk (fun _ _ => rfl) (fun k' h => sB_1 k' h) (by rw [cell_l, sB_s])] at hP1 hD1
  exact kk _ H1 locs1 rfl ⟨hK, hP1, hD1, hS1, hN⟩
theorem r_aald (S : CallFix p m c cc nL s args Ts own) (hW : Wd D T L σ M A s H0 H locs) {k t n b : Nat} {sl : List (Option Nat)} {i : Int32} (hk : L[k]? = some (t + 4, n, b, sl)) (ht : t < 2) (hin : vp_in i n) (hdg : decode cc pc = .ok (.aaload, 1))
    (kk : W p l e R s m args below meth c H locs cells slots Q (F0 m (pc + 1) ls (.ref (σ (b + i.toNatClampNeg)) :: rest))) : W p l e R s m args below meth c H locs cells slots Q (F0 m pc ls (.int i :: .ref (σ k) :: rest)) := by
  obtain ⟨hK, hP, hD, hS, hN⟩ := hW
  have hlt := vp_lt hin
  have ha := hP k (σ k, cellOf T σ M k (t + 4, n, b, sl)) (wd_get hk)
  rw [cell_q] at ha
  have hv : va_rf (if i.toNatClampNeg < n then some (σ (b + i.toNatClampNeg)) else none) = .ref (σ (b + i.toNatClampNeg)) := by rw [if_pos hlt]; rfl
  have hty : ∃ ty : FieldType, (tyT T)[t + 3]? = some (T (t + 4), ty) ∧ ty.isReference = true := by
    rcases (show t = 0 ∨ t = 1 by omega) with rfl | rfl
    · exact ⟨.array .int, rfl, rfl⟩
    · exact ⟨.array .long, rfl, rfl⟩
  obtain ⟨ty, h1, h2⟩ := hty
  rw [← hv] at kk
  exact W.aald (v := va_rf (if i.toNatClampNeg < n then some (σ (b + i.toNatClampNeg)) else none)) (ty := ty) S.1 S.2.1 ha ((hK.2 (t + 3) _ h1).1 n (fun j => va_rf (if j < n then some (σ (b + j)) else none))) h2 (fun q => by cases q) (by show ¬ (i < 0 ∨ (arrV _ _ _).slots.size ≤ _); rw [arrV_size]; exact hin) (by show (arrV _ _ _).slots[_]? = _; rw [arrV_read _ _ hlt]) rfl rfl hdg kk
theorem r_alenI (S : CallFix p m c cc nL s args Ts own) (hW : Wd D T L σ M A s H0 H locs) {k n b : Nat} {sl : List (Option Nat)} (hk : L[k]? = some (1, n, b, sl)) (hdg : decode cc pc = .ok (.arraylength, 1))
    (kk : W p l e R s m args below meth c H locs cells slots Q (F0 m (pc + 1) ls (.int (nI n) :: rest))) : W p l e R s m args below meth c H locs cells slots Q (F0 m pc ls (.ref (σ k) :: rest)) := by
  obtain ⟨hK, hP, hD, hS, hN⟩ := hW
  exact va_alen (x := (n, .inl (M.1 k))) (v := nI n) S.1 S.2.1 hK hP k 0 (by rw [← cell_i]; exact wd_get hk) (ty := .int) rfl rfl hdg kk
theorem r_alenZ (S : CallFix p m c cc nL s args Ts own) (hW : Wd D T L σ M A s H0 H locs) {k n b : Nat} {sl : List (Option Nat)} (hk : L[k]? = some (2, n, b, sl)) (hdg : decode cc pc = .ok (.arraylength, 1))
    (kk : W p l e R s m args below meth c H locs cells slots Q (F0 m (pc + 1) ls (.int (nI n) :: rest))) : W p l e R s m args below meth c H locs cells slots Q (F0 m pc ls (.ref (σ k) :: rest)) := by
  obtain ⟨hK, hP, hD, hS, hN⟩ := hW
  exact va_alen (x := (n, .inl (M.1 k))) (v := nI n) S.1 S.2.1 hK hP k 1 (by rw [← cell_z]; exact wd_get hk) (ty := .boolean) rfl rfl hdg kk
theorem r_alenL (S : CallFix p m c cc nL s args Ts own) (hW : Wd D T L σ M A s H0 H locs) {k n b : Nat} {sl : List (Option Nat)} (hk : L[k]? = some (3, n, b, sl)) (hdg : decode cc pc = .ok (.arraylength, 1))
    (kk : W p l e R s m args below meth c H locs cells slots Q (F0 m (pc + 1) ls (.int (nI n) :: rest))) : W p l e R s m args below meth c H locs cells slots Q (F0 m pc ls (.ref (σ k) :: rest)) := by
  obtain ⟨hK, hP, hD, hS, hN⟩ := hW
  exact va_alen (x := (n, .inr (.inl (M.2 k)))) (v := nI n) S.1 S.2.1 hK hP k 2 (by rw [← cell_l]; exact wd_get hk) (ty := .long) rfl rfl hdg kk
theorem r_max (S : CallFix p m c cc nL s args Ts own) (hl : ls.size = nL) {index : Nat} (hlink : (Cond.methodLink own index Lib.Math.max.name).before args s = true) (hstat : (Cond.static Lib.Math.max.name).before args s = true) (hini : (Cond.initialized "java/lang/Math").before args s = true) (hcode : (Cond.code Lib.Math.max.name Lib.Math.max.code 2 (some .int)).before args s = true)
    (hframes : 1 ≤ R.frames) (hlocals : (rest.map fun v => v.category).sum + 13 ≤ R.locals) (hc : cells ≤ R.cells) (hs : slots ≤ R.slots) {x y : Int32} (hdg : decode cc pc = .ok (.invokestatic index, 3))
    (kk : W p l e R s m args below meth c H locs cells slots Q (F0 m (pc + 3) ls (.int (jmax x y) :: rest))) : W p l e R s m args below meth c H locs cells slots Q (F0 m pc ls (.int y :: .int x :: rest)) :=
  va_mmax S.1 S.2.1 (S.2.2.1.trans hl.symm) S.2.2.2.1 hlink hstat hini hcode hframes hlocals hc hs hdg kk
theorem r_min (S : CallFix p m c cc nL s args Ts own) (hl : ls.size = nL) {index : Nat} (hlink : (Cond.methodLink own index Lib.Math.min.name).before args s = true) (hstat : (Cond.static Lib.Math.min.name).before args s = true) (hini : (Cond.initialized "java/lang/Math").before args s = true) (hcode : (Cond.code Lib.Math.min.name Lib.Math.min.code 2 (some .int)).before args s = true)
    (hframes : 1 ≤ R.frames) (hlocals : (rest.map fun v => v.category).sum + 13 ≤ R.locals) (hc : cells ≤ R.cells) (hs : slots ≤ R.slots) {x y : Int32} (hdg : decode cc pc = .ok (.invokestatic index, 3))
    (kk : W p l e R s m args below meth c H locs cells slots Q (F0 m (pc + 3) ls (.int (jmin x y) :: rest))) : W p l e R s m args below meth c H locs cells slots Q (F0 m pc ls (.int y :: .int x :: rest)) :=
  va_mmin S.1 S.2.1 (S.2.2.1.trans hl.symm) S.2.2.2.1 hlink hstat hini hcode hframes hlocals hc hs hdg kk
theorem sBr_s {M : Mem} {k : Nat} {f : Nat → Int64} : (sBr M k f).2 k = f := if_pos rfl
theorem sBr_1 {M : Mem} {k : Nat} {f : Nat → Int64} (k' : Nat) (h : k' ≠ k) : (sBr M k f).2 k' = M.2 k' := if_neg h
theorem r_acopy (S : CallFix p m c cc nL s args Ts own) (hl : ls.size = nL) (hW : Wd D T L σ M A s H0 H locs) {index k0 k1 n0 n1 b0 b1 : Nat} {sl0 sl1 : List (Option Nat)} {sp dp n : Int32} (hlink : (Cond.methodLink own index arraycopyName).before args s = true) (hnat : (Cond.native arraycopyName).before args s = true) (hstat : (Cond.static arraycopyName).before args s = true) (hini : (Cond.initialized "java/lang/System").before args s = true)
    (hk0 : L[k0]? = some (3, n0, b0, sl0)) (hk1 : L[k1]? = some (3, n1, b1, sl1)) (hb : ¬ sp < 0 ∧ ¬ dp < 0 ∧ ¬ n < 0 ∧ sp.toNatClampNeg + n.toNatClampNeg ≤ n0 ∧ dp.toNatClampNeg + n.toNatClampNeg ≤ n1)
    (hframes : 1 ≤ R.frames) (hlocals : (rest.map fun v => v.category).sum + (nativeFrameWords "java/lang/System" "arraycopy" 5 + 11) ≤ R.locals) (hdg : decode cc pc = .ok (.invokestatic index, 3))
    (kk : ∀ (M1 : Mem) (H1 : Heap) (locs1 : List Loc), M1 = sBr M k1 (va_cpy (M.2 k0) (M.2 k1) sp.toNatClampNeg dp.toNatClampNeg n.toNatClampNeg) → Wd D T L σ M1 A s H0 H1 locs1 → W p l e R s m args below meth c H1 locs1 cells slots Q (F0 m (pc + 3) ls rest)) : W p l e R s m args below meth c H locs cells slots Q (F0 m pc ls (.int n :: .int dp :: .ref (σ k1) :: .int sp :: .ref (σ k0) :: rest)) := by
  obtain ⟨hK, hP, hD, hS, hN⟩ := hW
  refine va_copyl S.1 S.2.1 (S.2.2.1.trans hl.symm) S.2.2.2.1 hlink hnat hstat hini hK hP hD hS k0 k1 2 2 (ty := .long) (by rw [← cell_l]; exact wd_get hk0) (by rw [← cell_l]; exact wd_get hk1) rfl rfl rfl hb.1 hb.2.1 hb.2.2.1 hb.2.2.2.1 hb.2.2.2.2 (fun _ _ => rfl) hframes hlocals hdg (fun H1 locs1 hP1 hD1 hS1 => ?_)
  rw [wd_set (M := M) (M' := sBr M k1 (va_cpy (M.2 k0) (M.2 k1) sp.toNatClampNeg dp.toNatClampNeg n.toNatClampNeg)) hk1 (fun _ _ => rfl) (fun k' h => sBr_1 k' h) (by rw [cell_l, sBr_s])] at hP1 hD1
  exact kk _ H1 locs1 rfl ⟨hK, hP1, hD1, hS1, hN⟩
end RR
section RC
variable {p : Program} {l : Launch} {e : Env} {R : Room} {s : State} {m : MethodId} {args a : Array Value} {below : List Frame} {meth : Method} {c : Code} {H H0 : Heap} {locs : List Loc} {cells slots : Nat} {Q : State → Prop}
variable {cc : ByteArray} {pc nL : Nat} {ls : Array Slot} {rest st As : List Value} {own C : String} {Ts : List Cond} {D : va_G} {T : Nat → ClassId} {L : Lay} {σ : Nat → Nat} {M : Mem} {A : Nat → Prop}
variable {y : MethodName} {ws : List Cond} {rm : Room} {bytes : ByteArray} {maxL n index : Nat} {ret : Option FieldType} {Qc : Array Value → State → Outcome → State → Prop}
theorem r_runV (S : CallFix p m c cc nL s args Ts own) (hW : Wd D T L σ M A s H0 H locs) {TX : u_T} {N ci k b : Nat} {sl : List (Option Nat)} (hM : Met l y ws rm (preW D T L σ (.ref (σ k) :: As) M) Qc 0 0 (fA L σ)) (cw : CallW R s args own C index y bytes maxL ret ws rm 0 0 n) (hc : vwCl[ci]? = some (C, TX, N)) (hk : L[k]? = some (0, ci, b, sl))
    (hn : As.length = n) (hls : ls.size = nL) (hst : st = As.reverse ++ .ref (σ k) :: rest) (hcat : (rest.map fun v => v.category).sum ≤ 8) (hdg : decode cc pc = .ok (.invokevirtual index, 3)) (hf : cells ≤ R.cells ∧ slots ≤ R.slots) :
    va_Run p l e R s m args below meth c H locs cells slots 0 0 (F0 m pc ls st) rest (Qc (Value.ref (σ k) :: As).toArray) (fA L σ) := by
  obtain ⟨hK, hP, hD, hS, hN⟩ := hW
  have hq : (wd T L σ M)[k]? = some (σ k, .inr (ci, flds σ (M.1 k) sl)) := by rw [← cell_o]; exact wd_get hk
  exact va_runV S hM cw ⟨preW_blind, va_recv hK hP hc hq, fun U hU hWm => ⟨rfl, by rw [hU]; exact hP, va_K.moved hWm.alike hK, hD.weaken (fun _ _ _ _ => trivial), NW.warm hWm hN⟩⟩ rfl hn hls hst (lv_room hcat) hdg hf
theorem r_runS (S : CallFix p m c cc nL s args Ts own) (hW : Wd D T L σ M A s H0 H locs) (hM : Met l y ws rm (preW D T L σ As M) Qc 0 0 (fA L σ)) (cw : CallB R s args own index y bytes maxL ret ws rm 0 0 n ∧ (Cond.static y).before args s = true)
    (hn : As.length = n) (hls : ls.size = nL) (hst : st = As.reverse ++ rest) (hcat : (rest.map fun v => v.category).sum ≤ 8) (hdg : decode cc pc = .ok (.invokestatic index, 3)) (hf : cells ≤ R.cells ∧ slots ≤ R.slots) :
    va_Run p l e R s m args below meth c H locs cells slots 0 0 (F0 m pc ls st) rest (Qc As.toArray) (fA L σ) := by
  obtain ⟨hK, hP, hD, hS, hN⟩ := hW
  exact va_runS S hM cw ⟨preW_blind, fun U hU hWm => ⟨rfl, by rw [hU]; exact hP, va_K.moved hWm.alike hK, hD.weaken (fun _ _ _ _ => trivial), NW.warm hWm hN⟩⟩ rfl hn hls hst (lv_room hcat) hdg hf
theorem r_runN (S : CallFix p m c cc nL s args Ts own) (hW : Wd D T L σ M A s H0 H locs) {host : String} (hM : Met l y ws rm (preW D T L σ As M) Qc 0 0 (fA L σ)) (cw : va_CN R s args own index y host bytes maxL ret ws rm 0 0 n) (hstat : (Cond.static y).before args s = true)
    (hn : As.length = n) (hls : ls.size = nL) (hst : st = As.reverse ++ rest) (hcat : (rest.map fun v => v.category).sum ≤ 8) (hdg : decode cc pc = .ok (.invokestatic index, 3)) (hf : cells ≤ R.cells ∧ slots ≤ R.slots) :
    va_Run p l e R s m args below meth c H locs cells slots 0 0 (F0 m pc ls st) rest (Qc As.toArray) (fA L σ) := by
  obtain ⟨hK, hP, hD, hS, hN⟩ := hW
  exact va_runSN S hM ⟨cw, hstat, trivial⟩ ⟨preW_blind, fun U hU hWm => ⟨rfl, by rw [hU]; exact hP, va_K.moved hWm.alike hK, hD.weaken (fun _ _ _ _ => trivial), NW.warm hWm hN⟩⟩ rfl hn hls hst (lv_room hcat) hdg hf
theorem r_goI {post : Int32 → Mem → Prop} (hr : va_Run p l e R s m args below meth c H locs cells slots 0 0 (F0 m pc ls st) rest (postI D T L σ post a) (fA L σ)) (hW : Wd D T L σ M A s H0 H locs)
    (kk : ∀ (r : Int32) (M1 : Mem) (H1 : Heap) (locs1 : List Loc), post r M1 → Wd D T L σ M1 A s H0 H1 locs1 → W p l e R s m args below meth c H1 locs1 cells slots Q (F0 m (pc + 3) ls (.int r :: rest))) : W p l e R s m args below meth c H locs cells slots Q (F0 m pc ls st) := by
  obtain ⟨hK, hP, hD, hS, hN⟩ := hW
  refine va_calli hr hS (fun q _ h => fA_in hD q h) (fun q h => fA_in hD q h) (fun r M1 t H1 locs1 ht hvm hp hB hz hk hS1 => ?_)
  obtain ⟨hP1, hK1⟩ := hB
  rw [ht] at hP1
  exact kk r M1 H1 locs1 hp ⟨hK, hP1, wd_D hD, hS1, hN⟩
theorem r_goL {post : Int64 → Mem → Prop} (hr : va_Run p l e R s m args below meth c H locs cells slots 0 0 (F0 m pc ls st) rest (postL D T L σ post a) (fA L σ)) (hW : Wd D T L σ M A s H0 H locs)
    (kk : ∀ (r : Int64) (M1 : Mem) (H1 : Heap) (locs1 : List Loc), post r M1 → Wd D T L σ M1 A s H0 H1 locs1 → W p l e R s m args below meth c H1 locs1 cells slots Q (F0 m (pc + 3) ls (.long r :: rest))) : W p l e R s m args below meth c H locs cells slots Q (F0 m pc ls st) := by
  obtain ⟨hK, hP, hD, hS, hN⟩ := hW
  refine va_calll hr hS (fun q _ h => fA_in hD q h) (fun q h => fA_in hD q h) (fun r M1 t H1 locs1 ht hvm hp hB hz hk hS1 => ?_)
  obtain ⟨hP1, hK1⟩ := hB
  rw [ht] at hP1
  exact kk r M1 H1 locs1 hp ⟨hK, hP1, wd_D hD, hS1, hN⟩
theorem r_goV {post : Mem → Prop} (hr : va_Run p l e R s m args below meth c H locs cells slots 0 0 (F0 m pc ls st) rest (postV D T L σ post a) (fA L σ)) (hW : Wd D T L σ M A s H0 H locs)
    (kk : ∀ (M1 : Mem) (H1 : Heap) (locs1 : List Loc), post M1 → Wd D T L σ M1 A s H0 H1 locs1 → W p l e R s m args below meth c H1 locs1 cells slots Q (F0 m (pc + 3) ls rest)) : W p l e R s m args below meth c H locs cells slots Q (F0 m pc ls st) := by
  obtain ⟨hK, hP, hD, hS, hN⟩ := hW
  refine va_callv hr hS (fun q _ h => fA_in hD q h) (fun q h => fA_in hD q h) (fun M1 t H1 locs1 ht hvm hp hB hz hk hS1 => ?_)
  obtain ⟨hP1, hK1⟩ := hB
  rw [ht] at hP1
  exact kk M1 H1 locs1 hp ⟨hK, hP1, wd_D hD, hS1, hN⟩
theorem r_iret {post : Int32 → Mem → Prop} {v : Int32} (S : CallFix p m c cc nL s args Ts own) (hr : meth.sig.returnType = some .int) (hlk : meth.locks = false) (hW : Wd D T L σ M (fA L σ) s s.heap H locs) (h : post v M) (hdg : decode cc pc = .ok (.ireturn, 1)) :
    W p l e R s m args below meth c H locs cells slots (MQ below (postI D T L σ post) args s cells slots (fA L σ)) (F0 m pc ls [.int v]) :=
  W.iret S.1 S.2.1 hr (fun t ht hWm => ⟨⟨v, M, rfl, h, by rw [ht]; exact hW.2.1, va_K.moved hWm.alike hW.1⟩, hW.2.2.2.1.F ht⟩) hW.2.2.2.1.2.2 hdg hlk
theorem r_zret {post : Int32 → Mem → Prop} {v : Int32} (S : CallFix p m c cc nL s args Ts own) (hr : meth.sig.returnType = some .boolean) (hlk : meth.locks = false) (hW : Wd D T L σ M (fA L σ) s s.heap H locs) (hz : zb v) (h : post v M) (hdg : decode cc pc = .ok (.ireturn, 1)) :
    W p l e R s m args below meth c H locs cells slots (MQ below (postI D T L σ post) args s cells slots (fA L σ)) (F0 m pc ls [.int v]) :=
  W.zret S.1 S.2.1 hr hz (fun t ht hWm => ⟨⟨v, M, rfl, h, by rw [ht]; exact hW.2.1, va_K.moved hWm.alike hW.1⟩, hW.2.2.2.1.F ht⟩) hW.2.2.2.1.2.2 hdg hlk
theorem r_lret {post : Int64 → Mem → Prop} {v : Int64} (S : CallFix p m c cc nL s args Ts own) (hr : meth.sig.returnType = some .long) (hlk : meth.locks = false) (hW : Wd D T L σ M (fA L σ) s s.heap H locs) (h : post v M) (hdg : decode cc pc = .ok (.lreturn, 1)) :
    W p l e R s m args below meth c H locs cells slots (MQ below (postL D T L σ post) args s cells slots (fA L σ)) (F0 m pc ls [.long v]) :=
  W.lret S.1 S.2.1 hr (fun t ht hWm => ⟨⟨v, M, rfl, h, by rw [ht]; exact hW.2.1, va_K.moved hWm.alike hW.1⟩, hW.2.2.2.1.F ht⟩) hW.2.2.2.1.2.2 hdg hlk
theorem r_vret {post : Mem → Prop} (S : CallFix p m c cc nL s args Ts own) (hr : meth.sig.returnType = none) (hlk : meth.locks = false) (hW : Wd D T L σ M (fA L σ) s s.heap H locs) (h : post M) (hdg : decode cc pc = .ok (.return_, 1)) :
    W p l e R s m args below meth c H locs cells slots (MQ below (postV D T L σ post) args s cells slots (fA L σ)) (F0 m pc ls []) :=
  W.vret S.1 S.2.1 hr (fun t ht hWm => ⟨⟨M, rfl, h, by rw [ht]; exact hW.2.1, va_K.moved hWm.alike hW.1⟩, hW.2.2.2.1.F ht⟩) hW.2.2.2.1.2.2 hdg hlk
theorem r_ts {hi dflt : Int} {offs : Array Int} {len : Nat} {x : Int32} (S : CallFix p m c cc nL s args Ts own) (hdg : decode cc pc = .ok (.tableswitch dflt 0 hi offs, len)) (hsz : hi < offs.size)
    (kin : ∀ (k : Nat) (off : Int), offs[k]? = some off → x.toInt = k → W p l e R s m args below meth c H locs cells slots Q (F0 m ((pc : Int) + off).toNat ls rest)) (hoff : ∀ o ∈ offs, 0 ≤ (pc : Int) + o) (hdf : 0 ≤ (pc : Int) + dflt)
    (kout : (x.toInt < 0 ∨ hi < x.toInt) → W p l e R s m args below meth c H locs cells slots Q (F0 m ((pc : Int) + dflt).toNat ls rest)) : W p l e R s m args below meth c H locs cells slots Q (F0 m pc ls (.int x :: rest)) := by
  by_cases h1 : x.toInt < 0
  · exact lv_tableOut S.1 S.2.1 hdg (Or.inl h1) (by omega) (kout (Or.inl h1))
  · by_cases h2 : hi < x.toInt
    · exact lv_tableOut S.1 S.2.1 hdg (Or.inr h2) (by omega) (kout (Or.inr h2))
    · have hlt : x.toInt.toNat < offs.size := by omega
      have ho : offs[x.toInt.toNat]? = some offs[x.toInt.toNat] := Array.getElem?_eq_getElem hlt
      have hp := hoff _ (Array.getElem_mem hlt)
      exact lv_tableIn S.1 S.2.1 hdg h1 h2 (by rw [Int.sub_zero]; exact ho) (by omega) (kin _ _ ho (by omega))
end RC
theorem m_of {y : MethodName} {ws ws' : List Cond} {rm : Room} {cc : ByteArray} {maxL : Nat} {ret : Option FieldType} {own : String} {l : Launch} {D : va_G} {T : Nat → ClassId} {L : Lay} {σ : Nat → Nat} {M : Mem} {av : List Value} {Qc : Array Value → State → Outcome → State → Prop} (hy : plainName y.cls = true) (hw : ws = Cond.code y cc maxL ret :: ws') (hown : y.cls = own) (hlen : (lg_sl av).length ≤ maxL)
    (body : ∀ (p : Program) (e : Env) (s : State) (m : MethodId) (args : Array Value) (below : List Frame) (meth : Method) (c : Code) (H : Heap) (ls : Array Slot) (locs : List Loc), CallFix p m c cc maxL s args ws own → meth.sig.returnType = ret → meth.locks = false → lv_has ls maxL (lv_args 0 av) → Wd D T L σ M (fA L σ) s s.heap H locs →
      W p l e rm s m args below meth c H locs 0 0 (MQ below Qc args s 0 0 (fA L σ)) (F0 m 0 ls [])) : Met l y ws rm (preW D T L σ av M) Qc 0 0 (fA L σ) := by
  refine Met.ofW (cc := cc) (maxL := maxL) (ret := ret) hy hw ?_
  intro p e s m args below meth c s₁ B hml hv
  obtain ⟨rfl, hP, hK, hD, hN⟩ := hv
  have hts := atoms_spec (ws := ws) B.pre
  have hf : s.vm.findClass own = some m.cls := by rw [← hown]; exact findClass_of_methodNamed B.named
  have hl := lv_entry av (n := maxL) hlen
  rw [lg_entry_eq]
  exact body p e s m _ below meth c s.heap _ [] ⟨B.exec, B.bytes, hml, hf, hts⟩ B.returns B.notSynchronized hl ⟨hK, hP, fA_self hD, va_S.rf, hN⟩
/-- what holds at a cut point of a method: from the world M, with these locals and this stack, the method comes to its end -/
def WW (p : Program) (l : Launch) (e : Env) (R : Room) (s : State) (m : MethodId) (args : Array Value) (below : List Frame) (meth : Method) (c : Code) (D : va_G) (T : Nat → ClassId) (L : Lay) (σ : Nat → Nat) (nL : Nat) (Q : State → Prop) (pc : Nat) (lv : List (Nat × Value)) (st : List Value) (M : Mem) : Prop :=
  ∀ (H : Heap) (locs : List Loc) (ls : Array Slot), Wd D T L σ M (fA L σ) s s.heap H locs → lv_has ls nL lv → W p l e R s m args below meth c H locs 0 0 Q (F0 m pc ls st)

/-- Arrays.fill, said plainly (over a single row of six) -/
def fillM : Mem := (fun k => if k = 0 then (fun j => if j < 6 then -1 else 0) else fun _ => 0, fun _ _ => 0)
theorem fill_len : qJ7_fill_53178 0 6 (-1) Z0 (fun M1 => M1 = fillM) := by
  apply s_fill (by decide)
  unfold sAr fillM Z0
  refine Prod.ext (funext fun k => ?_) rfl
  by_cases hk : k = 0
  · subst hk; rfl
  · simp only [if_neg hk]
theorem sheets_join {D : va_G} {T : Nat → ClassId} {A : Nat → Prop} {w0 : va_W} {q3 : Nat} {M1 : Mem} {H H1 : Heap} {e0 : va_E} (hP : va_P D vwCl (w0 ++ [(q3, e0)]) H) (hD : va_D A (w0 ++ [(q3, e0)])) (hP1 : va_P D vwCl (wd T [(1, 6, 0, [])] (fun _ => q3) M1) H1) (hk : ∀ q : Nat, q < H.size → ¬ fA [(1, 6, 0, [])] (fun _ => q3) q → H1[q]? = H[q]?) : va_P D vwCl (w0 ++ [(q3, .inl (T 1, 6, .inl (M1.1 0)))]) H1 := by
  have a1 : ∀ (k : Nat) (q : Nat × va_E), w0[k]? = some q → (w0 ++ [(q3, e0)])[k]? = some q := fun k q h => by rw [List.getElem?_append_left (List.getElem?_eq_some_iff.mp h).1]; exact h
  have a2 : (w0 ++ [(q3, e0)])[w0.length]? = some (q3, e0) := by rw [List.getElem?_append_right (Nat.le_refl _), Nat.sub_self]; rfl
  refine va_P.app (fun k q hq => (hP k q (a1 k q hq)).kept (hk q.1 ((hP k q (a1 k q hq)).lt) (fun h => ?_))) hP1
  obtain ⟨i, _, e⟩ := h
  have := hD.1 k w0.length q (q3, e0) (a1 k q hq) a2 e
  have := (List.getElem?_eq_some_iff.mp hq).1
  omega
theorem sheets_joinD {A : Nat → Prop} {w0 : va_W} {q3 : Nat} {e0 e1 : va_E} (hD : va_D A (w0 ++ [(q3, e0)])) : va_D A (w0 ++ [(q3, e1)]) := by
  have h := hD.set (p := w0.length) (a := q3) (e0 := e0) (e := e1) (by rw [List.getElem?_append_right (Nat.le_refl _), Nat.sub_self]; rfl)
  rw [List.set_append_right _ _ (Nat.le_refl _), Nat.sub_self] at h
  exact h

def closedL (n : Nat) (L : Lay) : Bool := L.all (fun c => c.2.2.2.all (fun o => match o with | some r => decide (r < n) | none => true) && (decide (c.1 < 4) || decide (c.2.2.1 + c.2.1 ≤ n)))
theorem cell_lo {T : Nat → ClassId} {σ τ : Nat → Nat} {M N : Mem} {n k : Nat} {c : LayC} (hk : k < n) (h : (c.2.2.2.all (fun o => match o with | some r => decide (r < n) | none => true) && (decide (c.1 < 4) || decide (c.2.2.1 + c.2.1 ≤ n))) = true) : cellOf T (glue n σ τ) (glueM n M N) k c = cellOf T σ M k c := by
  obtain ⟨h1, h2⟩ := Bool.and_eq_true_iff.mp h
  have e1 : (glueM n M N).1 k = M.1 k := glue_lo hk
  have e2 : (glueM n M N).2 k = M.2 k := glue_lo hk
  have e3 : flds (glue n σ τ) (M.1 k) c.2.2.2 = flds σ (M.1 k) c.2.2.2 := by
    unfold flds
    apply List.map_congr_left
    intro j hj
    unfold slotV
    cases hs : c.2.2.2[j]? with
    | none => rfl
    | some o =>
      cases o with
      | none => rfl
      | some r =>
        have h3 := List.all_eq_true.mp h1 (some r) (List.mem_of_getElem? hs)
        have h4 : r < n := of_decide_eq_true h3
        show Value.ref (glue n σ τ r) = Value.ref (σ r)
        rw [glue_lo h4]
  unfold cellOf
  rw [e1, e2, e3]
  by_cases h4 : c.1 < 4
  · by_cases a0 : c.1 = 0
    · rw [if_pos a0, if_pos a0]
    · rw [if_neg a0, if_neg a0]
      by_cases a1 : c.1 = 1
      · rw [if_pos a1, if_pos a1]
      · rw [if_neg a1, if_neg a1]
        by_cases a2 : c.1 = 2
        · rw [if_pos a2, if_pos a2]
        · rw [if_neg a2, if_neg a2, if_pos (show c.1 = 3 by omega), if_pos (show c.1 = 3 by omega)]
  · have h5 : c.2.2.1 + c.2.1 ≤ n := by
      rcases Bool.or_eq_true_iff.mp h2 with h6 | h6
      · exact absurd (of_decide_eq_true h6) h4
      · exact of_decide_eq_true h6
    have e4 : (fun i => if i < c.2.1 then some (glue n σ τ (c.2.2.1 + i)) else none) = (fun i => if i < c.2.1 then some (σ (c.2.2.1 + i)) else none) := by
      funext i
      by_cases hi : i < c.2.1
      · rw [if_pos hi, if_pos hi, glue_lo (by omega)]
      · rw [if_neg hi, if_neg hi]
    rw [e4]
theorem wd_lo {T : Nat → ClassId} {σ τ : Nat → Nat} {M N : Mem} {n : Nat} {L : Lay} (hL : L.length ≤ n) (h : closedL n L = true) : wd T L (glue n σ τ) (glueM n M N) = wd T L σ M := by
  unfold wd
  apply List.map_congr_left
  intro k hk
  have hk2 : k < L.length := List.mem_range.mp hk
  have hm : L.getD k (0, 0, 0, []) ∈ L := by
    rw [List.getD_eq_getElem?_getD, List.getElem?_eq_getElem hk2]
    exact List.getElem_mem hk2
  rw [glue_lo (show k < n by omega), cell_lo (show k < n by omega) (List.all_eq_true.mp h _ hm)]
theorem wd_glue2 {T : Nat → ClassId} {σ τ : Nat → Nat} {M N : Mem} {La Lb : Lay} {n : Nat} (hn : La.length = n) (h : closedL n La = true) : wd T (La ++ shL n Lb) (glue n σ τ) (glueM n M N) = wd T La σ M ++ wd T Lb τ N := by
  rw [wd_glue hn, wd_lo (by omega) h]

def LX4 : Lay := [(0, 4, 0, [some 1, some 8, some 9]), (5, 6, 2, []), (3, 64, 0, []), (3, 64, 0, []), (3, 64, 0, []), (3, 64, 0, []), (3, 64, 0, []), (3, 64, 0, []), (1, 6, 0, []), (1, 6, 0, [])]
def MX4 : Mem := (fun k => if k = 9 then fillM.1 0 else fun _ => 0, fun _ _ => 0)
abbrev rmX4_init : Room := { frames := 1, cells := 9, slots := 402, locals := 23 }
set_option maxHeartbeats 1000000 in
set_option maxRecDepth 100000 in
theorem iX4 (l : Launch) (D : va_G) (T : Nat → ClassId) (h0 sz : Nat) : Met l yX4_init wsX4_init rmX4_init (preN D T [.ref h0] (h0, .inr (4, [.null, .null, .null])) sz) (postN D T LX4 MX4 (h0, .inr (4, [.null, .null, .null])) sz) 9 402 (va_A [(h0, .inr (4, [.null, .null, .null]))] sz) := by
  refine n_of (cc := cX4_init) (maxL := 1) (own := RX4) (by decide) rfl rfl rfl (Nat.le_of_ble_eq_true rfl) ?_
  intro p e s m args below meth c H ls locs A S hr hlk hin hl hsz hAe hA hK hP hD hS hN hO
  subst hsz
  have hl : lv_has ls 1 [(0, .ref h0)] := hl
  have inX4 : ∀ w ∈ u_ws RX4 TX4 3, w ∈ wsX4_init := by decide +kernel
  have f13 := S.2.2.2.2 (.fieldLink RX4 13 "MachineHall$Sheets" "numbers" "[[J") (by decide +kernel)
  have f16 := S.2.2.2.2 (.fieldLink RX4 16 "MachineHall$Sheets" "sorts" "[I") (by decide +kernel)
  have f20 := S.2.2.2.2 (.fieldLink RX4 20 "MachineHall$Sheets" "lengths" "[I") (by decide +kernel)
  refine lv_aload_n S.1 S.2.1 dX4_init_0 rfl (lv_at hl 0 rfl) ?_
  refine W.objInit S.1 S.2.1 S.2.2.2.1 (S.2.2.2.2 (.methodLink RX4 3 objectInit) (by decide +kernel)) (S.2.2.2.2 (.instanceMethod objectInit) (by decide +kernel)) (S.2.2.2.2 (.code objectInit ⟨#[0xb1]⟩ 1 none) (by decide +kernel)) rfl (by rw [S.2.2.1]; exact hl.1) rfl dX4_init_1 (Nat.le_of_ble_eq_true rfl) (Nat.le_of_ble_eq_true rfl) ?_
  refine W.eq (g2 := F0 m 4 ls []) rfl ?_
  refine lv_aload_n S.1 S.2.1 dX4_init_4 rfl (lv_at hl 0 rfl) ?_
  refine lv_bipush (v := 6) S.1 S.2.1 dX4_init_5 rfl ?_
  refine lv_bipush (v := 64) S.1 S.2.1 dX4_init_7 rfl ?_
  refine n_mna (ro := T 5) (ri := T 3) (N' := 6) (K' := 64) (z := (64, .inr (.inl (fun _ => 0)))) (ty := .long) S hP hD hS hA (S.2.2.2.2 (.classLink RX4 11 "[[J") (by decide +kernel)) hO.use_l (S.2.2.2.2 (.arrayClass .long) (by decide +kernel)) (hK.2 4 _ rfl).2 (hK.2 2 _ rfl).2 (by decide +kernel) (by decide +kernel) (by decide +kernel) (by decide +kernel) (Nat.le_of_ble_eq_true rfl) (Nat.le_of_ble_eq_true rfl) (Nat.le_of_ble_eq_true rfl) rfl rfl (Nat.le_of_ble_eq_true rfl) (Nat.le_of_ble_eq_true rfl) (fun c => by rw [vp_cell_l, ← arrV_new]; rfl) dX4_init_9 (fun q1 H hP hD hS => ?_)
  have hP : va_P D vwCl ((h0, .inr (4, _)) :: (_ ++ _)) H := hP
  have hD : va_D A ((h0, .inr (4, _)) :: (_ ++ _)) := hD
  refine n_put S hK hP hD hS 0 inX4 rfl f13 rfl (by decide) tyX4 tyX4_ok nmX4 (Or.inr ⟨hin, rfl⟩) rfl rfl (Nat.le_of_ble_eq_true rfl) dX4_init_13 (fun H locs hP hD hS => ?_)
  refine lv_aload_n S.1 S.2.1 dX4_init_16 rfl (lv_at hl 0 rfl) ?_
  refine lv_bipush (v := 6) S.1 S.2.1 dX4_init_17 rfl ?_
  refine n_newa (N' := 6) (a0 := (6, .inl (fun _ => 0))) (atype := .int) (ty := .int) S hK hP hD hS hA 1 (S.2.2.2.2 (.arrayClass .int) (by decide +kernel)) rfl (fun cA h => Option.some.inj (h.symm.trans (hK.2 0 _ rfl).2)) (fun cA => rfl) (by decide +kernel) (by decide +kernel) (Nat.le_of_ble_eq_true rfl) (Nat.le_of_ble_eq_true rfl) (Nat.le_of_ble_eq_true rfl) dX4_init_19 (fun q8 H hP hD hS => ?_)
  have hP : va_P D vwCl ((h0, .inr (4, _)) :: (_ ++ _)) H := hP
  have hD : va_D A ((h0, .inr (4, _)) :: (_ ++ _)) := hD
  refine n_put S hK hP hD hS 1 inX4 rfl f16 rfl (by decide) tyX4 tyX4_ok nmX4 (Or.inr ⟨hin, rfl⟩) rfl rfl (Nat.le_of_ble_eq_true rfl) dX4_init_21 (fun H locs hP hD hS => ?_)
  refine lv_aload_n S.1 S.2.1 dX4_init_24 rfl (lv_at hl 0 rfl) ?_
  refine lv_bipush (v := 6) S.1 S.2.1 dX4_init_25 rfl ?_
  refine n_newa (N' := 6) (a0 := (6, .inl (fun _ => 0))) (atype := .int) (ty := .int) S hK hP hD hS hA 1 (S.2.2.2.2 (.arrayClass .int) (by decide +kernel)) rfl (fun cA h => Option.some.inj (h.symm.trans (hK.2 0 _ rfl).2)) (fun cA => rfl) (by decide +kernel) (by decide +kernel) (Nat.le_of_ble_eq_true rfl) (Nat.le_of_ble_eq_true rfl) (Nat.le_of_ble_eq_true rfl) dX4_init_27 (fun q9 H hP hD hS => ?_)
  have hP : va_P D vwCl ((h0, .inr (4, _)) :: (_ ++ _)) H := hP
  have hD : va_D A ((h0, .inr (4, _)) :: (_ ++ _)) := hD
  refine n_put S hK hP hD hS 2 inX4 rfl f20 rfl (by decide) tyX4 tyX4_ok nmX4 (Or.inr ⟨hin, rfl⟩) rfl rfl (Nat.le_of_ble_eq_true rfl) dX4_init_29 (fun H locs hP hD hS => ?_)
  refine lv_aload_n S.1 S.2.1 dX4_init_32 rfl (lv_at hl 0 rfl) ?_
  refine va_get (ci := 4) S.1 S.2.1 S.2.2.2.2 inX4 S.2.2.2.1 hK hP 0 rfl rfl 2 (by decide) f20 (fun _ h => h) rfl dX4_init_33 ?_
  refine lv_iconst (v := -1) S.1 S.2.1 dX4_init_36 rfl ?_
  have hWs : Wd D T [(1, 6, 0, [])] (fun _ => q9) Z0 A s s.heap H locs := ⟨hK, (show wd T [(1, 6, 0, [])] (fun _ => q9) Z0 = [(q9, .inl (T 1, 6, .inl (fun _ => 0)))] from rfl) ▸ n_sub (w0 := ((h0, .inr (4, [.ref q1, .ref q8, .ref q9])) :: ((([] : va_W) ++ gridW (T 5) (T 3) 6 q1 (64, .inr (.inl (fun _ => 0)))) ++ ([(q8, .inl (T 1, 6, .inl (fun _ => 0)))] : va_W)) : va_W)) hP, (show wd T [(1, 6, 0, [])] (fun _ => q9) Z0 = [(q9, .inl (T 1, 6, .inl (fun _ => 0)))] from rfl) ▸ n_subD (w0 := ((h0, .inr (4, [.ref q1, .ref q8, .ref q9])) :: ((([] : va_W) ++ gridW (T 5) (T 3) 6 q1 (64, .inr (.inl (fun _ => 0)))) ++ ([(q8, .inl (T 1, 6, .inl (fun _ => 0)))] : va_W)) : va_W)) hD, hS, hN⟩
  have cwf := va_cwS (R := rmX4_init) (rm := rmJ7_fill_53178) (mc := 0) (ms := 0) 2 S.2.2.2.2 gX4_init_J7_fill_53178 rfl rfl rfl (by decide +kernel) ⟨Nat.le_of_ble_eq_true rfl, Nat.le_of_ble_eq_true rfl⟩
  refine r_goV2 (r_runS (rest := []) S hWs (mJ7_fill_53178 l D T [(1, 6, 0, [])] (fun _ => q9) 0 (n := 6) (b := 0) (sl := []) rfl Z0 (-1) (fun M1 => M1 = fillM) fill_len) cwf rfl hl.1 rfl (Nat.le_of_ble_eq_true rfl) dX4_init_37 ⟨Nat.le_of_ble_eq_true rfl, Nat.le_of_ble_eq_true rfl⟩) hWs (fun M1 H1 locs1 h hW1 hk1 => ?_)
  subst h
  have hP := sheets_join (w0 := ((h0, .inr (4, [.ref q1, .ref q8, .ref q9])) :: ((([] : va_W) ++ gridW (T 5) (T 3) 6 q1 (64, .inr (.inl (fun _ => 0)))) ++ ([(q8, .inl (T 1, 6, .inl (fun _ => 0)))] : va_W)) : va_W)) hP hD hW1.2.1 hk1
  have hD := sheets_joinD (w0 := ((h0, .inr (4, [.ref q1, .ref q8, .ref q9])) :: ((([] : va_W) ++ gridW (T 5) (T 3) 6 q1 (64, .inr (.inl (fun _ => 0)))) ++ ([(q8, .inl (T 1, 6, .inl (fun _ => 0)))] : va_W)) : va_W)) (e1 := .inl (T 1, 6, .inl (fillM.1 0))) hD
  have hS := hW1.2.2.2.1
  obtain ⟨σ, eσ⟩ : ∃ σ : Nat → Nat, σ = fun k => [h0, q1, (q1 + 1 + 0), (q1 + 1 + 1), (q1 + 1 + 2), (q1 + 1 + 3), (q1 + 1 + 4), (q1 + 1 + 5), q8, q9].getD k 0 := ⟨_, rfl⟩
  have g0 : ∀ i, i < 6 → σ (2 + i) = q1 + 1 + i := fun i hi => by
    subst eσ
    match i, hi with
    | 0, _ => rfl
    | 1, _ => rfl
    | 2, _ => rfl
    | 3, _ => rfl
    | 4, _ => rfl
    | 5, _ => rfl
    | n + 6, h => exact absurd h (by omega)
  rw [n_grid g0] at hP hD
  refine n_vret S hr hlk hAe hP hD hS σ (by rw [eσ]; rfl) ?_ dX4_init_40
  subst eσ
  rfl
def LX1 : Lay := [(0, 1, 0, [none, none, some 1, some 2, none, some 3, some 4, some 5, some 6, some 7, some 8, some 9, none]), (1, 12, 0, []), (1, 4, 0, []), (1, 10, 0, []), (1, 10, 0, []), (1, 24, 0, []), (1, 1024, 0, []), (2, 1024, 0, []), (2, 1024, 0, []), (1, 1024, 0, [])]
def MX1 : Mem := (fun k j => if k = 0 then (if j = 12 then -1 else 0) else 0, fun _ _ => 0)
abbrev rmX1_init : Room := { frames := 1, cells := 9, slots := 4156, locals := 12 }
set_option maxHeartbeats 1000000 in
set_option maxRecDepth 100000 in
theorem iX1 (l : Launch) (D : va_G) (T : Nat → ClassId) (h0 sz : Nat) : Met l yX1_init wsX1_init rmX1_init (preN D T [.ref h0] (h0, .inr (1, [.int 0, .int 0, .null, .null, .int 0, .null, .null, .null, .null, .null, .null, .null, .int 0])) sz) (postN D T LX1 MX1 (h0, .inr (1, [.int 0, .int 0, .null, .null, .int 0, .null, .null, .null, .null, .null, .null, .null, .int 0])) sz) 9 4156 (va_A [(h0, .inr (1, [.int 0, .int 0, .null, .null, .int 0, .null, .null, .null, .null, .null, .null, .null, .int 0]))] sz) := by
  refine n_of (cc := cX1_init) (maxL := 1) (own := RX1) (by decide) rfl rfl rfl (Nat.le_of_ble_eq_true rfl) ?_
  intro p e s m args below meth c H ls locs A S hr hlk hin hl hsz hAe hA hK hP hD hS hN hO
  subst hsz
  have hl : lv_has ls 1 [(0, .ref h0)] := hl
  have inX1 : ∀ w ∈ u_ws RX1 TX1 13, w ∈ wsX1_init := by decide +kernel
  have f11 := S.2.2.2.2 (.fieldLink RX1 11 "MachineHall$Hall" "sizes" "[I") (by decide +kernel)
  have f15 := S.2.2.2.2 (.fieldLink RX1 15 "MachineHall$Hall" "inRoom" "[I") (by decide +kernel)
  have f18 := S.2.2.2.2 (.fieldLink RX1 18 "MachineHall$Hall" "needs" "[I") (by decide +kernel)
  have f21 := S.2.2.2.2 (.fieldLink RX1 21 "MachineHall$Hall" "foes" "[I") (by decide +kernel)
  have f24 := S.2.2.2.2 (.fieldLink RX1 24 "MachineHall$Hall" "ofHour" "[I") (by decide +kernel)
  have f27 := S.2.2.2.2 (.fieldLink RX1 27 "MachineHall$Hall" "load" "[I") (by decide +kernel)
  have f30 := S.2.2.2.2 (.fieldLink RX1 30 "MachineHall$Hall" "clash" "[Z") (by decide +kernel)
  have f34 := S.2.2.2.2 (.fieldLink RX1 34 "MachineHall$Hall" "asked" "[Z") (by decide +kernel)
  have f37 := S.2.2.2.2 (.fieldLink RX1 37 "MachineHall$Hall" "latest" "[I") (by decide +kernel)
  have f40 := S.2.2.2.2 (.fieldLink RX1 40 "MachineHall$Hall" "latestFor" "I") (by decide +kernel)
  refine lv_aload_n S.1 S.2.1 dX1_init_0 rfl (lv_at hl 0 rfl) ?_
  refine W.objInit S.1 S.2.1 S.2.2.2.1 (S.2.2.2.2 (.methodLink RX1 5 objectInit) (by decide +kernel)) (S.2.2.2.2 (.instanceMethod objectInit) (by decide +kernel)) (S.2.2.2.2 (.code objectInit ⟨#[0xb1]⟩ 1 none) (by decide +kernel)) rfl (by rw [S.2.2.1]; exact hl.1) rfl dX1_init_1 (Nat.le_of_ble_eq_true rfl) (Nat.le_of_ble_eq_true rfl) ?_
  refine W.eq (g2 := F0 m 4 ls []) rfl ?_
  refine lv_aload_n S.1 S.2.1 dX1_init_4 rfl (lv_at hl 0 rfl) ?_
  refine lv_bipush (v := 12) S.1 S.2.1 dX1_init_5 rfl ?_
  refine n_newa (N' := 12) (a0 := (12, .inl (fun _ => 0))) (atype := .int) (ty := .int) S hK hP hD hS hA 1 (S.2.2.2.2 (.arrayClass .int) (by decide +kernel)) rfl (fun cA h => Option.some.inj (h.symm.trans (hK.2 0 _ rfl).2)) (fun cA => rfl) (by decide +kernel) (by decide +kernel) (Nat.le_of_ble_eq_true rfl) (Nat.le_of_ble_eq_true rfl) (Nat.le_of_ble_eq_true rfl) dX1_init_7 (fun q1 H hP hD hS => ?_)
  have hP : va_P D vwCl ((h0, .inr (1, _)) :: (_ ++ _)) H := hP
  have hD : va_D A ((h0, .inr (1, _)) :: (_ ++ _)) := hD
  refine n_put S hK hP hD hS 2 inX1 rfl f11 rfl (by decide) tyX1 tyX1_ok nmX1 (Or.inr ⟨hin, rfl⟩) rfl rfl (Nat.le_of_ble_eq_true rfl) dX1_init_9 (fun H locs hP hD hS => ?_)
  refine lv_aload_n S.1 S.2.1 dX1_init_12 rfl (lv_at hl 0 rfl) ?_
  refine lv_iconst (v := 4) S.1 S.2.1 dX1_init_13 rfl ?_
  refine n_newa (N' := 4) (a0 := (4, .inl (fun _ => 0))) (atype := .int) (ty := .int) S hK hP hD hS hA 1 (S.2.2.2.2 (.arrayClass .int) (by decide +kernel)) rfl (fun cA h => Option.some.inj (h.symm.trans (hK.2 0 _ rfl).2)) (fun cA => rfl) (by decide +kernel) (by decide +kernel) (Nat.le_of_ble_eq_true rfl) (Nat.le_of_ble_eq_true rfl) (Nat.le_of_ble_eq_true rfl) dX1_init_14 (fun q2 H hP hD hS => ?_)
  have hP : va_P D vwCl ((h0, .inr (1, _)) :: (_ ++ _)) H := hP
  have hD : va_D A ((h0, .inr (1, _)) :: (_ ++ _)) := hD
  refine n_put S hK hP hD hS 3 inX1 rfl f15 rfl (by decide) tyX1 tyX1_ok nmX1 (Or.inr ⟨hin, rfl⟩) rfl rfl (Nat.le_of_ble_eq_true rfl) dX1_init_16 (fun H locs hP hD hS => ?_)
  refine lv_aload_n S.1 S.2.1 dX1_init_19 rfl (lv_at hl 0 rfl) ?_
  refine lv_bipush (v := 10) S.1 S.2.1 dX1_init_20 rfl ?_
  refine n_newa (N' := 10) (a0 := (10, .inl (fun _ => 0))) (atype := .int) (ty := .int) S hK hP hD hS hA 1 (S.2.2.2.2 (.arrayClass .int) (by decide +kernel)) rfl (fun cA h => Option.some.inj (h.symm.trans (hK.2 0 _ rfl).2)) (fun cA => rfl) (by decide +kernel) (by decide +kernel) (Nat.le_of_ble_eq_true rfl) (Nat.le_of_ble_eq_true rfl) (Nat.le_of_ble_eq_true rfl) dX1_init_22 (fun q3 H hP hD hS => ?_)
  have hP : va_P D vwCl ((h0, .inr (1, _)) :: (_ ++ _)) H := hP
  have hD : va_D A ((h0, .inr (1, _)) :: (_ ++ _)) := hD
  refine n_put S hK hP hD hS 5 inX1 rfl f18 rfl (by decide) tyX1 tyX1_ok nmX1 (Or.inr ⟨hin, rfl⟩) rfl rfl (Nat.le_of_ble_eq_true rfl) dX1_init_24 (fun H locs hP hD hS => ?_)
  refine lv_aload_n S.1 S.2.1 dX1_init_27 rfl (lv_at hl 0 rfl) ?_
  refine lv_bipush (v := 10) S.1 S.2.1 dX1_init_28 rfl ?_
  refine n_newa (N' := 10) (a0 := (10, .inl (fun _ => 0))) (atype := .int) (ty := .int) S hK hP hD hS hA 1 (S.2.2.2.2 (.arrayClass .int) (by decide +kernel)) rfl (fun cA h => Option.some.inj (h.symm.trans (hK.2 0 _ rfl).2)) (fun cA => rfl) (by decide +kernel) (by decide +kernel) (Nat.le_of_ble_eq_true rfl) (Nat.le_of_ble_eq_true rfl) (Nat.le_of_ble_eq_true rfl) dX1_init_30 (fun q4 H hP hD hS => ?_)
  have hP : va_P D vwCl ((h0, .inr (1, _)) :: (_ ++ _)) H := hP
  have hD : va_D A ((h0, .inr (1, _)) :: (_ ++ _)) := hD
  refine n_put S hK hP hD hS 6 inX1 rfl f21 rfl (by decide) tyX1 tyX1_ok nmX1 (Or.inr ⟨hin, rfl⟩) rfl rfl (Nat.le_of_ble_eq_true rfl) dX1_init_32 (fun H locs hP hD hS => ?_)
  refine lv_aload_n S.1 S.2.1 dX1_init_35 rfl (lv_at hl 0 rfl) ?_
  refine lv_bipush (v := 24) S.1 S.2.1 dX1_init_36 rfl ?_
  refine n_newa (N' := 24) (a0 := (24, .inl (fun _ => 0))) (atype := .int) (ty := .int) S hK hP hD hS hA 1 (S.2.2.2.2 (.arrayClass .int) (by decide +kernel)) rfl (fun cA h => Option.some.inj (h.symm.trans (hK.2 0 _ rfl).2)) (fun cA => rfl) (by decide +kernel) (by decide +kernel) (Nat.le_of_ble_eq_true rfl) (Nat.le_of_ble_eq_true rfl) (Nat.le_of_ble_eq_true rfl) dX1_init_38 (fun q5 H hP hD hS => ?_)
  have hP : va_P D vwCl ((h0, .inr (1, _)) :: (_ ++ _)) H := hP
  have hD : va_D A ((h0, .inr (1, _)) :: (_ ++ _)) := hD
  refine n_put S hK hP hD hS 7 inX1 rfl f24 rfl (by decide) tyX1 tyX1_ok nmX1 (Or.inr ⟨hin, rfl⟩) rfl rfl (Nat.le_of_ble_eq_true rfl) dX1_init_40 (fun H locs hP hD hS => ?_)
  refine lv_aload_n S.1 S.2.1 dX1_init_43 rfl (lv_at hl 0 rfl) ?_
  refine lv_sipush (v := 1024) S.1 S.2.1 dX1_init_44 rfl ?_
  refine n_newa (N' := 1024) (a0 := (1024, .inl (fun _ => 0))) (atype := .int) (ty := .int) S hK hP hD hS hA 1 (S.2.2.2.2 (.arrayClass .int) (by decide +kernel)) rfl (fun cA h => Option.some.inj (h.symm.trans (hK.2 0 _ rfl).2)) (fun cA => rfl) (by decide +kernel) (by decide +kernel) (Nat.le_of_ble_eq_true rfl) (Nat.le_of_ble_eq_true rfl) (Nat.le_of_ble_eq_true rfl) dX1_init_47 (fun q6 H hP hD hS => ?_)
  have hP : va_P D vwCl ((h0, .inr (1, _)) :: (_ ++ _)) H := hP
  have hD : va_D A ((h0, .inr (1, _)) :: (_ ++ _)) := hD
  refine n_put S hK hP hD hS 8 inX1 rfl f27 rfl (by decide) tyX1 tyX1_ok nmX1 (Or.inr ⟨hin, rfl⟩) rfl rfl (Nat.le_of_ble_eq_true rfl) dX1_init_49 (fun H locs hP hD hS => ?_)
  refine lv_aload_n S.1 S.2.1 dX1_init_52 rfl (lv_at hl 0 rfl) ?_
  refine lv_sipush (v := 1024) S.1 S.2.1 dX1_init_53 rfl ?_
  refine n_newa (N' := 1024) (a0 := (1024, .inl (fun _ => 0))) (atype := .boolean) (ty := .boolean) S hK hP hD hS hA 2 (S.2.2.2.2 (.arrayClass .boolean) (by decide +kernel)) rfl (fun cA h => Option.some.inj (h.symm.trans (hK.2 1 _ rfl).2)) (fun cA => rfl) (by decide +kernel) (by decide +kernel) (Nat.le_of_ble_eq_true rfl) (Nat.le_of_ble_eq_true rfl) (Nat.le_of_ble_eq_true rfl) dX1_init_56 (fun q7 H hP hD hS => ?_)
  have hP : va_P D vwCl ((h0, .inr (1, _)) :: (_ ++ _)) H := hP
  have hD : va_D A ((h0, .inr (1, _)) :: (_ ++ _)) := hD
  refine n_put S hK hP hD hS 9 inX1 rfl f30 rfl (by decide) tyX1 tyX1_ok nmX1 (Or.inr ⟨hin, rfl⟩) rfl rfl (Nat.le_of_ble_eq_true rfl) dX1_init_58 (fun H locs hP hD hS => ?_)
  refine lv_aload_n S.1 S.2.1 dX1_init_61 rfl (lv_at hl 0 rfl) ?_
  refine lv_sipush (v := 1024) S.1 S.2.1 dX1_init_62 rfl ?_
  refine n_newa (N' := 1024) (a0 := (1024, .inl (fun _ => 0))) (atype := .boolean) (ty := .boolean) S hK hP hD hS hA 2 (S.2.2.2.2 (.arrayClass .boolean) (by decide +kernel)) rfl (fun cA h => Option.some.inj (h.symm.trans (hK.2 1 _ rfl).2)) (fun cA => rfl) (by decide +kernel) (by decide +kernel) (Nat.le_of_ble_eq_true rfl) (Nat.le_of_ble_eq_true rfl) (Nat.le_of_ble_eq_true rfl) dX1_init_65 (fun q8 H hP hD hS => ?_)
  have hP : va_P D vwCl ((h0, .inr (1, _)) :: (_ ++ _)) H := hP
  have hD : va_D A ((h0, .inr (1, _)) :: (_ ++ _)) := hD
  refine n_put S hK hP hD hS 10 inX1 rfl f34 rfl (by decide) tyX1 tyX1_ok nmX1 (Or.inr ⟨hin, rfl⟩) rfl rfl (Nat.le_of_ble_eq_true rfl) dX1_init_67 (fun H locs hP hD hS => ?_)
  refine lv_aload_n S.1 S.2.1 dX1_init_70 rfl (lv_at hl 0 rfl) ?_
  refine lv_sipush (v := 1024) S.1 S.2.1 dX1_init_71 rfl ?_
  refine n_newa (N' := 1024) (a0 := (1024, .inl (fun _ => 0))) (atype := .int) (ty := .int) S hK hP hD hS hA 1 (S.2.2.2.2 (.arrayClass .int) (by decide +kernel)) rfl (fun cA h => Option.some.inj (h.symm.trans (hK.2 0 _ rfl).2)) (fun cA => rfl) (by decide +kernel) (by decide +kernel) (Nat.le_of_ble_eq_true rfl) (Nat.le_of_ble_eq_true rfl) (Nat.le_of_ble_eq_true rfl) dX1_init_74 (fun q9 H hP hD hS => ?_)
  have hP : va_P D vwCl ((h0, .inr (1, _)) :: (_ ++ _)) H := hP
  have hD : va_D A ((h0, .inr (1, _)) :: (_ ++ _)) := hD
  refine n_put S hK hP hD hS 11 inX1 rfl f37 rfl (by decide) tyX1 tyX1_ok nmX1 (Or.inr ⟨hin, rfl⟩) rfl rfl (Nat.le_of_ble_eq_true rfl) dX1_init_76 (fun H locs hP hD hS => ?_)
  refine lv_aload_n S.1 S.2.1 dX1_init_79 rfl (lv_at hl 0 rfl) ?_
  refine lv_iconst (v := -1) S.1 S.2.1 dX1_init_80 rfl ?_
  refine n_put S hK hP hD hS 12 inX1 rfl f40 rfl (by decide) tyX1 tyX1_ok nmX1 (Or.inr ⟨hin, rfl⟩) rfl rfl (Nat.le_of_ble_eq_true rfl) dX1_init_81 (fun H locs hP hD hS => ?_)
  obtain ⟨σ, eσ⟩ : ∃ σ : Nat → Nat, σ = fun k => [h0, q1, q2, q3, q4, q5, q6, q7, q8, q9].getD k 0 := ⟨_, rfl⟩
  refine n_vret S hr hlk hAe hP hD hS σ (by rw [eσ]; rfl) ?_ dX1_init_84
  subst eσ
  rfl
def LX0 : Lay := [(0, 0, 0, [none, some 1, some 36, some 37]), (4, 34, 2, []), (1, 34, 0, []), (1, 34, 0, []), (1, 34, 0, []), (1, 34, 0, []), (1, 34, 0, []), (1, 34, 0, []), (1, 34, 0, []), (1, 34, 0, []), (1, 34, 0, []), (1, 34, 0, []), (1, 34, 0, []), (1, 34, 0, []), (1, 34, 0, []), (1, 34, 0, []), (1, 34, 0, []), (1, 34, 0, []), (1, 34, 0, []), (1, 34, 0, []), (1, 34, 0, []), (1, 34, 0, []), (1, 34, 0, []), (1, 34, 0, []), (1, 34, 0, []), (1, 34, 0, []), (1, 34, 0, []), (1, 34, 0, []), (1, 34, 0, []), (1, 34, 0, []), (1, 34, 0, []), (1, 34, 0, []), (1, 34, 0, []), (1, 34, 0, []), (1, 34, 0, []), (1, 34, 0, []), (1, 34, 0, []), (1, 34, 0, [])]
def MX0 : Mem := (fun k j => if k = 0 then (if j = 0 then 34 else 0) else 0, fun _ _ => 0)
abbrev rmX0_init : Room := { frames := 1, cells := 37, slots := 1258, locals := 12 }
set_option maxHeartbeats 1000000 in
set_option maxRecDepth 100000 in
theorem iX0 (l : Launch) (D : va_G) (T : Nat → ClassId) (h0 sz : Nat) : Met l yX0_init wsX0_init rmX0_init (preN D T [.ref h0, .int (34 : Int32)] (h0, .inr (0, [.int 0, .null, .null, .null])) sz) (postN D T LX0 MX0 (h0, .inr (0, [.int 0, .null, .null, .null])) sz) 37 1258 (va_A [(h0, .inr (0, [.int 0, .null, .null, .null]))] sz) := by
  refine n_of (cc := cX0_init) (maxL := 2) (own := RX0) (by decide) rfl rfl rfl (Nat.le_of_ble_eq_true rfl) ?_
  intro p e s m args below meth c H ls locs A S hr hlk hin hl hsz hAe hA hK hP hD hS hN hO
  subst hsz
  have hl : lv_has ls 2 [(0, .ref h0), (1, .int (34 : Int32))] := hl
  have inX0 : ∀ w ∈ u_ws RX0 TX0 4, w ∈ wsX0_init := by decide +kernel
  have f9 := S.2.2.2.2 (.fieldLink RX0 9 "MachineHall$Flow" "nodes" "I") (by decide +kernel)
  have f17 := S.2.2.2.2 (.fieldLink RX0 17 "MachineHall$Flow" "open" "[[I") (by decide +kernel)
  have f20 := S.2.2.2.2 (.fieldLink RX0 20 "MachineHall$Flow" "cameFrom" "[I") (by decide +kernel)
  have f24 := S.2.2.2.2 (.fieldLink RX0 24 "MachineHall$Flow" "reached" "[I") (by decide +kernel)
  refine lv_aload_n S.1 S.2.1 dX0_init_0 rfl (lv_at hl 0 rfl) ?_
  refine W.objInit S.1 S.2.1 S.2.2.2.1 (S.2.2.2.2 (.methodLink RX0 3 objectInit) (by decide +kernel)) (S.2.2.2.2 (.instanceMethod objectInit) (by decide +kernel)) (S.2.2.2.2 (.code objectInit ⟨#[0xb1]⟩ 1 none) (by decide +kernel)) rfl (by rw [S.2.2.1]; exact hl.1) rfl dX0_init_1 (Nat.le_of_ble_eq_true rfl) (Nat.le_of_ble_eq_true rfl) ?_
  refine W.eq (g2 := F0 m 4 ls []) rfl ?_
  refine lv_aload_n S.1 S.2.1 dX0_init_4 rfl (lv_at hl 0 rfl) ?_
  refine lv_iload_n S.1 S.2.1 dX0_init_5 rfl (lv_at hl 1 rfl) ?_
  refine n_put S hK hP hD hS 0 inX0 rfl f9 rfl (by decide) tyX0 tyX0_ok nmX0 (Or.inr ⟨hin, rfl⟩) rfl rfl (Nat.le_of_ble_eq_true rfl) dX0_init_6 (fun H locs hP hD hS => ?_)
  refine lv_aload_n S.1 S.2.1 dX0_init_9 rfl (lv_at hl 0 rfl) ?_
  refine lv_iload_n S.1 S.2.1 dX0_init_10 rfl (lv_at hl 1 rfl) ?_
  refine lv_iload_n S.1 S.2.1 dX0_init_11 rfl (lv_at hl 1 rfl) ?_
  refine n_mna (ro := T 4) (ri := T 1) (N' := 34) (K' := 34) (z := (34, .inl (fun _ => 0))) (ty := .int) S hP hD hS hA (S.2.2.2.2 (.classLink RX0 15 "[[I") (by decide +kernel)) hO.use_i (S.2.2.2.2 (.arrayClass .int) (by decide +kernel)) (hK.2 3 _ rfl).2 (hK.2 0 _ rfl).2 (by decide +kernel) (by decide +kernel) (by decide +kernel) (by decide +kernel) (Nat.le_of_ble_eq_true rfl) (Nat.le_of_ble_eq_true rfl) (Nat.le_of_ble_eq_true rfl) rfl rfl (Nat.le_of_ble_eq_true rfl) (Nat.le_of_ble_eq_true rfl) (fun c => by rw [vp_cell_i, ← arrV_new]; rfl) dX0_init_12 (fun q1 H hP hD hS => ?_)
  have hP : va_P D vwCl ((h0, .inr (0, _)) :: (_ ++ _)) H := hP
  have hD : va_D A ((h0, .inr (0, _)) :: (_ ++ _)) := hD
  refine n_put S hK hP hD hS 1 inX0 rfl f17 rfl (by decide) tyX0 tyX0_ok nmX0 (Or.inr ⟨hin, rfl⟩) rfl rfl (Nat.le_of_ble_eq_true rfl) dX0_init_16 (fun H locs hP hD hS => ?_)
  refine lv_aload_n S.1 S.2.1 dX0_init_19 rfl (lv_at hl 0 rfl) ?_
  refine lv_iload_n S.1 S.2.1 dX0_init_20 rfl (lv_at hl 1 rfl) ?_
  refine n_newa (N' := 34) (a0 := (34, .inl (fun _ => 0))) (atype := .int) (ty := .int) S hK hP hD hS hA 1 (S.2.2.2.2 (.arrayClass .int) (by decide +kernel)) rfl (fun cA h => Option.some.inj (h.symm.trans (hK.2 0 _ rfl).2)) (fun cA => rfl) (by decide +kernel) (by decide +kernel) (Nat.le_of_ble_eq_true rfl) (Nat.le_of_ble_eq_true rfl) (Nat.le_of_ble_eq_true rfl) dX0_init_21 (fun q36 H hP hD hS => ?_)
  have hP : va_P D vwCl ((h0, .inr (0, _)) :: (_ ++ _)) H := hP
  have hD : va_D A ((h0, .inr (0, _)) :: (_ ++ _)) := hD
  refine n_put S hK hP hD hS 2 inX0 rfl f20 rfl (by decide) tyX0 tyX0_ok nmX0 (Or.inr ⟨hin, rfl⟩) rfl rfl (Nat.le_of_ble_eq_true rfl) dX0_init_23 (fun H locs hP hD hS => ?_)
  refine lv_aload_n S.1 S.2.1 dX0_init_26 rfl (lv_at hl 0 rfl) ?_
  refine lv_iload_n S.1 S.2.1 dX0_init_27 rfl (lv_at hl 1 rfl) ?_
  refine n_newa (N' := 34) (a0 := (34, .inl (fun _ => 0))) (atype := .int) (ty := .int) S hK hP hD hS hA 1 (S.2.2.2.2 (.arrayClass .int) (by decide +kernel)) rfl (fun cA h => Option.some.inj (h.symm.trans (hK.2 0 _ rfl).2)) (fun cA => rfl) (by decide +kernel) (by decide +kernel) (Nat.le_of_ble_eq_true rfl) (Nat.le_of_ble_eq_true rfl) (Nat.le_of_ble_eq_true rfl) dX0_init_28 (fun q37 H hP hD hS => ?_)
  have hP : va_P D vwCl ((h0, .inr (0, _)) :: (_ ++ _)) H := hP
  have hD : va_D A ((h0, .inr (0, _)) :: (_ ++ _)) := hD
  refine n_put S hK hP hD hS 3 inX0 rfl f24 rfl (by decide) tyX0 tyX0_ok nmX0 (Or.inr ⟨hin, rfl⟩) rfl rfl (Nat.le_of_ble_eq_true rfl) dX0_init_30 (fun H locs hP hD hS => ?_)
  obtain ⟨σ, eσ⟩ : ∃ σ : Nat → Nat, σ = fun k => [h0, q1, (q1 + 1 + 0), (q1 + 1 + 1), (q1 + 1 + 2), (q1 + 1 + 3), (q1 + 1 + 4), (q1 + 1 + 5), (q1 + 1 + 6), (q1 + 1 + 7), (q1 + 1 + 8), (q1 + 1 + 9), (q1 + 1 + 10), (q1 + 1 + 11), (q1 + 1 + 12), (q1 + 1 + 13), (q1 + 1 + 14), (q1 + 1 + 15), (q1 + 1 + 16), (q1 + 1 + 17), (q1 + 1 + 18), (q1 + 1 + 19), (q1 + 1 + 20), (q1 + 1 + 21), (q1 + 1 + 22), (q1 + 1 + 23), (q1 + 1 + 24), (q1 + 1 + 25), (q1 + 1 + 26), (q1 + 1 + 27), (q1 + 1 + 28), (q1 + 1 + 29), (q1 + 1 + 30), (q1 + 1 + 31), (q1 + 1 + 32), (q1 + 1 + 33), q36, q37].getD k 0 := ⟨_, rfl⟩
  have g0 : ∀ i, i < 34 → σ (2 + i) = q1 + 1 + i := fun i hi => by
    subst eσ
    match i, hi with
    | 0, _ => rfl
    | 1, _ => rfl
    | 2, _ => rfl
    | 3, _ => rfl
    | 4, _ => rfl
    | 5, _ => rfl
    | 6, _ => rfl
    | 7, _ => rfl
    | 8, _ => rfl
    | 9, _ => rfl
    | 10, _ => rfl
    | 11, _ => rfl
    | 12, _ => rfl
    | 13, _ => rfl
    | 14, _ => rfl
    | 15, _ => rfl
    | 16, _ => rfl
    | 17, _ => rfl
    | 18, _ => rfl
    | 19, _ => rfl
    | 20, _ => rfl
    | 21, _ => rfl
    | 22, _ => rfl
    | 23, _ => rfl
    | 24, _ => rfl
    | 25, _ => rfl
    | 26, _ => rfl
    | 27, _ => rfl
    | 28, _ => rfl
    | 29, _ => rfl
    | 30, _ => rfl
    | 31, _ => rfl
    | 32, _ => rfl
    | 33, _ => rfl
    | n + 34, h => exact absurd h (by omega)
  rw [n_grid g0] at hP hD
  refine n_vret S hr hlk hAe hP hD hS σ (by rw [eσ]; rfl) ?_ dX0_init_33
  subst eσ
  rfl
def LX5 : Lay := [(0, 5, 0, [none, none, none, none, none, some 1]), (1, 20, 0, [])]
def MX5 : Mem := Z0
abbrev rmX5_init : Room := { frames := 1, cells := 1, slots := 20, locals := 12 }
set_option maxHeartbeats 1000000 in
set_option maxRecDepth 100000 in
theorem iX5 (l : Launch) (D : va_G) (T : Nat → ClassId) (h0 sz : Nat) : Met l yX5_init wsX5_init rmX5_init (preN D T [.ref h0] (h0, .inr (5, [.int 0, .int 0, .int 0, .int 0, .int 0, .null])) sz) (postN D T LX5 MX5 (h0, .inr (5, [.int 0, .int 0, .int 0, .int 0, .int 0, .null])) sz) 1 20 (va_A [(h0, .inr (5, [.int 0, .int 0, .int 0, .int 0, .int 0, .null]))] sz) := by
  refine n_of (cc := cX5_init) (maxL := 1) (own := RX5) (by decide) rfl rfl rfl (Nat.le_of_ble_eq_true rfl) ?_
  intro p e s m args below meth c H ls locs A S hr hlk hin hl hsz hAe hA hK hP hD hS hN hO
  subst hsz
  have hl : lv_has ls 1 [(0, .ref h0)] := hl
  have inX5 : ∀ w ∈ u_ws RX5 TX5 6, w ∈ wsX5_init := by decide +kernel
  have f9 := S.2.2.2.2 (.fieldLink RX5 9 "MachineHall$Waiting" "freeAt" "[I") (by decide +kernel)
  refine lv_aload_n S.1 S.2.1 dX5_init_0 rfl (lv_at hl 0 rfl) ?_
  refine W.objInit S.1 S.2.1 S.2.2.2.1 (S.2.2.2.2 (.methodLink RX5 1 objectInit) (by decide +kernel)) (S.2.2.2.2 (.instanceMethod objectInit) (by decide +kernel)) (S.2.2.2.2 (.code objectInit ⟨#[0xb1]⟩ 1 none) (by decide +kernel)) rfl (by rw [S.2.2.1]; exact hl.1) rfl dX5_init_1 (Nat.le_of_ble_eq_true rfl) (Nat.le_of_ble_eq_true rfl) ?_
  refine W.eq (g2 := F0 m 4 ls []) rfl ?_
  refine lv_aload_n S.1 S.2.1 dX5_init_4 rfl (lv_at hl 0 rfl) ?_
  refine lv_bipush (v := 20) S.1 S.2.1 dX5_init_5 rfl ?_
  refine n_newa (N' := 20) (a0 := (20, .inl (fun _ => 0))) (atype := .int) (ty := .int) S hK hP hD hS hA 1 (S.2.2.2.2 (.arrayClass .int) (by decide +kernel)) rfl (fun cA h => Option.some.inj (h.symm.trans (hK.2 0 _ rfl).2)) (fun cA => rfl) (by decide +kernel) (by decide +kernel) (Nat.le_of_ble_eq_true rfl) (Nat.le_of_ble_eq_true rfl) (Nat.le_of_ble_eq_true rfl) dX5_init_7 (fun q1 H hP hD hS => ?_)
  have hP : va_P D vwCl ((h0, .inr (5, _)) :: (_ ++ _)) H := hP
  have hD : va_D A ((h0, .inr (5, _)) :: (_ ++ _)) := hD
  refine n_put S hK hP hD hS 5 inX5 rfl f9 rfl (by decide) tyX5 tyX5_ok nmX5 (Or.inr ⟨hin, rfl⟩) rfl rfl (Nat.le_of_ble_eq_true rfl) dX5_init_9 (fun H locs hP hD hS => ?_)
  obtain ⟨σ, eσ⟩ : ∃ σ : Nat → Nat, σ = fun k => [h0, q1].getD k 0 := ⟨_, rfl⟩
  refine n_vret S hr hlk hAe hP hD hS σ (by rw [eσ]; rfl) ?_ dX5_init_12
  subst eσ
  rfl
def LX2 : Lay := [(0, 2, 0, [none, none, some 1, none, some 14, some 15, some 16, some 17, some 18, some 23, some 24, none]), (4, 12, 2, []), (1, 4, 0, []), (1, 4, 0, []), (1, 4, 0, []), (1, 4, 0, []), (1, 4, 0, []), (1, 4, 0, []), (1, 4, 0, []), (1, 4, 0, []), (1, 4, 0, []), (1, 4, 0, []), (1, 4, 0, []), (1, 4, 0, []), (1, 12, 0, []), (1, 4, 0, []), (1, 4, 0, []), (1, 4, 0, []), (4, 4, 19, []), (1, 12, 0, []), (1, 12, 0, []), (1, 12, 0, []), (1, 12, 0, []), (1, 501, 0, []), (3, 384, 0, [])]
def MX2 : Mem := Z0
abbrev rmX2_init : Room := { frames := 1, cells := 24, slots := 1021, locals := 12 }
set_option maxHeartbeats 1000000 in
set_option maxRecDepth 100000 in
theorem iX2 (l : Launch) (D : va_G) (T : Nat → ClassId) (h0 sz : Nat) : Met l yX2_init wsX2_init rmX2_init (preN D T [.ref h0] (h0, .inr (2, [.int 0, .int 0, .null, .int 0, .null, .null, .null, .null, .null, .null, .null, .int 0])) sz) (postN D T LX2 MX2 (h0, .inr (2, [.int 0, .int 0, .null, .int 0, .null, .null, .null, .null, .null, .null, .null, .int 0])) sz) 24 1021 (va_A [(h0, .inr (2, [.int 0, .int 0, .null, .int 0, .null, .null, .null, .null, .null, .null, .null, .int 0]))] sz) := by
  refine n_of (cc := cX2_init) (maxL := 1) (own := RX2) (by decide) rfl rfl rfl (Nat.le_of_ble_eq_true rfl) ?_
  intro p e s m args below meth c H ls locs A S hr hlk hin hl hsz hAe hA hK hP hD hS hN hO
  subst hsz
  have hl : lv_has ls 1 [(0, .ref h0)] := hl
  have inX2 : ∀ w ∈ u_ws RX2 TX2 12, w ∈ wsX2_init := by decide +kernel
  have f13 := S.2.2.2.2 (.fieldLink RX2 13 "MachineHall$Market" "bought" "[[I") (by decide +kernel)
  have f16 := S.2.2.2.2 (.fieldLink RX2 16 "MachineHall$Market" "wants" "[I") (by decide +kernel)
  have f20 := S.2.2.2.2 (.fieldLink RX2 20 "MachineHall$Market" "sizes" "[I") (by decide +kernel)
  have f23 := S.2.2.2.2 (.fieldLink RX2 23 "MachineHall$Market" "leads" "[I") (by decide +kernel)
  have f26 := S.2.2.2.2 (.fieldLink RX2 26 "MachineHall$Market" "powers" "[I") (by decide +kernel)
  have f29 := S.2.2.2.2 (.fieldLink RX2 29 "MachineHall$Market" "prices" "[[I") (by decide +kernel)
  have f32 := S.2.2.2.2 (.fieldLink RX2 32 "MachineHall$Market" "toPay" "[I") (by decide +kernel)
  have f35 := S.2.2.2.2 (.fieldLink RX2 35 "MachineHall$Market" "oneMore" "[J") (by decide +kernel)
  refine lv_aload_n S.1 S.2.1 dX2_init_0 rfl (lv_at hl 0 rfl) ?_
  refine W.objInit S.1 S.2.1 S.2.2.2.1 (S.2.2.2.2 (.methodLink RX2 5 objectInit) (by decide +kernel)) (S.2.2.2.2 (.instanceMethod objectInit) (by decide +kernel)) (S.2.2.2.2 (.code objectInit ⟨#[0xb1]⟩ 1 none) (by decide +kernel)) rfl (by rw [S.2.2.1]; exact hl.1) rfl dX2_init_1 (Nat.le_of_ble_eq_true rfl) (Nat.le_of_ble_eq_true rfl) ?_
  refine W.eq (g2 := F0 m 4 ls []) rfl ?_
  refine lv_aload_n S.1 S.2.1 dX2_init_4 rfl (lv_at hl 0 rfl) ?_
  refine lv_bipush (v := 12) S.1 S.2.1 dX2_init_5 rfl ?_
  refine lv_iconst (v := 4) S.1 S.2.1 dX2_init_7 rfl ?_
  refine n_mna (ro := T 4) (ri := T 1) (N' := 12) (K' := 4) (z := (4, .inl (fun _ => 0))) (ty := .int) S hP hD hS hA (S.2.2.2.2 (.classLink RX2 11 "[[I") (by decide +kernel)) hO.use_i (S.2.2.2.2 (.arrayClass .int) (by decide +kernel)) (hK.2 3 _ rfl).2 (hK.2 0 _ rfl).2 (by decide +kernel) (by decide +kernel) (by decide +kernel) (by decide +kernel) (Nat.le_of_ble_eq_true rfl) (Nat.le_of_ble_eq_true rfl) (Nat.le_of_ble_eq_true rfl) rfl rfl (Nat.le_of_ble_eq_true rfl) (Nat.le_of_ble_eq_true rfl) (fun c => by rw [vp_cell_i, ← arrV_new]; rfl) dX2_init_8 (fun q1 H hP hD hS => ?_)
  have hP : va_P D vwCl ((h0, .inr (2, _)) :: (_ ++ _)) H := hP
  have hD : va_D A ((h0, .inr (2, _)) :: (_ ++ _)) := hD
  refine n_put S hK hP hD hS 2 inX2 rfl f13 rfl (by decide) tyX2 tyX2_ok nmX2 (Or.inr ⟨hin, rfl⟩) rfl rfl (Nat.le_of_ble_eq_true rfl) dX2_init_12 (fun H locs hP hD hS => ?_)
  refine lv_aload_n S.1 S.2.1 dX2_init_15 rfl (lv_at hl 0 rfl) ?_
  refine lv_bipush (v := 12) S.1 S.2.1 dX2_init_16 rfl ?_
  refine n_newa (N' := 12) (a0 := (12, .inl (fun _ => 0))) (atype := .int) (ty := .int) S hK hP hD hS hA 1 (S.2.2.2.2 (.arrayClass .int) (by decide +kernel)) rfl (fun cA h => Option.some.inj (h.symm.trans (hK.2 0 _ rfl).2)) (fun cA => rfl) (by decide +kernel) (by decide +kernel) (Nat.le_of_ble_eq_true rfl) (Nat.le_of_ble_eq_true rfl) (Nat.le_of_ble_eq_true rfl) dX2_init_18 (fun q14 H hP hD hS => ?_)
  have hP : va_P D vwCl ((h0, .inr (2, _)) :: (_ ++ _)) H := hP
  have hD : va_D A ((h0, .inr (2, _)) :: (_ ++ _)) := hD
  refine n_put S hK hP hD hS 4 inX2 rfl f16 rfl (by decide) tyX2 tyX2_ok nmX2 (Or.inr ⟨hin, rfl⟩) rfl rfl (Nat.le_of_ble_eq_true rfl) dX2_init_20 (fun H locs hP hD hS => ?_)
  refine lv_aload_n S.1 S.2.1 dX2_init_23 rfl (lv_at hl 0 rfl) ?_
  refine lv_iconst (v := 4) S.1 S.2.1 dX2_init_24 rfl ?_
  refine n_newa (N' := 4) (a0 := (4, .inl (fun _ => 0))) (atype := .int) (ty := .int) S hK hP hD hS hA 1 (S.2.2.2.2 (.arrayClass .int) (by decide +kernel)) rfl (fun cA h => Option.some.inj (h.symm.trans (hK.2 0 _ rfl).2)) (fun cA => rfl) (by decide +kernel) (by decide +kernel) (Nat.le_of_ble_eq_true rfl) (Nat.le_of_ble_eq_true rfl) (Nat.le_of_ble_eq_true rfl) dX2_init_25 (fun q15 H hP hD hS => ?_)
  have hP : va_P D vwCl ((h0, .inr (2, _)) :: (_ ++ _)) H := hP
  have hD : va_D A ((h0, .inr (2, _)) :: (_ ++ _)) := hD
  refine n_put S hK hP hD hS 5 inX2 rfl f20 rfl (by decide) tyX2 tyX2_ok nmX2 (Or.inr ⟨hin, rfl⟩) rfl rfl (Nat.le_of_ble_eq_true rfl) dX2_init_27 (fun H locs hP hD hS => ?_)
  refine lv_aload_n S.1 S.2.1 dX2_init_30 rfl (lv_at hl 0 rfl) ?_
  refine lv_iconst (v := 4) S.1 S.2.1 dX2_init_31 rfl ?_
  refine n_newa (N' := 4) (a0 := (4, .inl (fun _ => 0))) (atype := .int) (ty := .int) S hK hP hD hS hA 1 (S.2.2.2.2 (.arrayClass .int) (by decide +kernel)) rfl (fun cA h => Option.some.inj (h.symm.trans (hK.2 0 _ rfl).2)) (fun cA => rfl) (by decide +kernel) (by decide +kernel) (Nat.le_of_ble_eq_true rfl) (Nat.le_of_ble_eq_true rfl) (Nat.le_of_ble_eq_true rfl) dX2_init_32 (fun q16 H hP hD hS => ?_)
  have hP : va_P D vwCl ((h0, .inr (2, _)) :: (_ ++ _)) H := hP
  have hD : va_D A ((h0, .inr (2, _)) :: (_ ++ _)) := hD
  refine n_put S hK hP hD hS 6 inX2 rfl f23 rfl (by decide) tyX2 tyX2_ok nmX2 (Or.inr ⟨hin, rfl⟩) rfl rfl (Nat.le_of_ble_eq_true rfl) dX2_init_34 (fun H locs hP hD hS => ?_)
  refine lv_aload_n S.1 S.2.1 dX2_init_37 rfl (lv_at hl 0 rfl) ?_
  refine lv_iconst (v := 4) S.1 S.2.1 dX2_init_38 rfl ?_
  refine n_newa (N' := 4) (a0 := (4, .inl (fun _ => 0))) (atype := .int) (ty := .int) S hK hP hD hS hA 1 (S.2.2.2.2 (.arrayClass .int) (by decide +kernel)) rfl (fun cA h => Option.some.inj (h.symm.trans (hK.2 0 _ rfl).2)) (fun cA => rfl) (by decide +kernel) (by decide +kernel) (Nat.le_of_ble_eq_true rfl) (Nat.le_of_ble_eq_true rfl) (Nat.le_of_ble_eq_true rfl) dX2_init_39 (fun q17 H hP hD hS => ?_)
  have hP : va_P D vwCl ((h0, .inr (2, _)) :: (_ ++ _)) H := hP
  have hD : va_D A ((h0, .inr (2, _)) :: (_ ++ _)) := hD
  refine n_put S hK hP hD hS 7 inX2 rfl f26 rfl (by decide) tyX2 tyX2_ok nmX2 (Or.inr ⟨hin, rfl⟩) rfl rfl (Nat.le_of_ble_eq_true rfl) dX2_init_41 (fun H locs hP hD hS => ?_)
  refine lv_aload_n S.1 S.2.1 dX2_init_44 rfl (lv_at hl 0 rfl) ?_
  refine lv_iconst (v := 4) S.1 S.2.1 dX2_init_45 rfl ?_
  refine lv_bipush (v := 12) S.1 S.2.1 dX2_init_46 rfl ?_
  refine n_mna (ro := T 4) (ri := T 1) (N' := 4) (K' := 12) (z := (12, .inl (fun _ => 0))) (ty := .int) S hP hD hS hA (S.2.2.2.2 (.classLink RX2 11 "[[I") (by decide +kernel)) hO.use_i (S.2.2.2.2 (.arrayClass .int) (by decide +kernel)) (hK.2 3 _ rfl).2 (hK.2 0 _ rfl).2 (by decide +kernel) (by decide +kernel) (by decide +kernel) (by decide +kernel) (Nat.le_of_ble_eq_true rfl) (Nat.le_of_ble_eq_true rfl) (Nat.le_of_ble_eq_true rfl) rfl rfl (Nat.le_of_ble_eq_true rfl) (Nat.le_of_ble_eq_true rfl) (fun c => by rw [vp_cell_i, ← arrV_new]; rfl) dX2_init_48 (fun q18 H hP hD hS => ?_)
  have hP : va_P D vwCl ((h0, .inr (2, _)) :: (_ ++ _)) H := hP
  have hD : va_D A ((h0, .inr (2, _)) :: (_ ++ _)) := hD
  refine n_put S hK hP hD hS 8 inX2 rfl f29 rfl (by decide) tyX2 tyX2_ok nmX2 (Or.inr ⟨hin, rfl⟩) rfl rfl (Nat.le_of_ble_eq_true rfl) dX2_init_52 (fun H locs hP hD hS => ?_)
  refine lv_aload_n S.1 S.2.1 dX2_init_55 rfl (lv_at hl 0 rfl) ?_
  refine lv_sipush (v := 501) S.1 S.2.1 dX2_init_56 rfl ?_
  refine n_newa (N' := 501) (a0 := (501, .inl (fun _ => 0))) (atype := .int) (ty := .int) S hK hP hD hS hA 1 (S.2.2.2.2 (.arrayClass .int) (by decide +kernel)) rfl (fun cA h => Option.some.inj (h.symm.trans (hK.2 0 _ rfl).2)) (fun cA => rfl) (by decide +kernel) (by decide +kernel) (Nat.le_of_ble_eq_true rfl) (Nat.le_of_ble_eq_true rfl) (Nat.le_of_ble_eq_true rfl) dX2_init_59 (fun q23 H hP hD hS => ?_)
  have hP : va_P D vwCl ((h0, .inr (2, _)) :: (_ ++ _)) H := hP
  have hD : va_D A ((h0, .inr (2, _)) :: (_ ++ _)) := hD
  refine n_put S hK hP hD hS 9 inX2 rfl f32 rfl (by decide) tyX2 tyX2_ok nmX2 (Or.inr ⟨hin, rfl⟩) rfl rfl (Nat.le_of_ble_eq_true rfl) dX2_init_61 (fun H locs hP hD hS => ?_)
  refine lv_aload_n S.1 S.2.1 dX2_init_64 rfl (lv_at hl 0 rfl) ?_
  refine lv_sipush (v := 384) S.1 S.2.1 dX2_init_65 rfl ?_
  refine n_newa (N' := 384) (a0 := (384, .inr (.inl (fun _ => 0)))) (atype := .long) (ty := .long) S hK hP hD hS hA 3 (S.2.2.2.2 (.arrayClass .long) (by decide +kernel)) rfl (fun cA h => Option.some.inj (h.symm.trans (hK.2 2 _ rfl).2)) (fun cA => rfl) (by decide +kernel) (by decide +kernel) (Nat.le_of_ble_eq_true rfl) (Nat.le_of_ble_eq_true rfl) (Nat.le_of_ble_eq_true rfl) dX2_init_68 (fun q24 H hP hD hS => ?_)
  have hP : va_P D vwCl ((h0, .inr (2, _)) :: (_ ++ _)) H := hP
  have hD : va_D A ((h0, .inr (2, _)) :: (_ ++ _)) := hD
  refine n_put S hK hP hD hS 10 inX2 rfl f35 rfl (by decide) tyX2 tyX2_ok nmX2 (Or.inr ⟨hin, rfl⟩) rfl rfl (Nat.le_of_ble_eq_true rfl) dX2_init_70 (fun H locs hP hD hS => ?_)
  obtain ⟨σ, eσ⟩ : ∃ σ : Nat → Nat, σ = fun k => [h0, q1, (q1 + 1 + 0), (q1 + 1 + 1), (q1 + 1 + 2), (q1 + 1 + 3), (q1 + 1 + 4), (q1 + 1 + 5), (q1 + 1 + 6), (q1 + 1 + 7), (q1 + 1 + 8), (q1 + 1 + 9), (q1 + 1 + 10), (q1 + 1 + 11), q14, q15, q16, q17, q18, (q18 + 1 + 0), (q18 + 1 + 1), (q18 + 1 + 2), (q18 + 1 + 3), q23, q24].getD k 0 := ⟨_, rfl⟩
  have g0 : ∀ i, i < 12 → σ (2 + i) = q1 + 1 + i := fun i hi => by
    subst eσ
    match i, hi with
    | 0, _ => rfl
    | 1, _ => rfl
    | 2, _ => rfl
    | 3, _ => rfl
    | 4, _ => rfl
    | 5, _ => rfl
    | 6, _ => rfl
    | 7, _ => rfl
    | 8, _ => rfl
    | 9, _ => rfl
    | 10, _ => rfl
    | 11, _ => rfl
    | n + 12, h => exact absurd h (by omega)
  rw [n_grid g0] at hP hD
  have g1 : ∀ i, i < 4 → σ (19 + i) = q18 + 1 + i := fun i hi => by
    subst eσ
    match i, hi with
    | 0, _ => rfl
    | 1, _ => rfl
    | 2, _ => rfl
    | 3, _ => rfl
    | n + 4, h => exact absurd h (by omega)
  rw [n_grid g1] at hP hD
  refine n_vret S hr hlk hAe hP hD hS σ (by rw [eσ]; rfl) ?_ dX2_init_73
  subst eσ
  rfl
abbrev LX3a : Lay := [(0, 3, 0, [none, none, some 1, some 10, some 11, some 12, some 13, some 14, none]), (4, 8, 2, []), (1, 24, 0, []), (1, 24, 0, []), (1, 24, 0, []), (1, 24, 0, []), (1, 24, 0, []), (1, 24, 0, []), (1, 24, 0, []), (1, 24, 0, []), (1, 8, 0, []), (1, 8, 0, []), (1, 8, 0, []), (1, 8, 0, [])]
def LX3 : Lay := [(0, 3, 0, [none, none, some 1, some 10, some 11, some 12, some 13, some 14, none]), (4, 8, 2, []), (1, 24, 0, []), (1, 24, 0, []), (1, 24, 0, []), (1, 24, 0, []), (1, 24, 0, []), (1, 24, 0, []), (1, 24, 0, []), (1, 24, 0, []), (1, 8, 0, []), (1, 8, 0, []), (1, 8, 0, []), (1, 8, 0, []), (0, 0, 0, [none, some 15, some 50, some 51]), (4, 34, 16, []), (1, 34, 0, []), (1, 34, 0, []), (1, 34, 0, []), (1, 34, 0, []), (1, 34, 0, []), (1, 34, 0, []), (1, 34, 0, []), (1, 34, 0, []), (1, 34, 0, []), (1, 34, 0, []), (1, 34, 0, []), (1, 34, 0, []), (1, 34, 0, []), (1, 34, 0, []), (1, 34, 0, []), (1, 34, 0, []), (1, 34, 0, []), (1, 34, 0, []), (1, 34, 0, []), (1, 34, 0, []), (1, 34, 0, []), (1, 34, 0, []), (1, 34, 0, []), (1, 34, 0, []), (1, 34, 0, []), (1, 34, 0, []), (1, 34, 0, []), (1, 34, 0, []), (1, 34, 0, []), (1, 34, 0, []), (1, 34, 0, []), (1, 34, 0, []), (1, 34, 0, []), (1, 34, 0, []), (1, 34, 0, []), (1, 34, 0, [])]
def MX3 : Mem := glueM 14 (fun k j => if k = 0 then (if j = 8 then -1 else 0) else 0, fun _ _ => 0) MX0
abbrev rmX3_init : Room := { frames := 2, cells := 51, slots := 1494, locals := 33 }
set_option maxHeartbeats 1000000 in
set_option maxRecDepth 100000 in
theorem iX3 (l : Launch) (D : va_G) (T : Nat → ClassId) (h0 sz : Nat) : Met l yX3_init wsX3_init rmX3_init (preN D T [.ref h0] (h0, .inr (3, [.int 0, .int 0, .null, .null, .null, .null, .null, .null, .int 0])) sz) (postN D T LX3 MX3 (h0, .inr (3, [.int 0, .int 0, .null, .null, .null, .null, .null, .null, .int 0])) sz) 51 1494 (va_A [(h0, .inr (3, [.int 0, .int 0, .null, .null, .null, .null, .null, .null, .int 0]))] sz) := by
  refine n_of (cc := cX3_init) (maxL := 1) (own := RX3) (by decide) rfl rfl rfl (Nat.le_of_ble_eq_true rfl) ?_
  intro p e s m args below meth c H ls locs A S hr hlk hin hl hsz hAe hA hK hP hD hS hN hO
  subst hsz
  have hl : lv_has ls 1 [(0, .ref h0)] := hl
  have inX3 : ∀ w ∈ u_ws RX3 TX3 9, w ∈ wsX3_init := by decide +kernel
  have f13 := S.2.2.2.2 (.fieldLink RX3 13 "MachineHall$Plan" "parts" "[[I") (by decide +kernel)
  have f16 := S.2.2.2.2 (.fieldLink RX3 16 "MachineHall$Plan" "works" "[I") (by decide +kernel)
  have f20 := S.2.2.2.2 (.fieldLink RX3 20 "MachineHall$Plan" "froms" "[I") (by decide +kernel)
  have f23 := S.2.2.2.2 (.fieldLink RX3 23 "MachineHall$Plan" "dues" "[I") (by decide +kernel)
  have f26 := S.2.2.2.2 (.fieldLink RX3 26 "MachineHall$Plan" "mosts" "[I") (by decide +kernel)
  have f34 := S.2.2.2.2 (.fieldLink RX3 34 "MachineHall$Plan" "flow" "LMachineHall$Flow;") (by decide +kernel)
  have f38 := S.2.2.2.2 (.fieldLink RX3 38 "MachineHall$Plan" "laidFor" "I") (by decide +kernel)
  refine lv_aload_n S.1 S.2.1 dX3_init_0 rfl (lv_at hl 0 rfl) ?_
  refine W.objInit S.1 S.2.1 S.2.2.2.1 (S.2.2.2.2 (.methodLink RX3 5 objectInit) (by decide +kernel)) (S.2.2.2.2 (.instanceMethod objectInit) (by decide +kernel)) (S.2.2.2.2 (.code objectInit ⟨#[0xb1]⟩ 1 none) (by decide +kernel)) rfl (by rw [S.2.2.1]; exact hl.1) rfl dX3_init_1 (Nat.le_of_ble_eq_true rfl) (Nat.le_of_ble_eq_true rfl) ?_
  refine W.eq (g2 := F0 m 4 ls []) rfl ?_
  refine lv_aload_n S.1 S.2.1 dX3_init_4 rfl (lv_at hl 0 rfl) ?_
  refine lv_bipush (v := 8) S.1 S.2.1 dX3_init_5 rfl ?_
  refine lv_bipush (v := 24) S.1 S.2.1 dX3_init_7 rfl ?_
  refine n_mna (ro := T 4) (ri := T 1) (N' := 8) (K' := 24) (z := (24, .inl (fun _ => 0))) (ty := .int) S hP hD hS hA (S.2.2.2.2 (.classLink RX3 11 "[[I") (by decide +kernel)) hO.use_i (S.2.2.2.2 (.arrayClass .int) (by decide +kernel)) (hK.2 3 _ rfl).2 (hK.2 0 _ rfl).2 (by decide +kernel) (by decide +kernel) (by decide +kernel) (by decide +kernel) (Nat.le_of_ble_eq_true rfl) (Nat.le_of_ble_eq_true rfl) (Nat.le_of_ble_eq_true rfl) rfl rfl (Nat.le_of_ble_eq_true rfl) (Nat.le_of_ble_eq_true rfl) (fun c => by rw [vp_cell_i, ← arrV_new]; rfl) dX3_init_9 (fun q1 H hP hD hS => ?_)
  have hP : va_P D vwCl ((h0, .inr (3, _)) :: (_ ++ _)) H := hP
  have hD : va_D A ((h0, .inr (3, _)) :: (_ ++ _)) := hD
  refine n_put S hK hP hD hS 2 inX3 rfl f13 rfl (by decide) tyX3 tyX3_ok nmX3 (Or.inr ⟨hin, rfl⟩) rfl rfl (Nat.le_of_ble_eq_true rfl) dX3_init_13 (fun H locs hP hD hS => ?_)
  refine lv_aload_n S.1 S.2.1 dX3_init_16 rfl (lv_at hl 0 rfl) ?_
  refine lv_bipush (v := 8) S.1 S.2.1 dX3_init_17 rfl ?_
  refine n_newa (N' := 8) (a0 := (8, .inl (fun _ => 0))) (atype := .int) (ty := .int) S hK hP hD hS hA 1 (S.2.2.2.2 (.arrayClass .int) (by decide +kernel)) rfl (fun cA h => Option.some.inj (h.symm.trans (hK.2 0 _ rfl).2)) (fun cA => rfl) (by decide +kernel) (by decide +kernel) (Nat.le_of_ble_eq_true rfl) (Nat.le_of_ble_eq_true rfl) (Nat.le_of_ble_eq_true rfl) dX3_init_19 (fun q10 H hP hD hS => ?_)
  have hP : va_P D vwCl ((h0, .inr (3, _)) :: (_ ++ _)) H := hP
  have hD : va_D A ((h0, .inr (3, _)) :: (_ ++ _)) := hD
  refine n_put S hK hP hD hS 3 inX3 rfl f16 rfl (by decide) tyX3 tyX3_ok nmX3 (Or.inr ⟨hin, rfl⟩) rfl rfl (Nat.le_of_ble_eq_true rfl) dX3_init_21 (fun H locs hP hD hS => ?_)
  refine lv_aload_n S.1 S.2.1 dX3_init_24 rfl (lv_at hl 0 rfl) ?_
  refine lv_bipush (v := 8) S.1 S.2.1 dX3_init_25 rfl ?_
  refine n_newa (N' := 8) (a0 := (8, .inl (fun _ => 0))) (atype := .int) (ty := .int) S hK hP hD hS hA 1 (S.2.2.2.2 (.arrayClass .int) (by decide +kernel)) rfl (fun cA h => Option.some.inj (h.symm.trans (hK.2 0 _ rfl).2)) (fun cA => rfl) (by decide +kernel) (by decide +kernel) (Nat.le_of_ble_eq_true rfl) (Nat.le_of_ble_eq_true rfl) (Nat.le_of_ble_eq_true rfl) dX3_init_27 (fun q11 H hP hD hS => ?_)
  have hP : va_P D vwCl ((h0, .inr (3, _)) :: (_ ++ _)) H := hP
  have hD : va_D A ((h0, .inr (3, _)) :: (_ ++ _)) := hD
  refine n_put S hK hP hD hS 4 inX3 rfl f20 rfl (by decide) tyX3 tyX3_ok nmX3 (Or.inr ⟨hin, rfl⟩) rfl rfl (Nat.le_of_ble_eq_true rfl) dX3_init_29 (fun H locs hP hD hS => ?_)
  refine lv_aload_n S.1 S.2.1 dX3_init_32 rfl (lv_at hl 0 rfl) ?_
  refine lv_bipush (v := 8) S.1 S.2.1 dX3_init_33 rfl ?_
  refine n_newa (N' := 8) (a0 := (8, .inl (fun _ => 0))) (atype := .int) (ty := .int) S hK hP hD hS hA 1 (S.2.2.2.2 (.arrayClass .int) (by decide +kernel)) rfl (fun cA h => Option.some.inj (h.symm.trans (hK.2 0 _ rfl).2)) (fun cA => rfl) (by decide +kernel) (by decide +kernel) (Nat.le_of_ble_eq_true rfl) (Nat.le_of_ble_eq_true rfl) (Nat.le_of_ble_eq_true rfl) dX3_init_35 (fun q12 H hP hD hS => ?_)
  have hP : va_P D vwCl ((h0, .inr (3, _)) :: (_ ++ _)) H := hP
  have hD : va_D A ((h0, .inr (3, _)) :: (_ ++ _)) := hD
  refine n_put S hK hP hD hS 5 inX3 rfl f23 rfl (by decide) tyX3 tyX3_ok nmX3 (Or.inr ⟨hin, rfl⟩) rfl rfl (Nat.le_of_ble_eq_true rfl) dX3_init_37 (fun H locs hP hD hS => ?_)
  refine lv_aload_n S.1 S.2.1 dX3_init_40 rfl (lv_at hl 0 rfl) ?_
  refine lv_bipush (v := 8) S.1 S.2.1 dX3_init_41 rfl ?_
  refine n_newa (N' := 8) (a0 := (8, .inl (fun _ => 0))) (atype := .int) (ty := .int) S hK hP hD hS hA 1 (S.2.2.2.2 (.arrayClass .int) (by decide +kernel)) rfl (fun cA h => Option.some.inj (h.symm.trans (hK.2 0 _ rfl).2)) (fun cA => rfl) (by decide +kernel) (by decide +kernel) (Nat.le_of_ble_eq_true rfl) (Nat.le_of_ble_eq_true rfl) (Nat.le_of_ble_eq_true rfl) dX3_init_43 (fun q13 H hP hD hS => ?_)
  have hP : va_P D vwCl ((h0, .inr (3, _)) :: (_ ++ _)) H := hP
  have hD : va_D A ((h0, .inr (3, _)) :: (_ ++ _)) := hD
  refine n_put S hK hP hD hS 6 inX3 rfl f26 rfl (by decide) tyX3 tyX3_ok nmX3 (Or.inr ⟨hin, rfl⟩) rfl rfl (Nat.le_of_ble_eq_true rfl) dX3_init_45 (fun H locs hP hD hS => ?_)
  refine lv_aload_n S.1 S.2.1 dX3_init_48 rfl (lv_at hl 0 rfl) ?_
  have inX0 : ∀ w ∈ u_ws RX0 TX0 4, w ∈ wsX3_init := by decide +kernel
  refine va_new (ci := 0) (fs := [.int 0, .null, .null, .null]) (C := RX0) (T := TX0) (N := 4) S.1 S.2.1 S.2.2.2.2 inX0 tyX0 tyX0_ok S.2.2.2.1 (S.2.2.2.2 (.classLink RX3 29 RX0) (by decide +kernel)) (S.2.2.2.2 (.instantiable RX0 4) (by decide +kernel)) (S.2.2.2.2 (.initialized RX0) (by decide +kernel)) hK hP hD hS hA rfl (fun j hj => by rcases (show j = 0 ∨ j = 1 ∨ j = 2 ∨ j = 3 by omega) with rfl | rfl | rfl | rfl <;> rfl) (Nat.le_of_ble_eq_true rfl) (Nat.le_of_ble_eq_true rfl) dX3_init_49 (fun p0 H hP hD hS => ?_)
  refine lv_dup S.1 S.2.1 dX3_init_52 rfl ?_
  refine lv_bipush (v := 34) S.1 S.2.1 dX3_init_53 rfl ?_
  refine n_callI (rest := [.ref p0, .ref h0]) S hK hN hO hP hD hS hA (iX0 l D T p0 _) (cwI 1 S.2.2.2.2 gX3_init_X0_init rfl rfl rfl (S.2.2.2.2 (.initialized RX0) (by decide +kernel)) (S.2.2.2.2 (.methodLink RX3 31 yX0_init) (by decide +kernel)) (S.2.2.2.2 (.instanceMethod yX0_init) (by decide +kernel)) rfl (by decide +kernel) ⟨Nat.le_of_ble_eq_true rfl, Nat.le_of_ble_eq_true rfl⟩) rfl hl.1 rfl (Nat.le_of_ble_eq_true rfl) dX3_init_55 ⟨Nat.le_of_ble_eq_true rfl, Nat.le_of_ble_eq_true rfl⟩ (fun s0 H locs es0 hP9 hD9 hS9 => ?_)
  have es0 : s0 0 = p0 := es0
  subst es0
  have hP : va_P D vwCl ((h0, .inr (3, _)) :: (_ ++ _)) H := hP9
  have hD : va_D A ((h0, .inr (3, _)) :: (_ ++ _)) := hD9
  have hS := hS9
  refine n_put S hK hP hD hS 7 inX3 rfl f34 rfl (by decide) tyX3 tyX3_ok nmX3 (Or.inr ⟨hin, rfl⟩) rfl rfl (Nat.le_of_ble_eq_true rfl) dX3_init_58 (fun H locs hP hD hS => ?_)
  refine lv_aload_n S.1 S.2.1 dX3_init_61 rfl (lv_at hl 0 rfl) ?_
  refine lv_iconst (v := -1) S.1 S.2.1 dX3_init_62 rfl ?_
  refine n_put S hK hP hD hS 8 inX3 rfl f38 rfl (by decide) tyX3 tyX3_ok nmX3 (Or.inr ⟨hin, rfl⟩) rfl rfl (Nat.le_of_ble_eq_true rfl) dX3_init_63 (fun H locs hP hD hS => ?_)
  obtain ⟨σ, eσ⟩ : ∃ σ : Nat → Nat, σ = glue 14 (fun k => [h0, q1, (q1 + 1 + 0), (q1 + 1 + 1), (q1 + 1 + 2), (q1 + 1 + 3), (q1 + 1 + 4), (q1 + 1 + 5), (q1 + 1 + 6), (q1 + 1 + 7), q10, q11, q12, q13].getD k 0) (s0) := ⟨_, rfl⟩
  have g0 : ∀ i, i < 8 → σ (2 + i) = q1 + 1 + i := fun i hi => by
    subst eσ
    match i, hi with
    | 0, _ => rfl
    | 1, _ => rfl
    | 2, _ => rfl
    | 3, _ => rfl
    | 4, _ => rfl
    | 5, _ => rfl
    | 6, _ => rfl
    | 7, _ => rfl
    | n + 8, h => exact absurd h (by omega)
  rw [n_grid g0] at hP hD
  refine n_vret S hr hlk hAe hP hD hS σ (by rw [eσ]; rfl) ?_ dX3_init_66
  subst eσ
  show _ = wd T (LX3a ++ shL 14 LX0) (glue 14 _ s0) (glueM 14 _ MX0)
  rw [wd_glue (n := 14) rfl]
  rfl
theorem LH_glue : LH = [(0, 6, 0, [some 1, some 11, some 21, some 73, some 75, none])] ++ shL 1 (LX4 ++ shL 10 (LX1 ++ shL 10 (LX3 ++ shL 52 (LX5 ++ shL 2 LX2)))) := rfl
theorem w_X6 (T : Nat → ClassId) (h0 : Nat) (s4 s1 s3 s5 s2 : Nat → Nat) (MM : Mem) (hM : MM = glueM 1 Z0 (glueM 10 MX4 (glueM 10 MX1 (glueM 52 MX3 (glueM 2 MX5 MX2))))) : (h0, .inr (6, [.ref (s4 0), .ref (s1 0), .ref (s3 0), .ref (s5 0), .ref (s2 0), .int 0])) :: (((((([] : va_W) ++ wd T LX4 s4 MX4) ++ wd T LX1 s1 MX1) ++ wd T LX3 s3 MX3) ++ wd T LX5 s5 MX5) ++ wd T LX2 s2 MX2) = wd T LH (glue 1 (fun k => [h0].getD k 0) (glue 10 s4 (glue 10 s1 (glue 52 s3 (glue 2 s5 s2))))) MM := by
  rw [hM, LH_glue, wd_glue (n := 1) rfl, wd_glue2 (n := 10) rfl (by decide +kernel), wd_glue2 (n := 10) rfl (by decide +kernel), wd_glue2 (n := 52) rfl (by decide +kernel), wd_glue2 (n := 2) rfl (by decide +kernel)]
  simp only [List.nil_append, List.append_assoc]
  rfl
abbrev LX6 : Lay := LH
def MX6 : Mem := glueM 1 Z0 (glueM 10 MX4 (glueM 10 MX1 (glueM 52 MX3 (glueM 2 MX5 MX2))))
abbrev rmX6_init : Room := { frames := 3, cells := 99, slots := 7136, locals := 53 }
set_option maxHeartbeats 1000000 in
set_option maxRecDepth 100000 in
theorem iX6 (l : Launch) (D : va_G) (T : Nat → ClassId) (h0 sz : Nat) : Met l yX6_init wsX6_init rmX6_init (preN D T [.ref h0] (h0, .inr (6, [.null, .null, .null, .null, .null, .int 0])) sz) (postN D T LX6 MX6 (h0, .inr (6, [.null, .null, .null, .null, .null, .int 0])) sz) 99 7136 (va_A [(h0, .inr (6, [.null, .null, .null, .null, .null, .int 0]))] sz) := by
  refine n_of (cc := cX6_init) (maxL := 1) (own := RX6) (by decide) rfl rfl rfl (Nat.le_of_ble_eq_true rfl) ?_
  intro p e s m args below meth c H ls locs A S hr hlk hin hl hsz hAe hA hK hP hD hS hN hO
  subst hsz
  have hl : lv_has ls 1 [(0, .ref h0)] := hl
  have inX6 : ∀ w ∈ u_ws RX6 TX6 6, w ∈ wsX6_init := by decide +kernel
  have f10 := S.2.2.2.2 (.fieldLink RX6 10 "MachineHall" "sheets" "LMachineHall$Sheets;") (by decide +kernel)
  have f19 := S.2.2.2.2 (.fieldLink RX6 19 "MachineHall" "hall" "LMachineHall$Hall;") (by decide +kernel)
  have f26 := S.2.2.2.2 (.fieldLink RX6 26 "MachineHall" "plan" "LMachineHall$Plan;") (by decide +kernel)
  have f33 := S.2.2.2.2 (.fieldLink RX6 33 "MachineHall" "waiting" "LMachineHall$Waiting;") (by decide +kernel)
  have f40 := S.2.2.2.2 (.fieldLink RX6 40 "MachineHall" "market" "LMachineHall$Market;") (by decide +kernel)
  have f44 := S.2.2.2.2 (.fieldLink RX6 44 "MachineHall" "status" "I") (by decide +kernel)
  refine lv_aload_n S.1 S.2.1 dX6_init_0 rfl (lv_at hl 0 rfl) ?_
  refine W.objInit S.1 S.2.1 S.2.2.2.1 (S.2.2.2.2 (.methodLink RX6 1 objectInit) (by decide +kernel)) (S.2.2.2.2 (.instanceMethod objectInit) (by decide +kernel)) (S.2.2.2.2 (.code objectInit ⟨#[0xb1]⟩ 1 none) (by decide +kernel)) rfl (by rw [S.2.2.1]; exact hl.1) rfl dX6_init_1 (Nat.le_of_ble_eq_true rfl) (Nat.le_of_ble_eq_true rfl) ?_
  refine W.eq (g2 := F0 m 4 ls []) rfl ?_
  refine lv_aload_n S.1 S.2.1 dX6_init_4 rfl (lv_at hl 0 rfl) ?_
  have inX4 : ∀ w ∈ u_ws RX4 TX4 3, w ∈ wsX6_init := by decide +kernel
  refine va_new (ci := 4) (fs := [.null, .null, .null]) (C := RX4) (T := TX4) (N := 3) S.1 S.2.1 S.2.2.2.2 inX4 tyX4 tyX4_ok S.2.2.2.1 (S.2.2.2.2 (.classLink RX6 7 RX4) (by decide +kernel)) (S.2.2.2.2 (.instantiable RX4 3) (by decide +kernel)) (S.2.2.2.2 (.initialized RX4) (by decide +kernel)) hK hP hD hS hA rfl (fun j hj => by rcases (show j = 0 ∨ j = 1 ∨ j = 2 by omega) with rfl | rfl | rfl <;> rfl) (Nat.le_of_ble_eq_true rfl) (Nat.le_of_ble_eq_true rfl) dX6_init_5 (fun p4 H hP hD hS => ?_)
  refine lv_dup S.1 S.2.1 dX6_init_8 rfl ?_
  refine n_callI (rest := [.ref p4, .ref h0]) S hK hN hO hP hD hS hA (iX4 l D T p4 _) (cwI 0 S.2.2.2.2 gX6_init_X4_init rfl rfl rfl (S.2.2.2.2 (.initialized RX4) (by decide +kernel)) (S.2.2.2.2 (.methodLink RX6 9 yX4_init) (by decide +kernel)) (S.2.2.2.2 (.instanceMethod yX4_init) (by decide +kernel)) rfl (by decide +kernel) ⟨Nat.le_of_ble_eq_true rfl, Nat.le_of_ble_eq_true rfl⟩) rfl hl.1 rfl (Nat.le_of_ble_eq_true rfl) dX6_init_9 ⟨Nat.le_of_ble_eq_true rfl, Nat.le_of_ble_eq_true rfl⟩ (fun s4 H locs es4 hP9 hD9 hS9 => ?_)
  have es4 : s4 0 = p4 := es4
  subst es4
  have hP : va_P D vwCl ((h0, .inr (6, _)) :: (_ ++ _)) H := hP9
  have hD : va_D A ((h0, .inr (6, _)) :: (_ ++ _)) := hD9
  have hS := hS9
  refine n_put S hK hP hD hS 0 inX6 rfl f10 rfl (by decide) tyX6 tyX6_ok nmX6 (Or.inr ⟨hin, rfl⟩) rfl rfl (Nat.le_of_ble_eq_true rfl) dX6_init_12 (fun H locs hP hD hS => ?_)
  refine lv_aload_n S.1 S.2.1 dX6_init_15 rfl (lv_at hl 0 rfl) ?_
  have inX1 : ∀ w ∈ u_ws RX1 TX1 13, w ∈ wsX6_init := by decide +kernel
  refine va_new (ci := 1) (fs := [.int 0, .int 0, .null, .null, .int 0, .null, .null, .null, .null, .null, .null, .null, .int 0]) (C := RX1) (T := TX1) (N := 13) S.1 S.2.1 S.2.2.2.2 inX1 tyX1 tyX1_ok S.2.2.2.1 (S.2.2.2.2 (.classLink RX6 16 RX1) (by decide +kernel)) (S.2.2.2.2 (.instantiable RX1 13) (by decide +kernel)) (S.2.2.2.2 (.initialized RX1) (by decide +kernel)) hK hP hD hS hA rfl (fun j hj => by rcases (show j = 0 ∨ j = 1 ∨ j = 2 ∨ j = 3 ∨ j = 4 ∨ j = 5 ∨ j = 6 ∨ j = 7 ∨ j = 8 ∨ j = 9 ∨ j = 10 ∨ j = 11 ∨ j = 12 by omega) with rfl | rfl | rfl | rfl | rfl | rfl | rfl | rfl | rfl | rfl | rfl | rfl | rfl <;> rfl) (Nat.le_of_ble_eq_true rfl) (Nat.le_of_ble_eq_true rfl) dX6_init_16 (fun p1 H hP hD hS => ?_)
  refine lv_dup S.1 S.2.1 dX6_init_19 rfl ?_
  refine n_callI (rest := [.ref p1, .ref h0]) S hK hN hO hP hD hS hA (iX1 l D T p1 _) (cwI 0 S.2.2.2.2 gX6_init_X1_init rfl rfl rfl (S.2.2.2.2 (.initialized RX1) (by decide +kernel)) (S.2.2.2.2 (.methodLink RX6 18 yX1_init) (by decide +kernel)) (S.2.2.2.2 (.instanceMethod yX1_init) (by decide +kernel)) rfl (by decide +kernel) ⟨Nat.le_of_ble_eq_true rfl, Nat.le_of_ble_eq_true rfl⟩) rfl hl.1 rfl (Nat.le_of_ble_eq_true rfl) dX6_init_20 ⟨Nat.le_of_ble_eq_true rfl, Nat.le_of_ble_eq_true rfl⟩ (fun s1 H locs es1 hP9 hD9 hS9 => ?_)
  have es1 : s1 0 = p1 := es1
  subst es1
  have hP : va_P D vwCl ((h0, .inr (6, _)) :: (_ ++ _)) H := hP9
  have hD : va_D A ((h0, .inr (6, _)) :: (_ ++ _)) := hD9
  have hS := hS9
  refine n_put S hK hP hD hS 1 inX6 rfl f19 rfl (by decide) tyX6 tyX6_ok nmX6 (Or.inr ⟨hin, rfl⟩) rfl rfl (Nat.le_of_ble_eq_true rfl) dX6_init_23 (fun H locs hP hD hS => ?_)
  refine lv_aload_n S.1 S.2.1 dX6_init_26 rfl (lv_at hl 0 rfl) ?_
  have inX3 : ∀ w ∈ u_ws RX3 TX3 9, w ∈ wsX6_init := by decide +kernel
  refine va_new (ci := 3) (fs := [.int 0, .int 0, .null, .null, .null, .null, .null, .null, .int 0]) (C := RX3) (T := TX3) (N := 9) S.1 S.2.1 S.2.2.2.2 inX3 tyX3 tyX3_ok S.2.2.2.1 (S.2.2.2.2 (.classLink RX6 23 RX3) (by decide +kernel)) (S.2.2.2.2 (.instantiable RX3 9) (by decide +kernel)) (S.2.2.2.2 (.initialized RX3) (by decide +kernel)) hK hP hD hS hA rfl (fun j hj => by rcases (show j = 0 ∨ j = 1 ∨ j = 2 ∨ j = 3 ∨ j = 4 ∨ j = 5 ∨ j = 6 ∨ j = 7 ∨ j = 8 by omega) with rfl | rfl | rfl | rfl | rfl | rfl | rfl | rfl | rfl <;> rfl) (Nat.le_of_ble_eq_true rfl) (Nat.le_of_ble_eq_true rfl) dX6_init_27 (fun p3 H hP hD hS => ?_)
  refine lv_dup S.1 S.2.1 dX6_init_30 rfl ?_
  refine n_callI (rest := [.ref p3, .ref h0]) S hK hN hO hP hD hS hA (iX3 l D T p3 _) (cwI 0 S.2.2.2.2 gX6_init_X3_init rfl rfl rfl (S.2.2.2.2 (.initialized RX3) (by decide +kernel)) (S.2.2.2.2 (.methodLink RX6 25 yX3_init) (by decide +kernel)) (S.2.2.2.2 (.instanceMethod yX3_init) (by decide +kernel)) rfl (by decide +kernel) ⟨Nat.le_of_ble_eq_true rfl, Nat.le_of_ble_eq_true rfl⟩) rfl hl.1 rfl (Nat.le_of_ble_eq_true rfl) dX6_init_31 ⟨Nat.le_of_ble_eq_true rfl, Nat.le_of_ble_eq_true rfl⟩ (fun s3 H locs es3 hP9 hD9 hS9 => ?_)
  have es3 : s3 0 = p3 := es3
  subst es3
  have hP : va_P D vwCl ((h0, .inr (6, _)) :: (_ ++ _)) H := hP9
  have hD : va_D A ((h0, .inr (6, _)) :: (_ ++ _)) := hD9
  have hS := hS9
  refine n_put S hK hP hD hS 2 inX6 rfl f26 rfl (by decide) tyX6 tyX6_ok nmX6 (Or.inr ⟨hin, rfl⟩) rfl rfl (Nat.le_of_ble_eq_true rfl) dX6_init_34 (fun H locs hP hD hS => ?_)
  refine lv_aload_n S.1 S.2.1 dX6_init_37 rfl (lv_at hl 0 rfl) ?_
  have inX5 : ∀ w ∈ u_ws RX5 TX5 6, w ∈ wsX6_init := by decide +kernel
  refine va_new (ci := 5) (fs := [.int 0, .int 0, .int 0, .int 0, .int 0, .null]) (C := RX5) (T := TX5) (N := 6) S.1 S.2.1 S.2.2.2.2 inX5 tyX5 tyX5_ok S.2.2.2.1 (S.2.2.2.2 (.classLink RX6 30 RX5) (by decide +kernel)) (S.2.2.2.2 (.instantiable RX5 6) (by decide +kernel)) (S.2.2.2.2 (.initialized RX5) (by decide +kernel)) hK hP hD hS hA rfl (fun j hj => by rcases (show j = 0 ∨ j = 1 ∨ j = 2 ∨ j = 3 ∨ j = 4 ∨ j = 5 by omega) with rfl | rfl | rfl | rfl | rfl | rfl <;> rfl) (Nat.le_of_ble_eq_true rfl) (Nat.le_of_ble_eq_true rfl) dX6_init_38 (fun p5 H hP hD hS => ?_)
  refine lv_dup S.1 S.2.1 dX6_init_41 rfl ?_
  refine n_callI (rest := [.ref p5, .ref h0]) S hK hN hO hP hD hS hA (iX5 l D T p5 _) (cwI 0 S.2.2.2.2 gX6_init_X5_init rfl rfl rfl (S.2.2.2.2 (.initialized RX5) (by decide +kernel)) (S.2.2.2.2 (.methodLink RX6 32 yX5_init) (by decide +kernel)) (S.2.2.2.2 (.instanceMethod yX5_init) (by decide +kernel)) rfl (by decide +kernel) ⟨Nat.le_of_ble_eq_true rfl, Nat.le_of_ble_eq_true rfl⟩) rfl hl.1 rfl (Nat.le_of_ble_eq_true rfl) dX6_init_42 ⟨Nat.le_of_ble_eq_true rfl, Nat.le_of_ble_eq_true rfl⟩ (fun s5 H locs es5 hP9 hD9 hS9 => ?_)
  have es5 : s5 0 = p5 := es5
  subst es5
  have hP : va_P D vwCl ((h0, .inr (6, _)) :: (_ ++ _)) H := hP9
  have hD : va_D A ((h0, .inr (6, _)) :: (_ ++ _)) := hD9
  have hS := hS9
  refine n_put S hK hP hD hS 3 inX6 rfl f33 rfl (by decide) tyX6 tyX6_ok nmX6 (Or.inr ⟨hin, rfl⟩) rfl rfl (Nat.le_of_ble_eq_true rfl) dX6_init_45 (fun H locs hP hD hS => ?_)
  refine lv_aload_n S.1 S.2.1 dX6_init_48 rfl (lv_at hl 0 rfl) ?_
  have inX2 : ∀ w ∈ u_ws RX2 TX2 12, w ∈ wsX6_init := by decide +kernel
  refine va_new (ci := 2) (fs := [.int 0, .int 0, .null, .int 0, .null, .null, .null, .null, .null, .null, .null, .int 0]) (C := RX2) (T := TX2) (N := 12) S.1 S.2.1 S.2.2.2.2 inX2 tyX2 tyX2_ok S.2.2.2.1 (S.2.2.2.2 (.classLink RX6 37 RX2) (by decide +kernel)) (S.2.2.2.2 (.instantiable RX2 12) (by decide +kernel)) (S.2.2.2.2 (.initialized RX2) (by decide +kernel)) hK hP hD hS hA rfl (fun j hj => by rcases (show j = 0 ∨ j = 1 ∨ j = 2 ∨ j = 3 ∨ j = 4 ∨ j = 5 ∨ j = 6 ∨ j = 7 ∨ j = 8 ∨ j = 9 ∨ j = 10 ∨ j = 11 by omega) with rfl | rfl | rfl | rfl | rfl | rfl | rfl | rfl | rfl | rfl | rfl | rfl <;> rfl) (Nat.le_of_ble_eq_true rfl) (Nat.le_of_ble_eq_true rfl) dX6_init_49 (fun p2 H hP hD hS => ?_)
  refine lv_dup S.1 S.2.1 dX6_init_52 rfl ?_
  refine n_callI (rest := [.ref p2, .ref h0]) S hK hN hO hP hD hS hA (iX2 l D T p2 _) (cwI 0 S.2.2.2.2 gX6_init_X2_init rfl rfl rfl (S.2.2.2.2 (.initialized RX2) (by decide +kernel)) (S.2.2.2.2 (.methodLink RX6 39 yX2_init) (by decide +kernel)) (S.2.2.2.2 (.instanceMethod yX2_init) (by decide +kernel)) rfl (by decide +kernel) ⟨Nat.le_of_ble_eq_true rfl, Nat.le_of_ble_eq_true rfl⟩) rfl hl.1 rfl (Nat.le_of_ble_eq_true rfl) dX6_init_53 ⟨Nat.le_of_ble_eq_true rfl, Nat.le_of_ble_eq_true rfl⟩ (fun s2 H locs es2 hP9 hD9 hS9 => ?_)
  have es2 : s2 0 = p2 := es2
  subst es2
  have hP : va_P D vwCl ((h0, .inr (6, _)) :: (_ ++ _)) H := hP9
  have hD : va_D A ((h0, .inr (6, _)) :: (_ ++ _)) := hD9
  have hS := hS9
  refine n_put S hK hP hD hS 4 inX6 rfl f40 rfl (by decide) tyX6 tyX6_ok nmX6 (Or.inr ⟨hin, rfl⟩) rfl rfl (Nat.le_of_ble_eq_true rfl) dX6_init_56 (fun H locs hP hD hS => ?_)
  refine lv_aload_n S.1 S.2.1 dX6_init_59 rfl (lv_at hl 0 rfl) ?_
  refine lv_iconst (v := 0) S.1 S.2.1 dX6_init_60 rfl ?_
  refine n_put S hK hP hD hS 5 inX6 rfl f44 rfl (by decide) tyX6 tyX6_ok nmX6 (Or.inr ⟨hin, rfl⟩) rfl rfl (Nat.le_of_ble_eq_true rfl) dX6_init_61 (fun H locs hP hD hS => ?_)
  obtain ⟨σ, eσ⟩ : ∃ σ : Nat → Nat, σ = glue 1 (fun k => [h0].getD k 0) (glue 10 s4 (glue 10 s1 (glue 52 s3 (glue 2 s5 (s2))))) := ⟨_, rfl⟩
  refine n_vret S hr hlk hAe hP hD hS σ (by rw [eσ]; rfl) ?_ dX6_init_64
  subst eσ
  exact w_X6 T h0 s4 s1 s3 s5 s2 _ rfl

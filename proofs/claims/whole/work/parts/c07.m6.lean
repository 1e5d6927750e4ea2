abbrev rmX6_status : Room := { frames := 0, cells := 0, slots := 0, locals := 0 }
set_option maxHeartbeats 4000000 in
set_option maxRecDepth 100000 in
theorem mX6_status (l : Launch) (D : va_G) (T : Nat → ClassId) (σ : Nat → Nat) (M : Mem)  (post : Int32 → Mem → Prop) (h : qX6_status M post) : Met l yX6_status wsX6_status rmX6_status (preW D T LH σ [.ref (σ 0)] M) (postI D T LH σ post) 0 0 (fA LH σ) := by
  refine m_of (cc := cX6_status) (maxL := 1) (ret := (some .int)) (own := RX6) (by decide) rfl rfl (Nat.le_of_ble_eq_true rfl) ?_
  intro p e s m args below meth c H ls locs S hr hlk hl hW
  have hl : lv_has ls 1 [(0, .ref (σ 0))] := hl
  have inX6 : ∀ w ∈ u_ws RX6 TX6 6, w ∈ wsX6_status := by decide +kernel
  have f44 := S.2.2.2.2 (.fieldLink RX6 44 "MachineHall" "status" "I") (by decide +kernel)
  refine lv_aload_n S.1 S.2.1 dX6_status_0 rfl (lv_at hl 0 rfl) ?_
  refine r_getI (j := 5) S hW inX6 rfl f44 rfl LH_0 (by decide) rfl dX6_status_1 ?_
  exact r_iret S hr hlk hW h dX6_status_4
abbrev rmX6_refuse : Room := { frames := 0, cells := 0, slots := 0, locals := 0 }
set_option maxHeartbeats 4000000 in
set_option maxRecDepth 100000 in
theorem mX6_refuse (l : Launch) (D : va_G) (T : Nat → ClassId) (σ : Nat → Nat) (M : Mem) (a1 : Int32) (post : Int32 → Mem → Prop) (h : qX6_refuse a1 M post) : Met l yX6_refuse wsX6_refuse rmX6_refuse (preW D T LH σ [.ref (σ 0), .int a1] M) (postI D T LH σ post) 0 0 (fA LH σ) := by
  refine m_of (cc := cX6_refuse) (maxL := 2) (ret := (some .boolean)) (own := RX6) (by decide) rfl rfl (Nat.le_of_ble_eq_true rfl) ?_
  intro p e s m args below meth c H ls locs S hr hlk hl hW
  have hl : lv_has ls 2 [(0, .ref (σ 0)), (1, .int a1)] := hl
  have inX6 : ∀ w ∈ u_ws RX6 TX6 6, w ∈ wsX6_refuse := by decide +kernel
  have f44 := S.2.2.2.2 (.fieldLink RX6 44 "MachineHall" "status" "I") (by decide +kernel)
  refine lv_aload_n S.1 S.2.1 dX6_refuse_0 rfl (lv_at hl 0 rfl) ?_
  refine lv_iload_n S.1 S.2.1 dX6_refuse_1 rfl (lv_at hl 1 rfl) ?_
  refine r_putI (j := 5) S hW inX6 rfl f44 rfl LH_0 (by decide) rfl tyX6 tyX6_ok nmX6 rfl rfl rfl dX6_refuse_2 (fun M1 H locs eM1 hW => ?_)
  have h := h M1 eM1
  refine lv_iconst (v := 0) S.1 S.2.1 dX6_refuse_5 rfl ?_
  exact r_zret S hr hlk hW rfl h dX6_refuse_6
abbrev rmX6_agree : Room := { frames := 0, cells := 0, slots := 0, locals := 0 }
set_option maxHeartbeats 4000000 in
set_option maxRecDepth 100000 in
theorem mX6_agree (l : Launch) (D : va_G) (T : Nat → ClassId) (σ : Nat → Nat) (M : Mem)  (post : Int32 → Mem → Prop) (h : qX6_agree M post) : Met l yX6_agree wsX6_agree rmX6_agree (preW D T LH σ [.ref (σ 0)] M) (postI D T LH σ post) 0 0 (fA LH σ) := by
  refine m_of (cc := cX6_agree) (maxL := 1) (ret := (some .boolean)) (own := RX6) (by decide) rfl rfl (Nat.le_of_ble_eq_true rfl) ?_
  intro p e s m args below meth c H ls locs S hr hlk hl hW
  have hl : lv_has ls 1 [(0, .ref (σ 0))] := hl
  have inX6 : ∀ w ∈ u_ws RX6 TX6 6, w ∈ wsX6_agree := by decide +kernel
  have f44 := S.2.2.2.2 (.fieldLink RX6 44 "MachineHall" "status" "I") (by decide +kernel)
  refine lv_aload_n S.1 S.2.1 dX6_agree_0 rfl (lv_at hl 0 rfl) ?_
  refine lv_iconst (v := 0) S.1 S.2.1 dX6_agree_1 rfl ?_
  refine r_putI (j := 5) S hW inX6 rfl f44 rfl LH_0 (by decide) rfl tyX6 tyX6_ok nmX6 rfl rfl rfl dX6_agree_2 (fun M1 H locs eM1 hW => ?_)
  have h := h M1 eM1
  refine lv_iconst (v := 1) S.1 S.2.1 dX6_agree_5 rfl ?_
  exact r_zret S hr hlk hW rfl h dX6_agree_6
abbrev rmX6_sheet : Room := { frames := 2, cells := 0, slots := 0, locals := 47 }
set_option maxHeartbeats 4000000 in
set_option maxRecDepth 100000 in
theorem mX6_sheet (l : Launch) (D : va_G) (T : Nat → ClassId) (σ : Nat → Nat) (M : Mem) (a1 : Int32) (a2 : Int32) (a3 : Int32) (post : Int32 → Mem → Prop) (h : qX6_sheet a1 a2 a3 M post) : Met l yX6_sheet wsX6_sheet rmX6_sheet (preW D T LH σ [.ref (σ 0), .int a1, .int a2, .int a3] M) (postI D T LH σ post) 0 0 (fA LH σ) := by
  refine m_of (cc := cX6_sheet) (maxL := 4) (ret := (some .boolean)) (own := RX6) (by decide) rfl rfl (Nat.le_of_ble_eq_true rfl) ?_
  intro p e s m args below meth c H ls locs S hr hlk hl hW
  have hl : lv_has ls 4 [(0, .ref (σ 0)), (1, .int a1), (2, .int a2), (3, .int a3)] := hl
  have w48 := va_cwS (R := rmX6_sheet) (rm := rmX4_isNumber) (mc := 0) (ms := 0) 1 S.2.2.2.2 gX6_sheet_X4_isNumber rfl rfl rfl (by decide +kernel) ⟨Nat.le_of_ble_eq_true rfl, Nat.le_of_ble_eq_true rfl⟩
  have w56 := cwV (R := rmX6_sheet) (rm := rmX6_refuse) (mc := 0) (ms := 0) 1 S.2.2.2.2 gX6_sheet_X6_refuse rfl rfl rfl (by decide +kernel) ⟨Nat.le_of_ble_eq_true rfl, Nat.le_of_ble_eq_true rfl⟩
  have w52 := va_cwS (R := rmX6_sheet) (rm := rmX6_within) (mc := 0) (ms := 0) 3 S.2.2.2.2 gX6_sheet_X6_within rfl rfl rfl (by decide +kernel) ⟨Nat.le_of_ble_eq_true rfl, Nat.le_of_ble_eq_true rfl⟩
  have inX6 : ∀ w ∈ u_ws RX6 TX6 6, w ∈ wsX6_sheet := by decide +kernel
  have f10 := S.2.2.2.2 (.fieldLink RX6 10 "MachineHall" "sheets" "LMachineHall$Sheets;") (by decide +kernel)
  have w59 := cwV (R := rmX6_sheet) (rm := rmX4_make) (mc := 0) (ms := 0) 3 S.2.2.2.2 gX6_sheet_X4_make rfl rfl rfl (by decide +kernel) ⟨Nat.le_of_ble_eq_true rfl, Nat.le_of_ble_eq_true rfl⟩
  have w63 := cwV (R := rmX6_sheet) (rm := rmX6_agree) (mc := 0) (ms := 0) 0 S.2.2.2.2 gX6_sheet_X6_agree rfl rfl rfl (by decide +kernel) ⟨Nat.le_of_ble_eq_true rfl, Nat.le_of_ble_eq_true rfl⟩
  refine lv_iload_n S.1 S.2.1 dX6_sheet_0 rfl (lv_at hl 1 rfl) ?_
  refine r_goI (r_runS (rest := []) S hW (mX4_isNumber l D T σ M a1 _ h) w48 rfl hl.1 rfl (Nat.le_of_ble_eq_true rfl) dX6_sheet_1 ⟨Nat.zero_le _, Nat.zero_le _⟩) hW (fun r1 M2 H locs h hW => ?_)
  refine lv_if_eq (tgt := 28) S.1 S.2.1 dX6_sheet_4 (by decide) (fun c3 => ?_) (fun c3 => ?_)
  · have h := h.1 c3
    refine lv_aload_n S.1 S.2.1 dX6_sheet_28 rfl (lv_at hl 0 rfl) ?_
    refine lv_iconst (v := 1) S.1 S.2.1 dX6_sheet_29 rfl ?_
    refine r_goI (r_runV (rest := []) S hW (mX6_refuse l D T σ M2 (1 : Int32) _ h) w56 rfl LH_0 rfl hl.1 rfl (Nat.le_of_ble_eq_true rfl) dX6_sheet_30 ⟨Nat.zero_le _, Nat.zero_le _⟩) hW (fun r4 M5 H locs h hW => ?_)
    exact r_zret S hr hlk hW h.1 h.2 dX6_sheet_33
  · have h := h.2 c3
    refine lv_iload_n S.1 S.2.1 dX6_sheet_7 rfl (lv_at hl 2 rfl) ?_
    refine lv_i2l S.1 S.2.1 dX6_sheet_8 rfl ?_
    refine lv_iconst (v := 0) S.1 S.2.1 dX6_sheet_9 rfl ?_
    refine lv_iconst (v := 3) S.1 S.2.1 dX6_sheet_10 rfl ?_
    refine r_goI (r_runS (rest := []) S hW (mX6_within l D T LH σ M2 (a2.toInt64) (0 : Int32) (3 : Int32) _ h) w52 rfl hl.1 rfl (Nat.le_of_ble_eq_true rfl) dX6_sheet_11 ⟨Nat.zero_le _, Nat.zero_le _⟩) hW (fun r6 M7 H locs h hW => ?_)
    refine lv_if_eq (tgt := 28) S.1 S.2.1 dX6_sheet_14 (by decide) (fun c8 => ?_) (fun c8 => ?_)
    · have h := h.1 c8
      refine lv_aload_n S.1 S.2.1 dX6_sheet_28 rfl (lv_at hl 0 rfl) ?_
      refine lv_iconst (v := 1) S.1 S.2.1 dX6_sheet_29 rfl ?_
      refine r_goI (r_runV (rest := []) S hW (mX6_refuse l D T σ M7 (1 : Int32) _ h) w56 rfl LH_0 rfl hl.1 rfl (Nat.le_of_ble_eq_true rfl) dX6_sheet_30 ⟨Nat.zero_le _, Nat.zero_le _⟩) hW (fun r9 M10 H locs h hW => ?_)
      exact r_zret S hr hlk hW h.1 h.2 dX6_sheet_33
    · have h := h.2 c8
      refine lv_iload_n S.1 S.2.1 dX6_sheet_17 rfl (lv_at hl 3 rfl) ?_
      refine lv_i2l S.1 S.2.1 dX6_sheet_18 rfl ?_
      refine lv_iconst (v := 0) S.1 S.2.1 dX6_sheet_19 rfl ?_
      refine lv_bipush (v := 64) S.1 S.2.1 dX6_sheet_20 rfl ?_
      refine r_goI (r_runS (rest := []) S hW (mX6_within l D T LH σ M7 (a3.toInt64) (0 : Int32) (64 : Int32) _ h) w52 rfl hl.1 rfl (Nat.le_of_ble_eq_true rfl) dX6_sheet_22 ⟨Nat.zero_le _, Nat.zero_le _⟩) hW (fun r11 M12 H locs h hW => ?_)
      refine lv_if_ne (tgt := 34) S.1 S.2.1 dX6_sheet_25 (by decide) (fun c13 => ?_) (fun c13 => ?_)
      · have h := h.1 c13
        refine lv_aload_n S.1 S.2.1 dX6_sheet_34 rfl (lv_at hl 0 rfl) ?_
        refine r_getR (j := 0) S hW inX6 rfl f10 rfl LH_0 (by decide) rfl dX6_sheet_35 ?_
        refine lv_iload_n S.1 S.2.1 dX6_sheet_38 rfl (lv_at hl 1 rfl) ?_
        refine lv_iload_n S.1 S.2.1 dX6_sheet_39 rfl (lv_at hl 2 rfl) ?_
        refine lv_iload_n S.1 S.2.1 dX6_sheet_40 rfl (lv_at hl 3 rfl) ?_
        refine r_goV (r_runV (rest := []) S hW (mX4_make l D T σ M12 a1 a2 a3 _ h) w59 rfl LH_1 rfl hl.1 rfl (Nat.le_of_ble_eq_true rfl) dX6_sheet_41 ⟨Nat.zero_le _, Nat.zero_le _⟩) hW (fun M15 H locs h hW => ?_)
        refine lv_aload_n S.1 S.2.1 dX6_sheet_44 rfl (lv_at hl 0 rfl) ?_
        refine r_goI (r_runV (rest := []) S hW (mX6_agree l D T σ M15 _ h) w63 rfl LH_0 rfl hl.1 rfl (Nat.le_of_ble_eq_true rfl) dX6_sheet_45 ⟨Nat.zero_le _, Nat.zero_le _⟩) hW (fun r16 M17 H locs h hW => ?_)
        exact r_zret S hr hlk hW h.1 h.2 dX6_sheet_48
      · have h := h.2 c13
        refine lv_aload_n S.1 S.2.1 dX6_sheet_28 rfl (lv_at hl 0 rfl) ?_
        refine lv_iconst (v := 1) S.1 S.2.1 dX6_sheet_29 rfl ?_
        refine r_goI (r_runV (rest := []) S hW (mX6_refuse l D T σ M12 (1 : Int32) _ h) w56 rfl LH_0 rfl hl.1 rfl (Nat.le_of_ble_eq_true rfl) dX6_sheet_30 ⟨Nat.zero_le _, Nat.zero_le _⟩) hW (fun r18 M19 H locs h hW => ?_)
        exact r_zret S hr hlk hW h.1 h.2 dX6_sheet_33
abbrev rmX6_write : Room := { frames := 3, cells := 0, slots := 0, locals := 65 }
set_option maxHeartbeats 4000000 in
set_option maxRecDepth 100000 in
theorem mX6_write (l : Launch) (D : va_G) (T : Nat → ClassId) (σ : Nat → Nat) (M : Mem) (a1 : Int32) (a2 : Int32) (a3 : Int64) (post : Int32 → Mem → Prop) (h : qX6_write a1 a2 a3 M post) : Met l yX6_write wsX6_write rmX6_write (preW D T LH σ [.ref (σ 0), .int a1, .int a2, .long a3] M) (postI D T LH σ post) 0 0 (fA LH σ) := by
  refine m_of (cc := cX6_write) (maxL := 6) (ret := (some .boolean)) (own := RX6) (by decide) rfl rfl (Nat.le_of_ble_eq_true rfl) ?_
  intro p e s m args below meth c H ls locs S hr hlk hl hW
  have hl : lv_has ls 6 [(0, .ref (σ 0)), (1, .int a1), (2, .int a2), (3, .long a3)] := hl
  have inX6 : ∀ w ∈ u_ws RX6 TX6 6, w ∈ wsX6_write := by decide +kernel
  have f10 := S.2.2.2.2 (.fieldLink RX6 10 "MachineHall" "sheets" "LMachineHall$Sheets;") (by decide +kernel)
  have w67 := cwV (R := rmX6_write) (rm := rmX4_whyNoPlace) (mc := 0) (ms := 0) 2 S.2.2.2.2 gX6_write_X4_whyNoPlace rfl rfl rfl (by decide +kernel) ⟨Nat.le_of_ble_eq_true rfl, Nat.le_of_ble_eq_true rfl⟩
  have w71 := cwV (R := rmX6_write) (rm := rmX4_put) (mc := 0) (ms := 0) 3 S.2.2.2.2 gX6_write_X4_put rfl rfl rfl (by decide +kernel) ⟨Nat.le_of_ble_eq_true rfl, Nat.le_of_ble_eq_true rfl⟩
  have w63 := cwV (R := rmX6_write) (rm := rmX6_agree) (mc := 0) (ms := 0) 0 S.2.2.2.2 gX6_write_X6_agree rfl rfl rfl (by decide +kernel) ⟨Nat.le_of_ble_eq_true rfl, Nat.le_of_ble_eq_true rfl⟩
  have w56 := cwV (R := rmX6_write) (rm := rmX6_refuse) (mc := 0) (ms := 0) 1 S.2.2.2.2 gX6_write_X6_refuse rfl rfl rfl (by decide +kernel) ⟨Nat.le_of_ble_eq_true rfl, Nat.le_of_ble_eq_true rfl⟩
  refine lv_aload_n S.1 S.2.1 dX6_write_0 rfl (lv_at hl 0 rfl) ?_
  refine r_getR (j := 0) S hW inX6 rfl f10 rfl LH_0 (by decide) rfl dX6_write_1 ?_
  refine lv_iload_n S.1 S.2.1 dX6_write_4 rfl (lv_at hl 1 rfl) ?_
  refine lv_iload_n S.1 S.2.1 dX6_write_5 rfl (lv_at hl 2 rfl) ?_
  refine r_goI (r_runV (rest := []) S hW (mX4_whyNoPlace l D T σ M a1 a2 _ h) w67 rfl LH_1 rfl hl.1 rfl (Nat.le_of_ble_eq_true rfl) dX6_write_6 ⟨Nat.zero_le _, Nat.zero_le _⟩) hW (fun r1 M2 H locs h hW => ?_)
  refine lv_istore (lv' := [(5, .int r1), (0, .ref (σ 0)), (1, .int a1), (2, .int a2), (3, .long a3)]) S.1 S.2.1 dX6_write_9 hl (by decide) rfl (fun ls hl => ?_)
  refine lv_iload S.1 S.2.1 dX6_write_11 (lv_at hl 0 rfl) ?_
  refine lv_if_eq (tgt := 23) S.1 S.2.1 dX6_write_13 (by decide) (fun c3 => ?_) (fun c3 => ?_)
  · have h := h.1 c3
    refine lv_aload_n S.1 S.2.1 dX6_write_23 rfl (lv_at hl 1 rfl) ?_
    refine r_getR (j := 0) S hW inX6 rfl f10 rfl LH_0 (by decide) rfl dX6_write_24 ?_
    refine lv_iload_n S.1 S.2.1 dX6_write_27 rfl (lv_at hl 2 rfl) ?_
    refine lv_iload_n S.1 S.2.1 dX6_write_28 rfl (lv_at hl 3 rfl) ?_
    refine lv_lload_n S.1 S.2.1 dX6_write_29 rfl (lv_at hl 4 rfl) ?_
    refine r_goV (r_runV (rest := []) S hW (mX4_put l D T σ M2 a1 a2 a3 _ h) w71 rfl LH_1 rfl hl.1 rfl (Nat.le_of_ble_eq_true rfl) dX6_write_30 ⟨Nat.zero_le _, Nat.zero_le _⟩) hW (fun M5 H locs h hW => ?_)
    refine lv_aload_n S.1 S.2.1 dX6_write_33 rfl (lv_at hl 1 rfl) ?_
    refine r_goI (r_runV (rest := []) S hW (mX6_agree l D T σ M5 _ h) w63 rfl LH_0 rfl hl.1 rfl (Nat.le_of_ble_eq_true rfl) dX6_write_34 ⟨Nat.zero_le _, Nat.zero_le _⟩) hW (fun r6 M7 H locs h hW => ?_)
    exact r_zret S hr hlk hW h.1 h.2 dX6_write_37
  · have h := h.2 c3
    refine lv_aload_n S.1 S.2.1 dX6_write_16 rfl (lv_at hl 1 rfl) ?_
    refine lv_iload S.1 S.2.1 dX6_write_17 (lv_at hl 0 rfl) ?_
    refine r_goI (r_runV (rest := []) S hW (mX6_refuse l D T σ M2 r1 _ h) w56 rfl LH_0 rfl hl.1 rfl (Nat.le_of_ble_eq_true rfl) dX6_write_19 ⟨Nat.zero_le _, Nat.zero_le _⟩) hW (fun r8 M9 H locs h hW => ?_)
    exact r_zret S hr hlk hW h.1 h.2 dX6_write_22
abbrev rmX6_deny : Room := { frames := 0, cells := 0, slots := 0, locals := 0 }
set_option maxHeartbeats 4000000 in
set_option maxRecDepth 100000 in
theorem mX6_deny (l : Launch) (D : va_G) (T : Nat → ClassId) (σ : Nat → Nat) (M : Mem) (a1 : Int32) (post : Int32 → Mem → Prop) (h : qX6_deny a1 M post) : Met l yX6_deny wsX6_deny rmX6_deny (preW D T LH σ [.ref (σ 0), .int a1] M) (postI D T LH σ post) 0 0 (fA LH σ) := by
  refine m_of (cc := cX6_deny) (maxL := 2) (ret := (some .int)) (own := RX6) (by decide) rfl rfl (Nat.le_of_ble_eq_true rfl) ?_
  intro p e s m args below meth c H ls locs S hr hlk hl hW
  have hl : lv_has ls 2 [(0, .ref (σ 0)), (1, .int a1)] := hl
  have inX6 : ∀ w ∈ u_ws RX6 TX6 6, w ∈ wsX6_deny := by decide +kernel
  have f44 := S.2.2.2.2 (.fieldLink RX6 44 "MachineHall" "status" "I") (by decide +kernel)
  refine lv_aload_n S.1 S.2.1 dX6_deny_0 rfl (lv_at hl 0 rfl) ?_
  refine lv_iload_n S.1 S.2.1 dX6_deny_1 rfl (lv_at hl 1 rfl) ?_
  refine r_putI (j := 5) S hW inX6 rfl f44 rfl LH_0 (by decide) rfl tyX6 tyX6_ok nmX6 rfl rfl rfl dX6_deny_2 (fun M1 H locs eM1 hW => ?_)
  have h := h M1 eM1
  refine lv_iconst (v := -1) S.1 S.2.1 dX6_deny_5 rfl ?_
  exact r_iret S hr hlk hW h dX6_deny_6
abbrev rmX6_read : Room := { frames := 3, cells := 0, slots := 0, locals := 65 }
set_option maxHeartbeats 4000000 in
set_option maxRecDepth 100000 in
theorem mX6_read (l : Launch) (D : va_G) (T : Nat → ClassId) (σ : Nat → Nat) (M : Mem) (a1 : Int32) (a2 : Int32) (post : Int64 → Mem → Prop) (h : qX6_read a1 a2 M post) : Met l yX6_read wsX6_read rmX6_read (preW D T LH σ [.ref (σ 0), .int a1, .int a2] M) (postL D T LH σ post) 0 0 (fA LH σ) := by
  refine m_of (cc := cX6_read) (maxL := 4) (ret := (some .long)) (own := RX6) (by decide) rfl rfl (Nat.le_of_ble_eq_true rfl) ?_
  intro p e s m args below meth c H ls locs S hr hlk hl hW
  have hl : lv_has ls 4 [(0, .ref (σ 0)), (1, .int a1), (2, .int a2)] := hl
  have inX6 : ∀ w ∈ u_ws RX6 TX6 6, w ∈ wsX6_read := by decide +kernel
  have f10 := S.2.2.2.2 (.fieldLink RX6 10 "MachineHall" "sheets" "LMachineHall$Sheets;") (by decide +kernel)
  have w67 := cwV (R := rmX6_read) (rm := rmX4_whyNoPlace) (mc := 0) (ms := 0) 2 S.2.2.2.2 gX6_read_X4_whyNoPlace rfl rfl rfl (by decide +kernel) ⟨Nat.le_of_ble_eq_true rfl, Nat.le_of_ble_eq_true rfl⟩
  have f44 := S.2.2.2.2 (.fieldLink RX6 44 "MachineHall" "status" "I") (by decide +kernel)
  have w79 := cwV (R := rmX6_read) (rm := rmX4_at) (mc := 0) (ms := 0) 2 S.2.2.2.2 gX6_read_X4_at rfl rfl rfl (by decide +kernel) ⟨Nat.le_of_ble_eq_true rfl, Nat.le_of_ble_eq_true rfl⟩
  have w75 := cwV (R := rmX6_read) (rm := rmX6_deny) (mc := 0) (ms := 0) 1 S.2.2.2.2 gX6_read_X6_deny rfl rfl rfl (by decide +kernel) ⟨Nat.le_of_ble_eq_true rfl, Nat.le_of_ble_eq_true rfl⟩
  refine lv_aload_n S.1 S.2.1 dX6_read_0 rfl (lv_at hl 0 rfl) ?_
  refine r_getR (j := 0) S hW inX6 rfl f10 rfl LH_0 (by decide) rfl dX6_read_1 ?_
  refine lv_iload_n S.1 S.2.1 dX6_read_4 rfl (lv_at hl 1 rfl) ?_
  refine lv_iload_n S.1 S.2.1 dX6_read_5 rfl (lv_at hl 2 rfl) ?_
  refine r_goI (r_runV (rest := []) S hW (mX4_whyNoPlace l D T σ M a1 a2 _ h) w67 rfl LH_1 rfl hl.1 rfl (Nat.le_of_ble_eq_true rfl) dX6_read_6 ⟨Nat.zero_le _, Nat.zero_le _⟩) hW (fun r1 M2 H locs h hW => ?_)
  refine lv_istore_n (lv' := [(3, .int r1), (0, .ref (σ 0)), (1, .int a1), (2, .int a2)]) S.1 S.2.1 dX6_read_9 rfl hl (by decide) rfl (fun ls hl => ?_)
  refine lv_iload_n S.1 S.2.1 dX6_read_10 rfl (lv_at hl 0 rfl) ?_
  refine lv_if_eq (tgt := 21) S.1 S.2.1 dX6_read_11 (by decide) (fun c3 => ?_) (fun c3 => ?_)
  · have h := h.1 c3
    refine lv_aload_n S.1 S.2.1 dX6_read_21 rfl (lv_at hl 1 rfl) ?_
    refine lv_iconst (v := 0) S.1 S.2.1 dX6_read_22 rfl ?_
    refine r_putI (j := 5) S hW inX6 rfl f44 rfl LH_0 (by decide) rfl tyX6 tyX6_ok nmX6 rfl rfl rfl dX6_read_23 (fun M4 H locs eM4 hW => ?_)
    have h := h M4 eM4
    refine lv_aload_n S.1 S.2.1 dX6_read_26 rfl (lv_at hl 1 rfl) ?_
    refine r_getR (j := 0) S hW inX6 rfl f10 rfl LH_0 (by decide) rfl dX6_read_27 ?_
    refine lv_iload_n S.1 S.2.1 dX6_read_30 rfl (lv_at hl 2 rfl) ?_
    refine lv_iload_n S.1 S.2.1 dX6_read_31 rfl (lv_at hl 3 rfl) ?_
    refine r_goL (r_runV (rest := []) S hW (mX4_at l D T σ M4 a1 a2 _ h) w79 rfl LH_1 rfl hl.1 rfl (Nat.le_of_ble_eq_true rfl) dX6_read_32 ⟨Nat.zero_le _, Nat.zero_le _⟩) hW (fun r5 M6 H locs h hW => ?_)
    exact r_lret S hr hlk hW h dX6_read_35
  · have h := h.2 c3
    refine lv_aload_n S.1 S.2.1 dX6_read_14 rfl (lv_at hl 1 rfl) ?_
    refine lv_iload_n S.1 S.2.1 dX6_read_15 rfl (lv_at hl 0 rfl) ?_
    refine r_goI (r_runV (rest := []) S hW (mX6_deny l D T σ M2 r1 _ h) w75 rfl LH_0 rfl hl.1 rfl (Nat.le_of_ble_eq_true rfl) dX6_read_16 ⟨Nat.zero_le _, Nat.zero_le _⟩) hW (fun r7 M8 H locs h hW => ?_)
    refine lv_i2l S.1 S.2.1 dX6_read_19 rfl ?_
    exact r_lret S hr hlk hW h dX6_read_20
abbrev rmX6_drop : Room := { frames := 2, cells := 0, slots := 0, locals := 43 }
set_option maxHeartbeats 4000000 in
set_option maxRecDepth 100000 in
theorem mX6_drop (l : Launch) (D : va_G) (T : Nat → ClassId) (σ : Nat → Nat) (M : Mem) (a1 : Int32) (post : Int32 → Mem → Prop) (h : qX6_drop a1 M post) : Met l yX6_drop wsX6_drop rmX6_drop (preW D T LH σ [.ref (σ 0), .int a1] M) (postI D T LH σ post) 0 0 (fA LH σ) := by
  refine m_of (cc := cX6_drop) (maxL := 2) (ret := (some .boolean)) (own := RX6) (by decide) rfl rfl (Nat.le_of_ble_eq_true rfl) ?_
  intro p e s m args below meth c H ls locs S hr hlk hl hW
  have hl : lv_has ls 2 [(0, .ref (σ 0)), (1, .int a1)] := hl
  have w48 := va_cwS (R := rmX6_drop) (rm := rmX4_isNumber) (mc := 0) (ms := 0) 1 S.2.2.2.2 gX6_drop_X4_isNumber rfl rfl rfl (by decide +kernel) ⟨Nat.le_of_ble_eq_true rfl, Nat.le_of_ble_eq_true rfl⟩
  have inX6 : ∀ w ∈ u_ws RX6 TX6 6, w ∈ wsX6_drop := by decide +kernel
  have f10 := S.2.2.2.2 (.fieldLink RX6 10 "MachineHall" "sheets" "LMachineHall$Sheets;") (by decide +kernel)
  have w83 := cwV (R := rmX6_drop) (rm := rmX4_isMissing) (mc := 0) (ms := 0) 1 S.2.2.2.2 gX6_drop_X4_isMissing rfl rfl rfl (by decide +kernel) ⟨Nat.le_of_ble_eq_true rfl, Nat.le_of_ble_eq_true rfl⟩
  have w86 := cwV (R := rmX6_drop) (rm := rmX4_lose) (mc := 0) (ms := 0) 1 S.2.2.2.2 gX6_drop_X4_lose rfl rfl rfl (by decide +kernel) ⟨Nat.le_of_ble_eq_true rfl, Nat.le_of_ble_eq_true rfl⟩
  have w63 := cwV (R := rmX6_drop) (rm := rmX6_agree) (mc := 0) (ms := 0) 0 S.2.2.2.2 gX6_drop_X6_agree rfl rfl rfl (by decide +kernel) ⟨Nat.le_of_ble_eq_true rfl, Nat.le_of_ble_eq_true rfl⟩
  have w56 := cwV (R := rmX6_drop) (rm := rmX6_refuse) (mc := 0) (ms := 0) 1 S.2.2.2.2 gX6_drop_X6_refuse rfl rfl rfl (by decide +kernel) ⟨Nat.le_of_ble_eq_true rfl, Nat.le_of_ble_eq_true rfl⟩
  refine lv_iload_n S.1 S.2.1 dX6_drop_0 rfl (lv_at hl 1 rfl) ?_
  refine r_goI (r_runS (rest := []) S hW (mX4_isNumber l D T σ M a1 _ h) w48 rfl hl.1 rfl (Nat.le_of_ble_eq_true rfl) dX6_drop_1 ⟨Nat.zero_le _, Nat.zero_le _⟩) hW (fun r1 M2 H locs h hW => ?_)
  refine lv_if_ne (tgt := 13) S.1 S.2.1 dX6_drop_4 (by decide) (fun c3 => ?_) (fun c3 => ?_)
  · have h := h.1 c3
    refine lv_aload_n S.1 S.2.1 dX6_drop_13 rfl (lv_at hl 0 rfl) ?_
    refine r_getR (j := 0) S hW inX6 rfl f10 rfl LH_0 (by decide) rfl dX6_drop_14 ?_
    refine lv_iload_n S.1 S.2.1 dX6_drop_17 rfl (lv_at hl 1 rfl) ?_
    refine r_goI (r_runV (rest := []) S hW (mX4_isMissing l D T σ M2 a1 _ h) w83 rfl LH_1 rfl hl.1 rfl (Nat.le_of_ble_eq_true rfl) dX6_drop_18 ⟨Nat.zero_le _, Nat.zero_le _⟩) hW (fun r4 M5 H locs h hW => ?_)
    refine lv_if_eq (tgt := 30) S.1 S.2.1 dX6_drop_21 (by decide) (fun c6 => ?_) (fun c6 => ?_)
    · have h := h.1 c6
      refine lv_aload_n S.1 S.2.1 dX6_drop_30 rfl (lv_at hl 0 rfl) ?_
      refine r_getR (j := 0) S hW inX6 rfl f10 rfl LH_0 (by decide) rfl dX6_drop_31 ?_
      refine lv_iload_n S.1 S.2.1 dX6_drop_34 rfl (lv_at hl 1 rfl) ?_
      refine r_goV (r_runV (rest := []) S hW (mX4_lose l D T σ M5 a1 _ h) w86 rfl LH_1 rfl hl.1 rfl (Nat.le_of_ble_eq_true rfl) dX6_drop_35 ⟨Nat.zero_le _, Nat.zero_le _⟩) hW (fun M8 H locs h hW => ?_)
      refine lv_aload_n S.1 S.2.1 dX6_drop_38 rfl (lv_at hl 0 rfl) ?_
      refine r_goI (r_runV (rest := []) S hW (mX6_agree l D T σ M8 _ h) w63 rfl LH_0 rfl hl.1 rfl (Nat.le_of_ble_eq_true rfl) dX6_drop_39 ⟨Nat.zero_le _, Nat.zero_le _⟩) hW (fun r9 M10 H locs h hW => ?_)
      exact r_zret S hr hlk hW h.1 h.2 dX6_drop_42
    · have h := h.2 c6
      refine lv_aload_n S.1 S.2.1 dX6_drop_24 rfl (lv_at hl 0 rfl) ?_
      refine lv_iconst (v := 2) S.1 S.2.1 dX6_drop_25 rfl ?_
      refine r_goI (r_runV (rest := []) S hW (mX6_refuse l D T σ M5 (2 : Int32) _ h) w56 rfl LH_0 rfl hl.1 rfl (Nat.le_of_ble_eq_true rfl) dX6_drop_26 ⟨Nat.zero_le _, Nat.zero_le _⟩) hW (fun r11 M12 H locs h hW => ?_)
      exact r_zret S hr hlk hW h.1 h.2 dX6_drop_29
  · have h := h.2 c3
    refine lv_aload_n S.1 S.2.1 dX6_drop_7 rfl (lv_at hl 0 rfl) ?_
    refine lv_iconst (v := 1) S.1 S.2.1 dX6_drop_8 rfl ?_
    refine r_goI (r_runV (rest := []) S hW (mX6_refuse l D T σ M2 (1 : Int32) _ h) w56 rfl LH_0 rfl hl.1 rfl (Nat.le_of_ble_eq_true rfl) dX6_drop_9 ⟨Nat.zero_le _, Nat.zero_le _⟩) hW (fun r13 M14 H locs h hW => ?_)
    exact r_zret S hr hlk hW h.1 h.2 dX6_drop_12
abbrev rmX6_copy : Room := { frames := 3, cells := 0, slots := 0, locals := 86 }
set_option maxHeartbeats 4000000 in
set_option maxRecDepth 100000 in
theorem mX6_copy (l : Launch) (D : va_G) (T : Nat → ClassId) (σ : Nat → Nat) (M : Mem) (a1 : Int32) (a2 : Int32) (a3 : Int32) (a4 : Int32) (a5 : Int32) (post : Int32 → Mem → Prop) (h : qX6_copy a1 a2 a3 a4 a5 M post) : Met l yX6_copy wsX6_copy rmX6_copy (preW D T LH σ [.ref (σ 0), .int a1, .int a2, .int a3, .int a4, .int a5] M) (postI D T LH σ post) 0 0 (fA LH σ) := by
  refine m_of (cc := cX6_copy) (maxL := 6) (ret := (some .boolean)) (own := RX6) (by decide) rfl rfl (Nat.le_of_ble_eq_true rfl) ?_
  intro p e s m args below meth c H ls locs S hr hlk hl hW
  have hl : lv_has ls 6 [(0, .ref (σ 0)), (1, .int a1), (2, .int a2), (3, .int a3), (4, .int a4), (5, .int a5)] := hl
  have w48 := va_cwS (R := rmX6_copy) (rm := rmX4_isNumber) (mc := 0) (ms := 0) 1 S.2.2.2.2 gX6_copy_X4_isNumber rfl rfl rfl (by decide +kernel) ⟨Nat.le_of_ble_eq_true rfl, Nat.le_of_ble_eq_true rfl⟩
  have inX6 : ∀ w ∈ u_ws RX6 TX6 6, w ∈ wsX6_copy := by decide +kernel
  have f10 := S.2.2.2.2 (.fieldLink RX6 10 "MachineHall" "sheets" "LMachineHall$Sheets;") (by decide +kernel)
  have w83 := cwV (R := rmX6_copy) (rm := rmX4_isMissing) (mc := 0) (ms := 0) 1 S.2.2.2.2 gX6_copy_X4_isMissing rfl rfl rfl (by decide +kernel) ⟨Nat.le_of_ble_eq_true rfl, Nat.le_of_ble_eq_true rfl⟩
  have w56 := cwV (R := rmX6_copy) (rm := rmX6_refuse) (mc := 0) (ms := 0) 1 S.2.2.2.2 gX6_copy_X6_refuse rfl rfl rfl (by decide +kernel) ⟨Nat.le_of_ble_eq_true rfl, Nat.le_of_ble_eq_true rfl⟩
  have w90 := cwV (R := rmX6_copy) (rm := rmX4_spans) (mc := 0) (ms := 0) 3 S.2.2.2.2 gX6_copy_X4_spans rfl rfl rfl (by decide +kernel) ⟨Nat.le_of_ble_eq_true rfl, Nat.le_of_ble_eq_true rfl⟩
  have w94 := cwV (R := rmX6_copy) (rm := rmX4_carry) (mc := 0) (ms := 0) 5 S.2.2.2.2 gX6_copy_X4_carry rfl rfl rfl (by decide +kernel) ⟨Nat.le_of_ble_eq_true rfl, Nat.le_of_ble_eq_true rfl⟩
  have w63 := cwV (R := rmX6_copy) (rm := rmX6_agree) (mc := 0) (ms := 0) 0 S.2.2.2.2 gX6_copy_X6_agree rfl rfl rfl (by decide +kernel) ⟨Nat.le_of_ble_eq_true rfl, Nat.le_of_ble_eq_true rfl⟩
  obtain ⟨R28, e28⟩ : ∃ R : Mem → Prop, ∀ M, R M ↔ WW p l e rmX6_copy s m args below meth c D T LH σ 6 (MQ below (postI D T LH σ post) args s 0 0 (fA LH σ)) 28 [(0, .ref (σ 0))] [] M := ⟨_, fun _ => Iff.rfl⟩
  have h := h R28
  have z28 : ∀ M, qX6_copy_b28 a1 a2 a3 a4 a5 post R28 M → R28 M := by
    intro M h
    refine (e28 _).mpr (fun H locs ls hW hl => ?_)
    refine lv_aload_n S.1 S.2.1 dX6_copy_28 rfl (lv_at hl 0 rfl) ?_
    refine lv_iconst (v := 1) S.1 S.2.1 dX6_copy_29 rfl ?_
    refine r_goI (r_runV (rest := []) S hW (mX6_refuse l D T σ M (1 : Int32) _ h) w56 rfl LH_0 rfl hl.1 rfl (Nat.le_of_ble_eq_true rfl) dX6_copy_30 ⟨Nat.zero_le _, Nat.zero_le _⟩) hW (fun r34 M35 H locs h hW => ?_)
    exact r_zret S hr hlk hW h.1 h.2 dX6_copy_33
  have h := h z28
  refine lv_iload_n S.1 S.2.1 dX6_copy_0 rfl (lv_at hl 1 rfl) ?_
  refine r_goI (r_runS (rest := []) S hW (mX4_isNumber l D T σ M a1 _ h) w48 rfl hl.1 rfl (Nat.le_of_ble_eq_true rfl) dX6_copy_1 ⟨Nat.zero_le _, Nat.zero_le _⟩) hW (fun r1 M2 H locs h hW => ?_)
  refine lv_if_eq (tgt := 28) S.1 S.2.1 dX6_copy_4 (by decide) (fun c3 => ?_) (fun c3 => ?_)
  · have h := h.1 c3
    exact (e28  _).mp h H locs ls hW (lv_sub hl [0] rfl)
  · have h := h.2 c3
    refine lv_iload_n S.1 S.2.1 dX6_copy_7 rfl (lv_at hl 3 rfl) ?_
    refine r_goI (r_runS (rest := []) S hW (mX4_isNumber l D T σ M2 a3 _ h) w48 rfl hl.1 rfl (Nat.le_of_ble_eq_true rfl) dX6_copy_8 ⟨Nat.zero_le _, Nat.zero_le _⟩) hW (fun r4 M5 H locs h hW => ?_)
    refine lv_if_eq (tgt := 28) S.1 S.2.1 dX6_copy_11 (by decide) (fun c6 => ?_) (fun c6 => ?_)
    · have h := h.1 c6
      exact (e28  _).mp h H locs ls hW (lv_sub hl [0] rfl)
    · have h := h.2 c6
      refine lv_iload_n S.1 S.2.1 dX6_copy_14 rfl (lv_at hl 2 rfl) ?_
      refine lv_if_lt (tgt := 28) S.1 S.2.1 dX6_copy_15 (by decide) (fun c7 => ?_) (fun c7 => ?_)
      · have h := h.1 c7
        exact (e28  _).mp h H locs ls hW (lv_sub hl [0] rfl)
      · have h := h.2 c7
        refine lv_iload S.1 S.2.1 dX6_copy_18 (lv_at hl 4 rfl) ?_
        refine lv_if_lt (tgt := 28) S.1 S.2.1 dX6_copy_20 (by decide) (fun c8 => ?_) (fun c8 => ?_)
        · have h := h.1 c8
          exact (e28  _).mp h H locs ls hW (lv_sub hl [0] rfl)
        · have h := h.2 c8
          refine lv_iload S.1 S.2.1 dX6_copy_23 (lv_at hl 5 rfl) ?_
          refine lv_if_ge (tgt := 34) S.1 S.2.1 dX6_copy_25 (by decide) (fun c9 => ?_) (fun c9 => ?_)
          · have h := h.1 c9
            refine lv_aload_n S.1 S.2.1 dX6_copy_34 rfl (lv_at hl 0 rfl) ?_
            refine r_getR (j := 0) S hW inX6 rfl f10 rfl LH_0 (by decide) rfl dX6_copy_35 ?_
            refine lv_iload_n S.1 S.2.1 dX6_copy_38 rfl (lv_at hl 1 rfl) ?_
            refine r_goI (r_runV (rest := []) S hW (mX4_isMissing l D T σ M5 a1 _ h) w83 rfl LH_1 rfl hl.1 rfl (Nat.le_of_ble_eq_true rfl) dX6_copy_39 ⟨Nat.zero_le _, Nat.zero_le _⟩) hW (fun r10 M11 H locs h hW => ?_)
            refine lv_if_ne (tgt := 56) S.1 S.2.1 dX6_copy_42 (by decide) (fun c12 => ?_) (fun c12 => ?_)
            · have h := h.1 c12
              refine lv_aload_n S.1 S.2.1 dX6_copy_56 rfl (lv_at hl 0 rfl) ?_
              refine lv_iconst (v := 2) S.1 S.2.1 dX6_copy_57 rfl ?_
              refine r_goI (r_runV (rest := []) S hW (mX6_refuse l D T σ M11 (2 : Int32) _ h) w56 rfl LH_0 rfl hl.1 rfl (Nat.le_of_ble_eq_true rfl) dX6_copy_58 ⟨Nat.zero_le _, Nat.zero_le _⟩) hW (fun r13 M14 H locs h hW => ?_)
              exact r_zret S hr hlk hW h.1 h.2 dX6_copy_61
            · have h := h.2 c12
              refine lv_aload_n S.1 S.2.1 dX6_copy_45 rfl (lv_at hl 0 rfl) ?_
              refine r_getR (j := 0) S hW inX6 rfl f10 rfl LH_0 (by decide) rfl dX6_copy_46 ?_
              refine lv_iload_n S.1 S.2.1 dX6_copy_49 rfl (lv_at hl 3 rfl) ?_
              refine r_goI (r_runV (rest := []) S hW (mX4_isMissing l D T σ M11 a3 _ h) w83 rfl LH_1 rfl hl.1 rfl (Nat.le_of_ble_eq_true rfl) dX6_copy_50 ⟨Nat.zero_le _, Nat.zero_le _⟩) hW (fun r15 M16 H locs h hW => ?_)
              refine lv_if_eq (tgt := 62) S.1 S.2.1 dX6_copy_53 (by decide) (fun c17 => ?_) (fun c17 => ?_)
              · have h := h.1 c17
                refine lv_aload_n S.1 S.2.1 dX6_copy_62 rfl (lv_at hl 0 rfl) ?_
                refine r_getR (j := 0) S hW inX6 rfl f10 rfl LH_0 (by decide) rfl dX6_copy_63 ?_
                refine lv_iload_n S.1 S.2.1 dX6_copy_66 rfl (lv_at hl 1 rfl) ?_
                refine lv_iload_n S.1 S.2.1 dX6_copy_67 rfl (lv_at hl 2 rfl) ?_
                refine lv_iload S.1 S.2.1 dX6_copy_68 (lv_at hl 5 rfl) ?_
                refine r_goI (r_runV (rest := []) S hW (mX4_spans l D T σ M16 a1 a2 a5 _ h) w90 rfl LH_1 rfl hl.1 rfl (Nat.le_of_ble_eq_true rfl) dX6_copy_70 ⟨Nat.zero_le _, Nat.zero_le _⟩) hW (fun r18 M19 H locs h hW => ?_)
                refine lv_if_eq (tgt := 91) S.1 S.2.1 dX6_copy_73 (by decide) (fun c20 => ?_) (fun c20 => ?_)
                · have h := h.1 c20
                  refine lv_aload_n S.1 S.2.1 dX6_copy_91 rfl (lv_at hl 0 rfl) ?_
                  refine lv_iconst (v := 3) S.1 S.2.1 dX6_copy_92 rfl ?_
                  refine r_goI (r_runV (rest := []) S hW (mX6_refuse l D T σ M19 (3 : Int32) _ h) w56 rfl LH_0 rfl hl.1 rfl (Nat.le_of_ble_eq_true rfl) dX6_copy_93 ⟨Nat.zero_le _, Nat.zero_le _⟩) hW (fun r21 M22 H locs h hW => ?_)
                  exact r_zret S hr hlk hW h.1 h.2 dX6_copy_96
                · have h := h.2 c20
                  refine lv_aload_n S.1 S.2.1 dX6_copy_76 rfl (lv_at hl 0 rfl) ?_
                  refine r_getR (j := 0) S hW inX6 rfl f10 rfl LH_0 (by decide) rfl dX6_copy_77 ?_
                  refine lv_iload_n S.1 S.2.1 dX6_copy_80 rfl (lv_at hl 3 rfl) ?_
                  refine lv_iload S.1 S.2.1 dX6_copy_81 (lv_at hl 4 rfl) ?_
                  refine lv_iload S.1 S.2.1 dX6_copy_83 (lv_at hl 5 rfl) ?_
                  refine r_goI (r_runV (rest := []) S hW (mX4_spans l D T σ M19 a3 a4 a5 _ h) w90 rfl LH_1 rfl hl.1 rfl (Nat.le_of_ble_eq_true rfl) dX6_copy_85 ⟨Nat.zero_le _, Nat.zero_le _⟩) hW (fun r23 M24 H locs h hW => ?_)
                  refine lv_if_ne (tgt := 97) S.1 S.2.1 dX6_copy_88 (by decide) (fun c25 => ?_) (fun c25 => ?_)
                  · have h := h.1 c25
                    refine lv_aload_n S.1 S.2.1 dX6_copy_97 rfl (lv_at hl 0 rfl) ?_
                    refine r_getR (j := 0) S hW inX6 rfl f10 rfl LH_0 (by decide) rfl dX6_copy_98 ?_
                    refine lv_iload_n S.1 S.2.1 dX6_copy_101 rfl (lv_at hl 1 rfl) ?_
                    refine lv_iload_n S.1 S.2.1 dX6_copy_102 rfl (lv_at hl 2 rfl) ?_
                    refine lv_iload_n S.1 S.2.1 dX6_copy_103 rfl (lv_at hl 3 rfl) ?_
                    refine lv_iload S.1 S.2.1 dX6_copy_104 (lv_at hl 4 rfl) ?_
                    refine lv_iload S.1 S.2.1 dX6_copy_106 (lv_at hl 5 rfl) ?_
                    refine r_goV (r_runV (rest := []) S hW (mX4_carry l D T σ M24 a1 a2 a3 a4 a5 _ h) w94 rfl LH_1 rfl hl.1 rfl (Nat.le_of_ble_eq_true rfl) dX6_copy_108 ⟨Nat.zero_le _, Nat.zero_le _⟩) hW (fun M27 H locs h hW => ?_)
                    refine lv_aload_n S.1 S.2.1 dX6_copy_111 rfl (lv_at hl 0 rfl) ?_
                    refine r_goI (r_runV (rest := []) S hW (mX6_agree l D T σ M27 _ h) w63 rfl LH_0 rfl hl.1 rfl (Nat.le_of_ble_eq_true rfl) dX6_copy_112 ⟨Nat.zero_le _, Nat.zero_le _⟩) hW (fun r28 M29 H locs h hW => ?_)
                    exact r_zret S hr hlk hW h.1 h.2 dX6_copy_115
                  · have h := h.2 c25
                    refine lv_aload_n S.1 S.2.1 dX6_copy_91 rfl (lv_at hl 0 rfl) ?_
                    refine lv_iconst (v := 3) S.1 S.2.1 dX6_copy_92 rfl ?_
                    refine r_goI (r_runV (rest := []) S hW (mX6_refuse l D T σ M24 (3 : Int32) _ h) w56 rfl LH_0 rfl hl.1 rfl (Nat.le_of_ble_eq_true rfl) dX6_copy_93 ⟨Nat.zero_le _, Nat.zero_le _⟩) hW (fun r30 M31 H locs h hW => ?_)
                    exact r_zret S hr hlk hW h.1 h.2 dX6_copy_96
              · have h := h.2 c17
                refine lv_aload_n S.1 S.2.1 dX6_copy_56 rfl (lv_at hl 0 rfl) ?_
                refine lv_iconst (v := 2) S.1 S.2.1 dX6_copy_57 rfl ?_
                refine r_goI (r_runV (rest := []) S hW (mX6_refuse l D T σ M16 (2 : Int32) _ h) w56 rfl LH_0 rfl hl.1 rfl (Nat.le_of_ble_eq_true rfl) dX6_copy_58 ⟨Nat.zero_le _, Nat.zero_le _⟩) hW (fun r32 M33 H locs h hW => ?_)
                exact r_zret S hr hlk hW h.1 h.2 dX6_copy_61
          · have h := h.2 c9
            exact (e28  _).mp h H locs ls hW (lv_sub hl [0] rfl)
abbrev rmX6_none : Room := { frames := 1, cells := 0, slots := 0, locals := 21 }
set_option maxHeartbeats 4000000 in
set_option maxRecDepth 100000 in
theorem mX6_none (l : Launch) (D : va_G) (T : Nat → ClassId) (σ : Nat → Nat) (M : Mem)  (post : Int32 → Mem → Prop) (h : qX6_none M post) : Met l yX6_none wsX6_none rmX6_none (preW D T LH σ [.ref (σ 0)] M) (postI D T LH σ post) 0 0 (fA LH σ) := by
  refine m_of (cc := cX6_none) (maxL := 1) (ret := (some .boolean)) (own := RX6) (by decide) rfl rfl (Nat.le_of_ble_eq_true rfl) ?_
  intro p e s m args below meth c H ls locs S hr hlk hl hW
  have hl : lv_has ls 1 [(0, .ref (σ 0))] := hl
  have w56 := cwV (R := rmX6_none) (rm := rmX6_refuse) (mc := 0) (ms := 0) 1 S.2.2.2.2 gX6_none_X6_refuse rfl rfl rfl (by decide +kernel) ⟨Nat.le_of_ble_eq_true rfl, Nat.le_of_ble_eq_true rfl⟩
  refine lv_aload_n S.1 S.2.1 dX6_none_0 rfl (lv_at hl 0 rfl) ?_
  refine lv_bipush (v := 8) S.1 S.2.1 dX6_none_1 rfl ?_
  refine r_goI (r_runV (rest := []) S hW (mX6_refuse l D T σ M (8 : Int32) _ h) w56 rfl LH_0 rfl hl.1 rfl (Nat.le_of_ble_eq_true rfl) dX6_none_3 ⟨Nat.zero_le _, Nat.zero_le _⟩) hW (fun r1 M2 H locs h hW => ?_)
  exact r_zret S hr hlk hW h.1 h.2 dX6_none_6
abbrev rmX6_answer : Room := { frames := 0, cells := 0, slots := 0, locals := 0 }
set_option maxHeartbeats 4000000 in
set_option maxRecDepth 100000 in
theorem mX6_answer (l : Launch) (D : va_G) (T : Nat → ClassId) (σ : Nat → Nat) (M : Mem) (a1 : Int32) (post : Int32 → Mem → Prop) (h : qX6_answer a1 M post) : Met l yX6_answer wsX6_answer rmX6_answer (preW D T LH σ [.ref (σ 0), .int a1] M) (postI D T LH σ post) 0 0 (fA LH σ) := by
  refine m_of (cc := cX6_answer) (maxL := 2) (ret := (some .int)) (own := RX6) (by decide) rfl rfl (Nat.le_of_ble_eq_true rfl) ?_
  intro p e s m args below meth c H ls locs S hr hlk hl hW
  have hl : lv_has ls 2 [(0, .ref (σ 0)), (1, .int a1)] := hl
  have inX6 : ∀ w ∈ u_ws RX6 TX6 6, w ∈ wsX6_answer := by decide +kernel
  have f44 := S.2.2.2.2 (.fieldLink RX6 44 "MachineHall" "status" "I") (by decide +kernel)
  refine lv_aload_n S.1 S.2.1 dX6_answer_0 rfl (lv_at hl 0 rfl) ?_
  refine lv_iconst (v := 0) S.1 S.2.1 dX6_answer_1 rfl ?_
  refine r_putI (j := 5) S hW inX6 rfl f44 rfl LH_0 (by decide) rfl tyX6 tyX6_ok nmX6 rfl rfl rfl dX6_answer_2 (fun M1 H locs eM1 hW => ?_)
  have h := h M1 eM1
  refine lv_iload_n S.1 S.2.1 dX6_answer_5 rfl (lv_at hl 1 rfl) ?_
  exact r_iret S hr hlk hW h dX6_answer_6
abbrev rmX6_machine : Room := { frames := 1, cells := 0, slots := 0, locals := 23 }
set_option maxHeartbeats 4000000 in
set_option maxRecDepth 100000 in
theorem mX6_machine (l : Launch) (D : va_G) (T : Nat → ClassId) (σ : Nat → Nat) (M : Mem) (a1 : Int32) (a2 : Int32) (post : Int32 → Mem → Prop) (h : qX6_machine a1 a2 M post) : Met l yX6_machine wsX6_machine rmX6_machine (preW D T LH σ [.ref (σ 0), .int a1, .int a2] M) (postI D T LH σ post) 0 0 (fA LH σ) := by
  refine m_of (cc := cX6_machine) (maxL := 3) (ret := (some .int)) (own := RX6) (by decide) rfl rfl (Nat.le_of_ble_eq_true rfl) ?_
  intro p e s m args below meth c H ls locs S hr hlk hl hW
  have hl : lv_has ls 3 [(0, .ref (σ 0)), (1, .int a1), (2, .int a2)] := hl
  have w52 := va_cwS (R := rmX6_machine) (rm := rmX6_within) (mc := 0) (ms := 0) 3 S.2.2.2.2 gX6_machine_X6_within rfl rfl rfl (by decide +kernel) ⟨Nat.le_of_ble_eq_true rfl, Nat.le_of_ble_eq_true rfl⟩
  have w75 := cwV (R := rmX6_machine) (rm := rmX6_deny) (mc := 0) (ms := 0) 1 S.2.2.2.2 gX6_machine_X6_deny rfl rfl rfl (by decide +kernel) ⟨Nat.le_of_ble_eq_true rfl, Nat.le_of_ble_eq_true rfl⟩
  have inX6 : ∀ w ∈ u_ws RX6 TX6 6, w ∈ wsX6_machine := by decide +kernel
  have f19 := S.2.2.2.2 (.fieldLink RX6 19 "MachineHall" "hall" "LMachineHall$Hall;") (by decide +kernel)
  have inX1 : ∀ w ∈ u_ws RX1 TX1 13, w ∈ wsX6_machine := by decide +kernel
  have f98 := S.2.2.2.2 (.fieldLink RX6 98 "MachineHall$Hall" "machines" "I") (by decide +kernel)
  have w101 := cwV (R := rmX6_machine) (rm := rmX1_addMachine) (mc := 0) (ms := 0) 2 S.2.2.2.2 gX6_machine_X1_addMachine rfl rfl rfl (by decide +kernel) ⟨Nat.le_of_ble_eq_true rfl, Nat.le_of_ble_eq_true rfl⟩
  have w104 := cwV (R := rmX6_machine) (rm := rmX6_answer) (mc := 0) (ms := 0) 1 S.2.2.2.2 gX6_machine_X6_answer rfl rfl rfl (by decide +kernel) ⟨Nat.le_of_ble_eq_true rfl, Nat.le_of_ble_eq_true rfl⟩
  refine lv_iload_n S.1 S.2.1 dX6_machine_0 rfl (lv_at hl 1 rfl) ?_
  refine lv_i2l S.1 S.2.1 dX6_machine_1 rfl ?_
  refine lv_iconst (v := 1) S.1 S.2.1 dX6_machine_2 rfl ?_
  refine lv_bipush (v := 100) S.1 S.2.1 dX6_machine_3 rfl ?_
  refine r_goI (r_runS (rest := []) S hW (mX6_within l D T LH σ M (a1.toInt64) (1 : Int32) (100 : Int32) _ h) w52 rfl hl.1 rfl (Nat.le_of_ble_eq_true rfl) dX6_machine_5 ⟨Nat.zero_le _, Nat.zero_le _⟩) hW (fun r1 M2 H locs h hW => ?_)
  refine lv_if_eq (tgt := 21) S.1 S.2.1 dX6_machine_8 (by decide) (fun c3 => ?_) (fun c3 => ?_)
  · have h := h.1 c3
    refine lv_aload_n S.1 S.2.1 dX6_machine_21 rfl (lv_at hl 0 rfl) ?_
    refine lv_iconst (v := 1) S.1 S.2.1 dX6_machine_22 rfl ?_
    refine r_goI (r_runV (rest := []) S hW (mX6_deny l D T σ M2 (1 : Int32) _ h) w75 rfl LH_0 rfl hl.1 rfl (Nat.le_of_ble_eq_true rfl) dX6_machine_23 ⟨Nat.zero_le _, Nat.zero_le _⟩) hW (fun r4 M5 H locs h hW => ?_)
    exact r_iret S hr hlk hW h dX6_machine_26
  · have h := h.2 c3
    refine lv_iload_n S.1 S.2.1 dX6_machine_11 rfl (lv_at hl 2 rfl) ?_
    refine lv_i2l S.1 S.2.1 dX6_machine_12 rfl ?_
    refine lv_iconst (v := 0) S.1 S.2.1 dX6_machine_13 rfl ?_
    refine lv_iconst (v := 3) S.1 S.2.1 dX6_machine_14 rfl ?_
    refine r_goI (r_runS (rest := []) S hW (mX6_within l D T LH σ M2 (a2.toInt64) (0 : Int32) (3 : Int32) _ h) w52 rfl hl.1 rfl (Nat.le_of_ble_eq_true rfl) dX6_machine_15 ⟨Nat.zero_le _, Nat.zero_le _⟩) hW (fun r6 M7 H locs h hW => ?_)
    refine lv_if_ne (tgt := 27) S.1 S.2.1 dX6_machine_18 (by decide) (fun c8 => ?_) (fun c8 => ?_)
    · have h := h.1 c8
      refine lv_aload_n S.1 S.2.1 dX6_machine_27 rfl (lv_at hl 0 rfl) ?_
      refine r_getR (j := 1) S hW inX6 rfl f19 rfl LH_0 (by decide) rfl dX6_machine_28 ?_
      refine r_getI (j := 0) S hW inX1 rfl f98 rfl LH_11 (by decide) rfl dX6_machine_31 ?_
      refine lv_bipush (v := 12) S.1 S.2.1 dX6_machine_34 rfl ?_
      refine lv_icmp_ne (tgt := 45) S.1 S.2.1 dX6_machine_36 (by decide) (fun c9 => ?_) (fun c9 => ?_)
      · have h := h.1 c9
        refine lv_aload_n S.1 S.2.1 dX6_machine_45 rfl (lv_at hl 0 rfl) ?_
        refine lv_aload_n S.1 S.2.1 dX6_machine_46 rfl (lv_at hl 0 rfl) ?_
        refine r_getR (j := 1) S hW inX6 rfl f19 rfl LH_0 (by decide) rfl dX6_machine_47 ?_
        refine lv_iload_n S.1 S.2.1 dX6_machine_50 rfl (lv_at hl 1 rfl) ?_
        refine lv_iload_n S.1 S.2.1 dX6_machine_51 rfl (lv_at hl 2 rfl) ?_
        refine r_goI (r_runV (rest := [.ref (σ 0)]) S hW (mX1_addMachine l D T σ M7 a1 a2 _ h) w101 rfl LH_11 rfl hl.1 rfl (Nat.le_of_ble_eq_true rfl) dX6_machine_52 ⟨Nat.zero_le _, Nat.zero_le _⟩) hW (fun r10 M11 H locs h hW => ?_)
        refine r_goI (r_runV (rest := []) S hW (mX6_answer l D T σ M11 r10 _ h) w104 rfl LH_0 rfl hl.1 rfl (Nat.le_of_ble_eq_true rfl) dX6_machine_55 ⟨Nat.zero_le _, Nat.zero_le _⟩) hW (fun r12 M13 H locs h hW => ?_)
        exact r_iret S hr hlk hW h dX6_machine_58
      · have h := h.2 c9
        refine lv_aload_n S.1 S.2.1 dX6_machine_39 rfl (lv_at hl 0 rfl) ?_
        refine lv_iconst (v := 4) S.1 S.2.1 dX6_machine_40 rfl ?_
        refine r_goI (r_runV (rest := []) S hW (mX6_deny l D T σ M7 (4 : Int32) _ h) w75 rfl LH_0 rfl hl.1 rfl (Nat.le_of_ble_eq_true rfl) dX6_machine_41 ⟨Nat.zero_le _, Nat.zero_le _⟩) hW (fun r14 M15 H locs h hW => ?_)
        exact r_iret S hr hlk hW h dX6_machine_44
    · have h := h.2 c8
      refine lv_aload_n S.1 S.2.1 dX6_machine_21 rfl (lv_at hl 0 rfl) ?_
      refine lv_iconst (v := 1) S.1 S.2.1 dX6_machine_22 rfl ?_
      refine r_goI (r_runV (rest := []) S hW (mX6_deny l D T σ M7 (1 : Int32) _ h) w75 rfl LH_0 rfl hl.1 rfl (Nat.le_of_ble_eq_true rfl) dX6_machine_23 ⟨Nat.zero_le _, Nat.zero_le _⟩) hW (fun r16 M17 H locs h hW => ?_)
      exact r_iret S hr hlk hW h dX6_machine_26
abbrev rmX6_up : Room := { frames := 2, cells := 0, slots := 0, locals := 44 }
set_option maxHeartbeats 4000000 in
set_option maxRecDepth 100000 in
theorem mX6_up (l : Launch) (D : va_G) (T : Nat → ClassId) (σ : Nat → Nat) (M : Mem) (a1 : Int32) (a2 : Int32) (post : Int32 → Mem → Prop) (h : qX6_up a1 a2 M post) : Met l yX6_up wsX6_up rmX6_up (preW D T LH σ [.ref (σ 0), .int a1, .int a2] M) (postI D T LH σ post) 0 0 (fA LH σ) := by
  refine m_of (cc := cX6_up) (maxL := 3) (ret := (some .boolean)) (own := RX6) (by decide) rfl rfl (Nat.le_of_ble_eq_true rfl) ?_
  intro p e s m args below meth c H ls locs S hr hlk hl hW
  have hl : lv_has ls 3 [(0, .ref (σ 0)), (1, .int a1), (2, .int a2)] := hl
  have inX6 : ∀ w ∈ u_ws RX6 TX6 6, w ∈ wsX6_up := by decide +kernel
  have f19 := S.2.2.2.2 (.fieldLink RX6 19 "MachineHall" "hall" "LMachineHall$Hall;") (by decide +kernel)
  have w107 := cwV (R := rmX6_up) (rm := rmX1_hasMachine) (mc := 0) (ms := 0) 1 S.2.2.2.2 gX6_up_X1_hasMachine rfl rfl rfl (by decide +kernel) ⟨Nat.le_of_ble_eq_true rfl, Nat.le_of_ble_eq_true rfl⟩
  have w110 := cwV (R := rmX6_up) (rm := rmX1_isUp) (mc := 0) (ms := 0) 1 S.2.2.2.2 gX6_up_X1_isUp rfl rfl rfl (by decide +kernel) ⟨Nat.le_of_ble_eq_true rfl, Nat.le_of_ble_eq_true rfl⟩
  have w113 := cwV (R := rmX6_up) (rm := rmX1_turn) (mc := 0) (ms := 0) 1 S.2.2.2.2 gX6_up_X1_turn rfl rfl rfl (by decide +kernel) ⟨Nat.le_of_ble_eq_true rfl, Nat.le_of_ble_eq_true rfl⟩
  have w63 := cwV (R := rmX6_up) (rm := rmX6_agree) (mc := 0) (ms := 0) 0 S.2.2.2.2 gX6_up_X6_agree rfl rfl rfl (by decide +kernel) ⟨Nat.le_of_ble_eq_true rfl, Nat.le_of_ble_eq_true rfl⟩
  have w56 := cwV (R := rmX6_up) (rm := rmX6_refuse) (mc := 0) (ms := 0) 1 S.2.2.2.2 gX6_up_X6_refuse rfl rfl rfl (by decide +kernel) ⟨Nat.le_of_ble_eq_true rfl, Nat.le_of_ble_eq_true rfl⟩
  refine lv_aload_n S.1 S.2.1 dX6_up_0 rfl (lv_at hl 0 rfl) ?_
  refine r_getR (j := 1) S hW inX6 rfl f19 rfl LH_0 (by decide) rfl dX6_up_1 ?_
  refine lv_iload_n S.1 S.2.1 dX6_up_4 rfl (lv_at hl 1 rfl) ?_
  refine r_goI (r_runV (rest := []) S hW (mX1_hasMachine l D T σ M a1 _ h) w107 rfl LH_11 rfl hl.1 rfl (Nat.le_of_ble_eq_true rfl) dX6_up_5 ⟨Nat.zero_le _, Nat.zero_le _⟩) hW (fun r1 M2 H locs h hW => ?_)
  refine lv_if_ne (tgt := 17) S.1 S.2.1 dX6_up_8 (by decide) (fun c3 => ?_) (fun c3 => ?_)
  · have h := h.1 c3
    refine lv_aload_n S.1 S.2.1 dX6_up_17 rfl (lv_at hl 0 rfl) ?_
    refine r_getR (j := 1) S hW inX6 rfl f19 rfl LH_0 (by decide) rfl dX6_up_18 ?_
    refine lv_iload_n S.1 S.2.1 dX6_up_21 rfl (lv_at hl 1 rfl) ?_
    refine r_goI (r_runV (rest := []) S hW (mX1_isUp l D T σ M2 a1 _ h) w110 rfl LH_11 rfl hl.1 rfl (Nat.le_of_ble_eq_true rfl) dX6_up_22 ⟨Nat.zero_le _, Nat.zero_le _⟩) hW (fun r4 M5 H locs h hW => ?_)
    refine lv_iload_n S.1 S.2.1 dX6_up_25 rfl (lv_at hl 2 rfl) ?_
    refine lv_icmp_ne (tgt := 35) S.1 S.2.1 dX6_up_26 (by decide) (fun c6 => ?_) (fun c6 => ?_)
    · have h := h.1 c6
      refine lv_aload_n S.1 S.2.1 dX6_up_35 rfl (lv_at hl 0 rfl) ?_
      refine r_getR (j := 1) S hW inX6 rfl f19 rfl LH_0 (by decide) rfl dX6_up_36 ?_
      refine lv_iload_n S.1 S.2.1 dX6_up_39 rfl (lv_at hl 1 rfl) ?_
      refine r_goV (r_runV (rest := []) S hW (mX1_turn l D T σ M5 a1 _ h) w113 rfl LH_11 rfl hl.1 rfl (Nat.le_of_ble_eq_true rfl) dX6_up_40 ⟨Nat.zero_le _, Nat.zero_le _⟩) hW (fun M8 H locs h hW => ?_)
      refine lv_aload_n S.1 S.2.1 dX6_up_43 rfl (lv_at hl 0 rfl) ?_
      refine r_goI (r_runV (rest := []) S hW (mX6_agree l D T σ M8 _ h) w63 rfl LH_0 rfl hl.1 rfl (Nat.le_of_ble_eq_true rfl) dX6_up_44 ⟨Nat.zero_le _, Nat.zero_le _⟩) hW (fun r9 M10 H locs h hW => ?_)
      exact r_zret S hr hlk hW h.1 h.2 dX6_up_47
    · have h := h.2 c6
      refine lv_aload_n S.1 S.2.1 dX6_up_29 rfl (lv_at hl 0 rfl) ?_
      refine lv_iconst (v := 5) S.1 S.2.1 dX6_up_30 rfl ?_
      refine r_goI (r_runV (rest := []) S hW (mX6_refuse l D T σ M5 (5 : Int32) _ h) w56 rfl LH_0 rfl hl.1 rfl (Nat.le_of_ble_eq_true rfl) dX6_up_31 ⟨Nat.zero_le _, Nat.zero_le _⟩) hW (fun r11 M12 H locs h hW => ?_)
      exact r_zret S hr hlk hW h.1 h.2 dX6_up_34
  · have h := h.2 c3
    refine lv_aload_n S.1 S.2.1 dX6_up_11 rfl (lv_at hl 0 rfl) ?_
    refine lv_iconst (v := 1) S.1 S.2.1 dX6_up_12 rfl ?_
    refine r_goI (r_runV (rest := []) S hW (mX6_refuse l D T σ M2 (1 : Int32) _ h) w56 rfl LH_0 rfl hl.1 rfl (Nat.le_of_ble_eq_true rfl) dX6_up_13 ⟨Nat.zero_le _, Nat.zero_le _⟩) hW (fun r13 M14 H locs h hW => ?_)
    exact r_zret S hr hlk hW h.1 h.2 dX6_up_16
abbrev rmX6_isHour : Room := { frames := 1, cells := 0, slots := 0, locals := 23 }
set_option maxHeartbeats 4000000 in
set_option maxRecDepth 100000 in
theorem mX6_isHour (l : Launch) (D : va_G) (T : Nat → ClassId) (σ : Nat → Nat) (M : Mem) (a0 : Int32) (post : Int32 → Mem → Prop) (h : qX6_isHour a0 M post) : Met l yX6_isHour wsX6_isHour rmX6_isHour (preW D T LH σ [.int a0] M) (postI D T LH σ post) 0 0 (fA LH σ) := by
  refine m_of (cc := cX6_isHour) (maxL := 1) (ret := (some .boolean)) (own := RX6) (by decide) rfl rfl (Nat.le_of_ble_eq_true rfl) ?_
  intro p e s m args below meth c H ls locs S hr hlk hl hW
  have hl : lv_has ls 1 [(0, .int a0)] := hl
  have w52 := va_cwS (R := rmX6_isHour) (rm := rmX6_within) (mc := 0) (ms := 0) 3 S.2.2.2.2 gX6_isHour_X6_within rfl rfl rfl (by decide +kernel) ⟨Nat.le_of_ble_eq_true rfl, Nat.le_of_ble_eq_true rfl⟩
  refine lv_iload_n S.1 S.2.1 dX6_isHour_0 rfl (lv_at hl 0 rfl) ?_
  refine lv_i2l S.1 S.2.1 dX6_isHour_1 rfl ?_
  refine lv_iconst (v := 0) S.1 S.2.1 dX6_isHour_2 rfl ?_
  refine lv_bipush (v := 23) S.1 S.2.1 dX6_isHour_3 rfl ?_
  refine r_goI (r_runS (rest := []) S hW (mX6_within l D T LH σ M (a0.toInt64) (0 : Int32) (23 : Int32) _ h) w52 rfl hl.1 rfl (Nat.le_of_ble_eq_true rfl) dX6_isHour_5 ⟨Nat.zero_le _, Nat.zero_le _⟩) hW (fun r1 M2 H locs h hW => ?_)
  exact r_zret S hr hlk hW h.1 h.2 dX6_isHour_8
abbrev rmX6_ask : Room := { frames := 2, cells := 0, slots := 0, locals := 48 }
set_option maxHeartbeats 4000000 in
set_option maxRecDepth 100000 in
theorem mX6_ask (l : Launch) (D : va_G) (T : Nat → ClassId) (σ : Nat → Nat) (M : Mem) (a1 : Int32) (a2 : Int32) (a3 : Int32) (post : Int32 → Mem → Prop) (h : qX6_ask a1 a2 a3 M post) : Met l yX6_ask wsX6_ask rmX6_ask (preW D T LH σ [.ref (σ 0), .int a1, .int a2, .int a3] M) (postI D T LH σ post) 0 0 (fA LH σ) := by
  refine m_of (cc := cX6_ask) (maxL := 4) (ret := (some .int)) (own := RX6) (by decide) rfl rfl (Nat.le_of_ble_eq_true rfl) ?_
  intro p e s m args below meth c H ls locs S hr hlk hl hW
  have hl : lv_has ls 4 [(0, .ref (σ 0)), (1, .int a1), (2, .int a2), (3, .int a3)] := hl
  have w52 := va_cwS (R := rmX6_ask) (rm := rmX6_within) (mc := 0) (ms := 0) 3 S.2.2.2.2 gX6_ask_X6_within rfl rfl rfl (by decide +kernel) ⟨Nat.le_of_ble_eq_true rfl, Nat.le_of_ble_eq_true rfl⟩
  have w75 := cwV (R := rmX6_ask) (rm := rmX6_deny) (mc := 0) (ms := 0) 1 S.2.2.2.2 gX6_ask_X6_deny rfl rfl rfl (by decide +kernel) ⟨Nat.le_of_ble_eq_true rfl, Nat.le_of_ble_eq_true rfl⟩
  have w116 := va_cwS (R := rmX6_ask) (rm := rmX6_isHour) (mc := 0) (ms := 0) 1 S.2.2.2.2 gX6_ask_X6_isHour rfl rfl rfl (by decide +kernel) ⟨Nat.le_of_ble_eq_true rfl, Nat.le_of_ble_eq_true rfl⟩
  have inX6 : ∀ w ∈ u_ws RX6 TX6 6, w ∈ wsX6_ask := by decide +kernel
  have f19 := S.2.2.2.2 (.fieldLink RX6 19 "MachineHall" "hall" "LMachineHall$Hall;") (by decide +kernel)
  have inX1 : ∀ w ∈ u_ws RX1 TX1 13, w ∈ wsX6_ask := by decide +kernel
  have f119 := S.2.2.2.2 (.fieldLink RX6 119 "MachineHall$Hall" "asks" "I") (by decide +kernel)
  have f26 := S.2.2.2.2 (.fieldLink RX6 26 "MachineHall" "plan" "LMachineHall$Plan;") (by decide +kernel)
  have w122 := cwV (R := rmX6_ask) (rm := rmX3_forget) (mc := 0) (ms := 0) 0 S.2.2.2.2 gX6_ask_X3_forget rfl rfl rfl (by decide +kernel) ⟨Nat.le_of_ble_eq_true rfl, Nat.le_of_ble_eq_true rfl⟩
  have w125 := cwV (R := rmX6_ask) (rm := rmX1_addAsk) (mc := 0) (ms := 0) 3 S.2.2.2.2 gX6_ask_X1_addAsk rfl rfl rfl (by decide +kernel) ⟨Nat.le_of_ble_eq_true rfl, Nat.le_of_ble_eq_true rfl⟩
  have w104 := cwV (R := rmX6_ask) (rm := rmX6_answer) (mc := 0) (ms := 0) 1 S.2.2.2.2 gX6_ask_X6_answer rfl rfl rfl (by decide +kernel) ⟨Nat.le_of_ble_eq_true rfl, Nat.le_of_ble_eq_true rfl⟩
  refine lv_iload_n S.1 S.2.1 dX6_ask_0 rfl (lv_at hl 1 rfl) ?_
  refine lv_i2l S.1 S.2.1 dX6_ask_1 rfl ?_
  refine lv_iconst (v := 1) S.1 S.2.1 dX6_ask_2 rfl ?_
  refine lv_bipush (v := 100) S.1 S.2.1 dX6_ask_3 rfl ?_
  refine r_goI (r_runS (rest := []) S hW (mX6_within l D T LH σ M (a1.toInt64) (1 : Int32) (100 : Int32) _ h) w52 rfl hl.1 rfl (Nat.le_of_ble_eq_true rfl) dX6_ask_5 ⟨Nat.zero_le _, Nat.zero_le _⟩) hW (fun r1 M2 H locs h hW => ?_)
  refine lv_if_eq (tgt := 30) S.1 S.2.1 dX6_ask_8 (by decide) (fun c3 => ?_) (fun c3 => ?_)
  · have h := h.1 c3
    refine lv_aload_n S.1 S.2.1 dX6_ask_30 rfl (lv_at hl 0 rfl) ?_
    refine lv_iconst (v := 1) S.1 S.2.1 dX6_ask_31 rfl ?_
    refine r_goI (r_runV (rest := []) S hW (mX6_deny l D T σ M2 (1 : Int32) _ h) w75 rfl LH_0 rfl hl.1 rfl (Nat.le_of_ble_eq_true rfl) dX6_ask_32 ⟨Nat.zero_le _, Nat.zero_le _⟩) hW (fun r4 M5 H locs h hW => ?_)
    exact r_iret S hr hlk hW h dX6_ask_35
  · have h := h.2 c3
    refine lv_iload_n S.1 S.2.1 dX6_ask_11 rfl (lv_at hl 2 rfl) ?_
    refine r_goI (r_runS (rest := []) S hW (mX6_isHour l D T σ M2 a2 _ h) w116 rfl hl.1 rfl (Nat.le_of_ble_eq_true rfl) dX6_ask_12 ⟨Nat.zero_le _, Nat.zero_le _⟩) hW (fun r6 M7 H locs h hW => ?_)
    refine lv_if_eq (tgt := 30) S.1 S.2.1 dX6_ask_15 (by decide) (fun c8 => ?_) (fun c8 => ?_)
    · have h := h.1 c8
      refine lv_aload_n S.1 S.2.1 dX6_ask_30 rfl (lv_at hl 0 rfl) ?_
      refine lv_iconst (v := 1) S.1 S.2.1 dX6_ask_31 rfl ?_
      refine r_goI (r_runV (rest := []) S hW (mX6_deny l D T σ M7 (1 : Int32) _ h) w75 rfl LH_0 rfl hl.1 rfl (Nat.le_of_ble_eq_true rfl) dX6_ask_32 ⟨Nat.zero_le _, Nat.zero_le _⟩) hW (fun r9 M10 H locs h hW => ?_)
      exact r_iret S hr hlk hW h dX6_ask_35
    · have h := h.2 c8
      refine lv_iload_n S.1 S.2.1 dX6_ask_18 rfl (lv_at hl 3 rfl) ?_
      refine r_goI (r_runS (rest := []) S hW (mX6_isHour l D T σ M7 a3 _ h) w116 rfl hl.1 rfl (Nat.le_of_ble_eq_true rfl) dX6_ask_19 ⟨Nat.zero_le _, Nat.zero_le _⟩) hW (fun r11 M12 H locs h hW => ?_)
      refine lv_if_eq (tgt := 30) S.1 S.2.1 dX6_ask_22 (by decide) (fun c13 => ?_) (fun c13 => ?_)
      · have h := h.1 c13
        refine lv_aload_n S.1 S.2.1 dX6_ask_30 rfl (lv_at hl 0 rfl) ?_
        refine lv_iconst (v := 1) S.1 S.2.1 dX6_ask_31 rfl ?_
        refine r_goI (r_runV (rest := []) S hW (mX6_deny l D T σ M12 (1 : Int32) _ h) w75 rfl LH_0 rfl hl.1 rfl (Nat.le_of_ble_eq_true rfl) dX6_ask_32 ⟨Nat.zero_le _, Nat.zero_le _⟩) hW (fun r14 M15 H locs h hW => ?_)
        exact r_iret S hr hlk hW h dX6_ask_35
      · have h := h.2 c13
        refine lv_iload_n S.1 S.2.1 dX6_ask_25 rfl (lv_at hl 3 rfl) ?_
        refine lv_iload_n S.1 S.2.1 dX6_ask_26 rfl (lv_at hl 2 rfl) ?_
        refine lv_icmp_ge (tgt := 36) S.1 S.2.1 dX6_ask_27 (by decide) (fun c16 => ?_) (fun c16 => ?_)
        · have h := h.1 c16
          refine lv_aload_n S.1 S.2.1 dX6_ask_36 rfl (lv_at hl 0 rfl) ?_
          refine r_getR (j := 1) S hW inX6 rfl f19 rfl LH_0 (by decide) rfl dX6_ask_37 ?_
          refine r_getI (j := 1) S hW inX1 rfl f119 rfl LH_11 (by decide) rfl dX6_ask_40 ?_
          refine lv_bipush (v := 10) S.1 S.2.1 dX6_ask_43 rfl ?_
          refine lv_icmp_ne (tgt := 54) S.1 S.2.1 dX6_ask_45 (by decide) (fun c17 => ?_) (fun c17 => ?_)
          · have h := h.1 c17
            refine lv_aload_n S.1 S.2.1 dX6_ask_54 rfl (lv_at hl 0 rfl) ?_
            refine r_getR (j := 2) S hW inX6 rfl f26 rfl LH_0 (by decide) rfl dX6_ask_55 ?_
            refine r_goV (r_runV (rest := []) S hW (mX3_forget l D T σ M12 _ h) w122 rfl LH_21 rfl hl.1 rfl (Nat.le_of_ble_eq_true rfl) dX6_ask_58 ⟨Nat.zero_le _, Nat.zero_le _⟩) hW (fun M19 H locs h hW => ?_)
            refine lv_aload_n S.1 S.2.1 dX6_ask_61 rfl (lv_at hl 0 rfl) ?_
            refine lv_aload_n S.1 S.2.1 dX6_ask_62 rfl (lv_at hl 0 rfl) ?_
            refine r_getR (j := 1) S hW inX6 rfl f19 rfl LH_0 (by decide) rfl dX6_ask_63 ?_
            refine lv_iload_n S.1 S.2.1 dX6_ask_66 rfl (lv_at hl 1 rfl) ?_
            refine lv_iload_n S.1 S.2.1 dX6_ask_67 rfl (lv_at hl 2 rfl) ?_
            refine lv_iload_n S.1 S.2.1 dX6_ask_68 rfl (lv_at hl 3 rfl) ?_
            refine r_goI (r_runV (rest := [.ref (σ 0)]) S hW (mX1_addAsk l D T σ M19 a1 a2 a3 _ h) w125 rfl LH_11 rfl hl.1 rfl (Nat.le_of_ble_eq_true rfl) dX6_ask_69 ⟨Nat.zero_le _, Nat.zero_le _⟩) hW (fun r20 M21 H locs h hW => ?_)
            refine r_goI (r_runV (rest := []) S hW (mX6_answer l D T σ M21 r20 _ h) w104 rfl LH_0 rfl hl.1 rfl (Nat.le_of_ble_eq_true rfl) dX6_ask_72 ⟨Nat.zero_le _, Nat.zero_le _⟩) hW (fun r22 M23 H locs h hW => ?_)
            exact r_iret S hr hlk hW h dX6_ask_75
          · have h := h.2 c17
            refine lv_aload_n S.1 S.2.1 dX6_ask_48 rfl (lv_at hl 0 rfl) ?_
            refine lv_iconst (v := 4) S.1 S.2.1 dX6_ask_49 rfl ?_
            refine r_goI (r_runV (rest := []) S hW (mX6_deny l D T σ M12 (4 : Int32) _ h) w75 rfl LH_0 rfl hl.1 rfl (Nat.le_of_ble_eq_true rfl) dX6_ask_50 ⟨Nat.zero_le _, Nat.zero_le _⟩) hW (fun r24 M25 H locs h hW => ?_)
            exact r_iret S hr hlk hW h dX6_ask_53
        · have h := h.2 c16
          refine lv_aload_n S.1 S.2.1 dX6_ask_30 rfl (lv_at hl 0 rfl) ?_
          refine lv_iconst (v := 1) S.1 S.2.1 dX6_ask_31 rfl ?_
          refine r_goI (r_runV (rest := []) S hW (mX6_deny l D T σ M12 (1 : Int32) _ h) w75 rfl LH_0 rfl hl.1 rfl (Nat.le_of_ble_eq_true rfl) dX6_ask_32 ⟨Nat.zero_le _, Nat.zero_le _⟩) hW (fun r26 M27 H locs h hW => ?_)
          exact r_iret S hr hlk hW h dX6_ask_35
abbrev rmX6_apart : Room := { frames := 2, cells := 0, slots := 0, locals := 45 }
set_option maxHeartbeats 4000000 in
set_option maxRecDepth 100000 in
theorem mX6_apart (l : Launch) (D : va_G) (T : Nat → ClassId) (σ : Nat → Nat) (M : Mem) (a1 : Int32) (a2 : Int32) (a3 : Int32) (post : Int32 → Mem → Prop) (h : qX6_apart a1 a2 a3 M post) : Met l yX6_apart wsX6_apart rmX6_apart (preW D T LH σ [.ref (σ 0), .int a1, .int a2, .int a3] M) (postI D T LH σ post) 0 0 (fA LH σ) := by
  refine m_of (cc := cX6_apart) (maxL := 4) (ret := (some .boolean)) (own := RX6) (by decide) rfl rfl (Nat.le_of_ble_eq_true rfl) ?_
  intro p e s m args below meth c H ls locs S hr hlk hl hW
  have hl : lv_has ls 4 [(0, .ref (σ 0)), (1, .int a1), (2, .int a2), (3, .int a3)] := hl
  have inX6 : ∀ w ∈ u_ws RX6 TX6 6, w ∈ wsX6_apart := by decide +kernel
  have f19 := S.2.2.2.2 (.fieldLink RX6 19 "MachineHall" "hall" "LMachineHall$Hall;") (by decide +kernel)
  have w129 := cwV (R := rmX6_apart) (rm := rmX1_hasAsk) (mc := 0) (ms := 0) 1 S.2.2.2.2 gX6_apart_X1_hasAsk rfl rfl rfl (by decide +kernel) ⟨Nat.le_of_ble_eq_true rfl, Nat.le_of_ble_eq_true rfl⟩
  have w56 := cwV (R := rmX6_apart) (rm := rmX6_refuse) (mc := 0) (ms := 0) 1 S.2.2.2.2 gX6_apart_X6_refuse rfl rfl rfl (by decide +kernel) ⟨Nat.le_of_ble_eq_true rfl, Nat.le_of_ble_eq_true rfl⟩
  have w132 := cwV (R := rmX6_apart) (rm := rmX1_areFoes) (mc := 0) (ms := 0) 2 S.2.2.2.2 gX6_apart_X1_areFoes rfl rfl rfl (by decide +kernel) ⟨Nat.le_of_ble_eq_true rfl, Nat.le_of_ble_eq_true rfl⟩
  have f26 := S.2.2.2.2 (.fieldLink RX6 26 "MachineHall" "plan" "LMachineHall$Plan;") (by decide +kernel)
  have w122 := cwV (R := rmX6_apart) (rm := rmX3_forget) (mc := 0) (ms := 0) 0 S.2.2.2.2 gX6_apart_X3_forget rfl rfl rfl (by decide +kernel) ⟨Nat.le_of_ble_eq_true rfl, Nat.le_of_ble_eq_true rfl⟩
  have w136 := cwV (R := rmX6_apart) (rm := rmX1_turnFoes) (mc := 0) (ms := 0) 2 S.2.2.2.2 gX6_apart_X1_turnFoes rfl rfl rfl (by decide +kernel) ⟨Nat.le_of_ble_eq_true rfl, Nat.le_of_ble_eq_true rfl⟩
  have w63 := cwV (R := rmX6_apart) (rm := rmX6_agree) (mc := 0) (ms := 0) 0 S.2.2.2.2 gX6_apart_X6_agree rfl rfl rfl (by decide +kernel) ⟨Nat.le_of_ble_eq_true rfl, Nat.le_of_ble_eq_true rfl⟩
  refine lv_aload_n S.1 S.2.1 dX6_apart_0 rfl (lv_at hl 0 rfl) ?_
  refine r_getR (j := 1) S hW inX6 rfl f19 rfl LH_0 (by decide) rfl dX6_apart_1 ?_
  refine lv_iload_n S.1 S.2.1 dX6_apart_4 rfl (lv_at hl 1 rfl) ?_
  refine r_goI (r_runV (rest := []) S hW (mX1_hasAsk l D T σ M a1 _ h) w129 rfl LH_11 rfl hl.1 rfl (Nat.le_of_ble_eq_true rfl) dX6_apart_5 ⟨Nat.zero_le _, Nat.zero_le _⟩) hW (fun r1 M2 H locs h hW => ?_)
  refine lv_if_eq (tgt := 27) S.1 S.2.1 dX6_apart_8 (by decide) (fun c3 => ?_) (fun c3 => ?_)
  · have h := h.1 c3
    refine lv_aload_n S.1 S.2.1 dX6_apart_27 rfl (lv_at hl 0 rfl) ?_
    refine lv_iconst (v := 1) S.1 S.2.1 dX6_apart_28 rfl ?_
    refine r_goI (r_runV (rest := []) S hW (mX6_refuse l D T σ M2 (1 : Int32) _ h) w56 rfl LH_0 rfl hl.1 rfl (Nat.le_of_ble_eq_true rfl) dX6_apart_29 ⟨Nat.zero_le _, Nat.zero_le _⟩) hW (fun r4 M5 H locs h hW => ?_)
    exact r_zret S hr hlk hW h.1 h.2 dX6_apart_32
  · have h := h.2 c3
    refine lv_aload_n S.1 S.2.1 dX6_apart_11 rfl (lv_at hl 0 rfl) ?_
    refine r_getR (j := 1) S hW inX6 rfl f19 rfl LH_0 (by decide) rfl dX6_apart_12 ?_
    refine lv_iload_n S.1 S.2.1 dX6_apart_15 rfl (lv_at hl 2 rfl) ?_
    refine r_goI (r_runV (rest := []) S hW (mX1_hasAsk l D T σ M2 a2 _ h) w129 rfl LH_11 rfl hl.1 rfl (Nat.le_of_ble_eq_true rfl) dX6_apart_16 ⟨Nat.zero_le _, Nat.zero_le _⟩) hW (fun r6 M7 H locs h hW => ?_)
    refine lv_if_eq (tgt := 27) S.1 S.2.1 dX6_apart_19 (by decide) (fun c8 => ?_) (fun c8 => ?_)
    · have h := h.1 c8
      refine lv_aload_n S.1 S.2.1 dX6_apart_27 rfl (lv_at hl 0 rfl) ?_
      refine lv_iconst (v := 1) S.1 S.2.1 dX6_apart_28 rfl ?_
      refine r_goI (r_runV (rest := []) S hW (mX6_refuse l D T σ M7 (1 : Int32) _ h) w56 rfl LH_0 rfl hl.1 rfl (Nat.le_of_ble_eq_true rfl) dX6_apart_29 ⟨Nat.zero_le _, Nat.zero_le _⟩) hW (fun r9 M10 H locs h hW => ?_)
      exact r_zret S hr hlk hW h.1 h.2 dX6_apart_32
    · have h := h.2 c8
      refine lv_iload_n S.1 S.2.1 dX6_apart_22 rfl (lv_at hl 1 rfl) ?_
      refine lv_iload_n S.1 S.2.1 dX6_apart_23 rfl (lv_at hl 2 rfl) ?_
      refine lv_icmp_ne (tgt := 33) S.1 S.2.1 dX6_apart_24 (by decide) (fun c11 => ?_) (fun c11 => ?_)
      · have h := h.1 c11
        refine lv_aload_n S.1 S.2.1 dX6_apart_33 rfl (lv_at hl 0 rfl) ?_
        refine r_getR (j := 1) S hW inX6 rfl f19 rfl LH_0 (by decide) rfl dX6_apart_34 ?_
        refine lv_iload_n S.1 S.2.1 dX6_apart_37 rfl (lv_at hl 1 rfl) ?_
        refine lv_iload_n S.1 S.2.1 dX6_apart_38 rfl (lv_at hl 2 rfl) ?_
        refine r_goI (r_runV (rest := []) S hW (mX1_areFoes l D T σ M7 a1 a2 _ h) w132 rfl LH_11 rfl hl.1 rfl (Nat.le_of_ble_eq_true rfl) dX6_apart_39 ⟨Nat.zero_le _, Nat.zero_le _⟩) hW (fun r12 M13 H locs h hW => ?_)
        refine lv_iload_n S.1 S.2.1 dX6_apart_42 rfl (lv_at hl 3 rfl) ?_
        refine lv_icmp_ne (tgt := 52) S.1 S.2.1 dX6_apart_43 (by decide) (fun c14 => ?_) (fun c14 => ?_)
        · have h := h.1 c14
          refine lv_aload_n S.1 S.2.1 dX6_apart_52 rfl (lv_at hl 0 rfl) ?_
          refine r_getR (j := 2) S hW inX6 rfl f26 rfl LH_0 (by decide) rfl dX6_apart_53 ?_
          refine r_goV (r_runV (rest := []) S hW (mX3_forget l D T σ M13 _ h) w122 rfl LH_21 rfl hl.1 rfl (Nat.le_of_ble_eq_true rfl) dX6_apart_56 ⟨Nat.zero_le _, Nat.zero_le _⟩) hW (fun M16 H locs h hW => ?_)
          refine lv_aload_n S.1 S.2.1 dX6_apart_59 rfl (lv_at hl 0 rfl) ?_
          refine r_getR (j := 1) S hW inX6 rfl f19 rfl LH_0 (by decide) rfl dX6_apart_60 ?_
          refine lv_iload_n S.1 S.2.1 dX6_apart_63 rfl (lv_at hl 1 rfl) ?_
          refine lv_iload_n S.1 S.2.1 dX6_apart_64 rfl (lv_at hl 2 rfl) ?_
          refine r_goV (r_runV (rest := []) S hW (mX1_turnFoes l D T σ M16 a1 a2 _ h) w136 rfl LH_11 rfl hl.1 rfl (Nat.le_of_ble_eq_true rfl) dX6_apart_65 ⟨Nat.zero_le _, Nat.zero_le _⟩) hW (fun M18 H locs h hW => ?_)
          refine lv_aload_n S.1 S.2.1 dX6_apart_68 rfl (lv_at hl 0 rfl) ?_
          refine r_goI (r_runV (rest := []) S hW (mX6_agree l D T σ M18 _ h) w63 rfl LH_0 rfl hl.1 rfl (Nat.le_of_ble_eq_true rfl) dX6_apart_69 ⟨Nat.zero_le _, Nat.zero_le _⟩) hW (fun r19 M20 H locs h hW => ?_)
          exact r_zret S hr hlk hW h.1 h.2 dX6_apart_72
        · have h := h.2 c14
          refine lv_aload_n S.1 S.2.1 dX6_apart_46 rfl (lv_at hl 0 rfl) ?_
          refine lv_iconst (v := 5) S.1 S.2.1 dX6_apart_47 rfl ?_
          refine r_goI (r_runV (rest := []) S hW (mX6_refuse l D T σ M13 (5 : Int32) _ h) w56 rfl LH_0 rfl hl.1 rfl (Nat.le_of_ble_eq_true rfl) dX6_apart_48 ⟨Nat.zero_le _, Nat.zero_le _⟩) hW (fun r21 M22 H locs h hW => ?_)
          exact r_zret S hr hlk hW h.1 h.2 dX6_apart_51
      · have h := h.2 c11
        refine lv_aload_n S.1 S.2.1 dX6_apart_27 rfl (lv_at hl 0 rfl) ?_
        refine lv_iconst (v := 1) S.1 S.2.1 dX6_apart_28 rfl ?_
        refine r_goI (r_runV (rest := []) S hW (mX6_refuse l D T σ M7 (1 : Int32) _ h) w56 rfl LH_0 rfl hl.1 rfl (Nat.le_of_ble_eq_true rfl) dX6_apart_29 ⟨Nat.zero_le _, Nat.zero_le _⟩) hW (fun r23 M24 H locs h hW => ?_)
        exact r_zret S hr hlk hW h.1 h.2 dX6_apart_32
abbrev rmX6_count : Room := { frames := 2, cells := 0, slots := 0, locals := 44 }
set_option maxHeartbeats 4000000 in
set_option maxRecDepth 100000 in
theorem mX6_count (l : Launch) (D : va_G) (T : Nat → ClassId) (σ : Nat → Nat) (M : Mem) (a1 : Int32) (post : Int32 → Mem → Prop) (h : qX6_count a1 M post) : Met l yX6_count wsX6_count rmX6_count (preW D T LH σ [.ref (σ 0), .int a1] M) (postI D T LH σ post) 0 0 (fA LH σ) := by
  refine m_of (cc := cX6_count) (maxL := 2) (ret := (some .int)) (own := RX6) (by decide) rfl rfl (Nat.le_of_ble_eq_true rfl) ?_
  intro p e s m args below meth c H ls locs S hr hlk hl hW
  have hl : lv_has ls 2 [(0, .ref (σ 0)), (1, .int a1)] := hl
  have inX6 : ∀ w ∈ u_ws RX6 TX6 6, w ∈ wsX6_count := by decide +kernel
  have f19 := S.2.2.2.2 (.fieldLink RX6 19 "MachineHall" "hall" "LMachineHall$Hall;") (by decide +kernel)
  have inX1 : ∀ w ∈ u_ws RX1 TX1 13, w ∈ wsX6_count := by decide +kernel
  have f98 := S.2.2.2.2 (.fieldLink RX6 98 "MachineHall$Hall" "machines" "I") (by decide +kernel)
  have w104 := cwV (R := rmX6_count) (rm := rmX6_answer) (mc := 0) (ms := 0) 1 S.2.2.2.2 gX6_count_X6_answer rfl rfl rfl (by decide +kernel) ⟨Nat.le_of_ble_eq_true rfl, Nat.le_of_ble_eq_true rfl⟩
  have f119 := S.2.2.2.2 (.fieldLink RX6 119 "MachineHall$Hall" "asks" "I") (by decide +kernel)
  have f26 := S.2.2.2.2 (.fieldLink RX6 26 "MachineHall" "plan" "LMachineHall$Plan;") (by decide +kernel)
  have inX3 : ∀ w ∈ u_ws RX3 TX3 9, w ∈ wsX6_count := by decide +kernel
  have f140 := S.2.2.2.2 (.fieldLink RX6 140 "MachineHall$Plan" "batches" "I") (by decide +kernel)
  have f40 := S.2.2.2.2 (.fieldLink RX6 40 "MachineHall" "market" "LMachineHall$Market;") (by decide +kernel)
  have inX2 : ∀ w ∈ u_ws RX2 TX2 12, w ∈ wsX6_count := by decide +kernel
  have f143 := S.2.2.2.2 (.fieldLink RX6 143 "MachineHall$Market" "types" "I") (by decide +kernel)
  have w146 := cwV (R := rmX6_count) (rm := rmX1_standing) (mc := 0) (ms := 0) 1 S.2.2.2.2 gX6_count_X1_standing rfl rfl rfl (by decide +kernel) ⟨Nat.le_of_ble_eq_true rfl, Nat.le_of_ble_eq_true rfl⟩
  have w149 := cwV (R := rmX6_count) (rm := rmX1_sizeOf) (mc := 0) (ms := 0) 1 S.2.2.2.2 gX6_count_X1_sizeOf rfl rfl rfl (by decide +kernel) ⟨Nat.le_of_ble_eq_true rfl, Nat.le_of_ble_eq_true rfl⟩
  have w75 := cwV (R := rmX6_count) (rm := rmX6_deny) (mc := 0) (ms := 0) 1 S.2.2.2.2 gX6_count_X6_deny rfl rfl rfl (by decide +kernel) ⟨Nat.le_of_ble_eq_true rfl, Nat.le_of_ble_eq_true rfl⟩
  refine lv_iload_n S.1 S.2.1 dX6_count_0 rfl (lv_at hl 1 rfl) ?_
  refine r_ts S dX6_count_1 (by decide) (fun k off ho hx => ?_) (by decide) (by decide) (fun hx => ?_)
  · match k, ho with
    | 0, ho =>
      cases ho
      have h := h.1 hx
      refine lv_aload_n S.1 S.2.1 dX6_count_36 rfl (lv_at hl 0 rfl) ?_
      refine lv_aload_n S.1 S.2.1 dX6_count_37 rfl (lv_at hl 0 rfl) ?_
      refine r_getR (j := 1) S hW inX6 rfl f19 rfl LH_0 (by decide) rfl dX6_count_38 ?_
      refine r_getI (j := 0) S hW inX1 rfl f98 rfl LH_11 (by decide) rfl dX6_count_41 ?_
      refine r_goI (r_runV (rest := []) S hW (mX6_answer l D T σ M (M.1 11 0) _ h) w104 rfl LH_0 rfl hl.1 rfl (Nat.le_of_ble_eq_true rfl) dX6_count_44 ⟨Nat.zero_le _, Nat.zero_le _⟩) hW (fun r2 M3 H locs h hW => ?_)
      exact r_iret S hr hlk hW h dX6_count_47
    | 1, ho =>
      cases ho
      have h := h.2.1 hx
      refine lv_aload_n S.1 S.2.1 dX6_count_48 rfl (lv_at hl 0 rfl) ?_
      refine lv_aload_n S.1 S.2.1 dX6_count_49 rfl (lv_at hl 0 rfl) ?_
      refine r_getR (j := 1) S hW inX6 rfl f19 rfl LH_0 (by decide) rfl dX6_count_50 ?_
      refine r_getI (j := 1) S hW inX1 rfl f119 rfl LH_11 (by decide) rfl dX6_count_53 ?_
      refine r_goI (r_runV (rest := []) S hW (mX6_answer l D T σ M (M.1 11 1) _ h) w104 rfl LH_0 rfl hl.1 rfl (Nat.le_of_ble_eq_true rfl) dX6_count_56 ⟨Nat.zero_le _, Nat.zero_le _⟩) hW (fun r4 M5 H locs h hW => ?_)
      exact r_iret S hr hlk hW h dX6_count_59
    | 2, ho =>
      cases ho
      have h := h.2.2.1 hx
      refine lv_aload_n S.1 S.2.1 dX6_count_60 rfl (lv_at hl 0 rfl) ?_
      refine lv_aload_n S.1 S.2.1 dX6_count_61 rfl (lv_at hl 0 rfl) ?_
      refine r_getR (j := 2) S hW inX6 rfl f26 rfl LH_0 (by decide) rfl dX6_count_62 ?_
      refine r_getI (j := 0) S hW inX3 rfl f140 rfl LH_21 (by decide) rfl dX6_count_65 ?_
      refine r_goI (r_runV (rest := []) S hW (mX6_answer l D T σ M (M.1 21 0) _ h) w104 rfl LH_0 rfl hl.1 rfl (Nat.le_of_ble_eq_true rfl) dX6_count_68 ⟨Nat.zero_le _, Nat.zero_le _⟩) hW (fun r6 M7 H locs h hW => ?_)
      exact r_iret S hr hlk hW h dX6_count_71
    | 3, ho =>
      cases ho
      have h := h.2.2.2.1 hx
      refine lv_aload_n S.1 S.2.1 dX6_count_72 rfl (lv_at hl 0 rfl) ?_
      refine lv_aload_n S.1 S.2.1 dX6_count_73 rfl (lv_at hl 0 rfl) ?_
      refine r_getR (j := 4) S hW inX6 rfl f40 rfl LH_0 (by decide) rfl dX6_count_74 ?_
      refine r_getI (j := 0) S hW inX2 rfl f143 rfl LH_75 (by decide) rfl dX6_count_77 ?_
      refine r_goI (r_runV (rest := []) S hW (mX6_answer l D T σ M (M.1 75 0) _ h) w104 rfl LH_0 rfl hl.1 rfl (Nat.le_of_ble_eq_true rfl) dX6_count_80 ⟨Nat.zero_le _, Nat.zero_le _⟩) hW (fun r8 M9 H locs h hW => ?_)
      exact r_iret S hr hlk hW h dX6_count_83
    | 4, ho =>
      cases ho
      have h := h.2.2.2.2.1 hx
      refine lv_aload_n S.1 S.2.1 dX6_count_84 rfl (lv_at hl 0 rfl) ?_
      refine lv_aload_n S.1 S.2.1 dX6_count_85 rfl (lv_at hl 0 rfl) ?_
      refine r_getR (j := 1) S hW inX6 rfl f19 rfl LH_0 (by decide) rfl dX6_count_86 ?_
      refine lv_aload_n S.1 S.2.1 dX6_count_89 rfl (lv_at hl 0 rfl) ?_
      refine r_getR (j := 1) S hW inX6 rfl f19 rfl LH_0 (by decide) rfl dX6_count_90 ?_
      refine lv_iconst (v := 0) S.1 S.2.1 dX6_count_93 rfl ?_
      refine r_goI (r_runV (rest := [.ref (σ 11), .ref (σ 0)]) S hW (mX1_standing l D T σ M (0 : Int32) _ h) w146 rfl LH_11 rfl hl.1 rfl (Nat.le_of_ble_eq_true rfl) dX6_count_94 ⟨Nat.zero_le _, Nat.zero_le _⟩) hW (fun r10 M11 H locs h hW => ?_)
      refine r_goI (r_runV (rest := [.ref (σ 0)]) S hW (mX1_sizeOf l D T σ M11 r10 _ h) w149 rfl LH_11 rfl hl.1 rfl (Nat.le_of_ble_eq_true rfl) dX6_count_97 ⟨Nat.zero_le _, Nat.zero_le _⟩) hW (fun r12 M13 H locs h hW => ?_)
      refine r_goI (r_runV (rest := []) S hW (mX6_answer l D T σ M13 r12 _ h) w104 rfl LH_0 rfl hl.1 rfl (Nat.le_of_ble_eq_true rfl) dX6_count_100 ⟨Nat.zero_le _, Nat.zero_le _⟩) hW (fun r14 M15 H locs h hW => ?_)
      exact r_iret S hr hlk hW h dX6_count_103
    | k + 5, ho => simp at ho
  · have h := h.2.2.2.2.2 hx
    refine lv_aload_n S.1 S.2.1 dX6_count_104 rfl (lv_at hl 0 rfl) ?_
    refine lv_iconst (v := 1) S.1 S.2.1 dX6_count_105 rfl ?_
    refine r_goI (r_runV (rest := []) S hW (mX6_deny l D T σ M (1 : Int32) _ h) w75 rfl LH_0 rfl hl.1 rfl (Nat.le_of_ble_eq_true rfl) dX6_count_106 ⟨Nat.zero_le _, Nat.zero_le _⟩) hW (fun r16 M17 H locs h hW => ?_)
    exact r_iret S hr hlk hW h dX6_count_109
abbrev rmX6_fits : Room := { frames := 4, cells := 0, slots := 0, locals := 91 }
set_option maxHeartbeats 4000000 in
set_option maxRecDepth 100000 in
theorem mX6_fits (l : Launch) (D : va_G) (T : Nat → ClassId) (σ : Nat → Nat) (M : Mem) (a1 : Int32) (a2 : Int32) (post : Int32 → Mem → Prop) (h : qX6_fits a1 a2 M post) : Met l yX6_fits wsX6_fits rmX6_fits (preW D T LH σ [.ref (σ 0), .int a1, .int a2] M) (postI D T LH σ post) 0 0 (fA LH σ) := by
  refine m_of (cc := cX6_fits) (maxL := 3) (ret := (some .int)) (own := RX6) (by decide) rfl rfl (Nat.le_of_ble_eq_true rfl) ?_
  intro p e s m args below meth c H ls locs S hr hlk hl hW
  have hl : lv_has ls 3 [(0, .ref (σ 0)), (1, .int a1), (2, .int a2)] := hl
  have w116 := va_cwS (R := rmX6_fits) (rm := rmX6_isHour) (mc := 0) (ms := 0) 1 S.2.2.2.2 gX6_fits_X6_isHour rfl rfl rfl (by decide +kernel) ⟨Nat.le_of_ble_eq_true rfl, Nat.le_of_ble_eq_true rfl⟩
  have w75 := cwV (R := rmX6_fits) (rm := rmX6_deny) (mc := 0) (ms := 0) 1 S.2.2.2.2 gX6_fits_X6_deny rfl rfl rfl (by decide +kernel) ⟨Nat.le_of_ble_eq_true rfl, Nat.le_of_ble_eq_true rfl⟩
  have w152 := va_cwS (R := rmX6_fits) (rm := rmX1_isFall) (mc := 0) (ms := 0) 1 S.2.2.2.2 gX6_fits_X1_isFall rfl rfl rfl (by decide +kernel) ⟨Nat.le_of_ble_eq_true rfl, Nat.le_of_ble_eq_true rfl⟩
  have inX6 : ∀ w ∈ u_ws RX6 TX6 6, w ∈ wsX6_fits := by decide +kernel
  have f19 := S.2.2.2.2 (.fieldLink RX6 19 "MachineHall" "hall" "LMachineHall$Hall;") (by decide +kernel)
  have w146 := cwV (R := rmX6_fits) (rm := rmX1_standing) (mc := 0) (ms := 0) 1 S.2.2.2.2 gX6_fits_X1_standing rfl rfl rfl (by decide +kernel) ⟨Nat.le_of_ble_eq_true rfl, Nat.le_of_ble_eq_true rfl⟩
  have w155 := cwV (R := rmX6_fits) (rm := rmX1_holds) (mc := 0) (ms := 0) 2 S.2.2.2.2 gX6_fits_X1_holds rfl rfl rfl (by decide +kernel) ⟨Nat.le_of_ble_eq_true rfl, Nat.le_of_ble_eq_true rfl⟩
  have w104 := cwV (R := rmX6_fits) (rm := rmX6_answer) (mc := 0) (ms := 0) 1 S.2.2.2.2 gX6_fits_X6_answer rfl rfl rfl (by decide +kernel) ⟨Nat.le_of_ble_eq_true rfl, Nat.le_of_ble_eq_true rfl⟩
  refine lv_iload_n S.1 S.2.1 dX6_fits_0 rfl (lv_at hl 1 rfl) ?_
  refine r_goI (r_runS (rest := []) S hW (mX6_isHour l D T σ M a1 _ h) w116 rfl hl.1 rfl (Nat.le_of_ble_eq_true rfl) dX6_fits_1 ⟨Nat.zero_le _, Nat.zero_le _⟩) hW (fun r1 M2 H locs h hW => ?_)
  refine lv_if_eq (tgt := 14) S.1 S.2.1 dX6_fits_4 (by decide) (fun c3 => ?_) (fun c3 => ?_)
  · have h := h.1 c3
    refine lv_aload_n S.1 S.2.1 dX6_fits_14 rfl (lv_at hl 0 rfl) ?_
    refine lv_iconst (v := 1) S.1 S.2.1 dX6_fits_15 rfl ?_
    refine r_goI (r_runV (rest := []) S hW (mX6_deny l D T σ M2 (1 : Int32) _ h) w75 rfl LH_0 rfl hl.1 rfl (Nat.le_of_ble_eq_true rfl) dX6_fits_16 ⟨Nat.zero_le _, Nat.zero_le _⟩) hW (fun r4 M5 H locs h hW => ?_)
    exact r_iret S hr hlk hW h dX6_fits_19
  · have h := h.2 c3
    refine lv_iload_n S.1 S.2.1 dX6_fits_7 rfl (lv_at hl 2 rfl) ?_
    refine r_goI (r_runS (rest := []) S hW (mX1_isFall l D T σ M2 a2 _ h) w152 rfl hl.1 rfl (Nat.le_of_ble_eq_true rfl) dX6_fits_8 ⟨Nat.zero_le _, Nat.zero_le _⟩) hW (fun r6 M7 H locs h hW => ?_)
    refine lv_if_ne (tgt := 20) S.1 S.2.1 dX6_fits_11 (by decide) (fun c8 => ?_) (fun c8 => ?_)
    · have h := h.1 c8
      refine lv_aload_n S.1 S.2.1 dX6_fits_20 rfl (lv_at hl 0 rfl) ?_
      refine lv_aload_n S.1 S.2.1 dX6_fits_21 rfl (lv_at hl 0 rfl) ?_
      refine r_getR (j := 1) S hW inX6 rfl f19 rfl LH_0 (by decide) rfl dX6_fits_22 ?_
      refine lv_iload_n S.1 S.2.1 dX6_fits_25 rfl (lv_at hl 1 rfl) ?_
      refine lv_aload_n S.1 S.2.1 dX6_fits_26 rfl (lv_at hl 0 rfl) ?_
      refine r_getR (j := 1) S hW inX6 rfl f19 rfl LH_0 (by decide) rfl dX6_fits_27 ?_
      refine lv_iload_n S.1 S.2.1 dX6_fits_30 rfl (lv_at hl 2 rfl) ?_
      refine r_goI (r_runV (rest := [.int a1, .ref (σ 11), .ref (σ 0)]) S hW (mX1_standing l D T σ M7 a2 _ h) w146 rfl LH_11 rfl hl.1 rfl (Nat.le_of_ble_eq_true rfl) dX6_fits_31 ⟨Nat.zero_le _, Nat.zero_le _⟩) hW (fun r9 M10 H locs h hW => ?_)
      refine r_goI (r_runV (rest := [.ref (σ 0)]) S hW (mX1_holds l D T σ M10 a1 r9 _ h) w155 rfl LH_11 rfl hl.1 rfl (Nat.le_of_ble_eq_true rfl) dX6_fits_34 ⟨Nat.zero_le _, Nat.zero_le _⟩) hW (fun r11 M12 H locs h hW => ?_)
      refine lv_if_eq (tgt := 44) S.1 S.2.1 dX6_fits_37 (by decide) (fun c13 => ?_) (fun c13 => ?_)
      · have h := h.1 c13
        refine lv_iconst (v := 0) S.1 S.2.1 dX6_fits_44 rfl ?_
        refine r_goI (r_runV (rest := []) S hW (mX6_answer l D T σ M12 (0 : Int32) _ h) w104 rfl LH_0 rfl hl.1 rfl (Nat.le_of_ble_eq_true rfl) dX6_fits_45 ⟨Nat.zero_le _, Nat.zero_le _⟩) hW (fun r14 M15 H locs h hW => ?_)
        exact r_iret S hr hlk hW h dX6_fits_48
      · have h := h.2 c13
        refine lv_iconst (v := 1) S.1 S.2.1 dX6_fits_40 rfl ?_
        refine lv_goto (tgt := 45) S.1 S.2.1 dX6_fits_41 (by decide) ?_
        refine r_goI (r_runV (rest := []) S hW (mX6_answer l D T σ M12 (1 : Int32) _ h) w104 rfl LH_0 rfl hl.1 rfl (Nat.le_of_ble_eq_true rfl) dX6_fits_45 ⟨Nat.zero_le _, Nat.zero_le _⟩) hW (fun r16 M17 H locs h hW => ?_)
        exact r_iret S hr hlk hW h dX6_fits_48
    · have h := h.2 c8
      refine lv_aload_n S.1 S.2.1 dX6_fits_14 rfl (lv_at hl 0 rfl) ?_
      refine lv_iconst (v := 1) S.1 S.2.1 dX6_fits_15 rfl ?_
      refine r_goI (r_runV (rest := []) S hW (mX6_deny l D T σ M7 (1 : Int32) _ h) w75 rfl LH_0 rfl hl.1 rfl (Nat.le_of_ble_eq_true rfl) dX6_fits_16 ⟨Nat.zero_le _, Nat.zero_le _⟩) hW (fun r18 M19 H locs h hW => ?_)
      exact r_iret S hr hlk hW h dX6_fits_19
abbrev rmX6_on : Room := { frames := 4, cells := 0, slots := 0, locals := 95 }
set_option maxHeartbeats 4000000 in
set_option maxRecDepth 100000 in
theorem mX6_on (l : Launch) (D : va_G) (T : Nat → ClassId) (σ : Nat → Nat) (M : Mem) (a1 : Int32) (a2 : Int32) (a3 : Int32) (post : Int32 → Mem → Prop) (h : qX6_on a1 a2 a3 M post) : Met l yX6_on wsX6_on rmX6_on (preW D T LH σ [.ref (σ 0), .int a1, .int a2, .int a3] M) (postI D T LH σ post) 0 0 (fA LH σ) := by
  refine m_of (cc := cX6_on) (maxL := 4) (ret := (some .int)) (own := RX6) (by decide) rfl rfl (Nat.le_of_ble_eq_true rfl) ?_
  intro p e s m args below meth c H ls locs S hr hlk hl hW
  have hl : lv_has ls 4 [(0, .ref (σ 0)), (1, .int a1), (2, .int a2), (3, .int a3)] := hl
  have w116 := va_cwS (R := rmX6_on) (rm := rmX6_isHour) (mc := 0) (ms := 0) 1 S.2.2.2.2 gX6_on_X6_isHour rfl rfl rfl (by decide +kernel) ⟨Nat.le_of_ble_eq_true rfl, Nat.le_of_ble_eq_true rfl⟩
  have w75 := cwV (R := rmX6_on) (rm := rmX6_deny) (mc := 0) (ms := 0) 1 S.2.2.2.2 gX6_on_X6_deny rfl rfl rfl (by decide +kernel) ⟨Nat.le_of_ble_eq_true rfl, Nat.le_of_ble_eq_true rfl⟩
  have w152 := va_cwS (R := rmX6_on) (rm := rmX1_isFall) (mc := 0) (ms := 0) 1 S.2.2.2.2 gX6_on_X1_isFall rfl rfl rfl (by decide +kernel) ⟨Nat.le_of_ble_eq_true rfl, Nat.le_of_ble_eq_true rfl⟩
  have inX6 : ∀ w ∈ u_ws RX6 TX6 6, w ∈ wsX6_on := by decide +kernel
  have f19 := S.2.2.2.2 (.fieldLink RX6 19 "MachineHall" "hall" "LMachineHall$Hall;") (by decide +kernel)
  have w129 := cwV (R := rmX6_on) (rm := rmX1_hasAsk) (mc := 0) (ms := 0) 1 S.2.2.2.2 gX6_on_X1_hasAsk rfl rfl rfl (by decide +kernel) ⟨Nat.le_of_ble_eq_true rfl, Nat.le_of_ble_eq_true rfl⟩
  have w158 := cwV (R := rmX6_on) (rm := rmX1_isAskOf) (mc := 0) (ms := 0) 2 S.2.2.2.2 gX6_on_X1_isAskOf rfl rfl rfl (by decide +kernel) ⟨Nat.le_of_ble_eq_true rfl, Nat.le_of_ble_eq_true rfl⟩
  have w146 := cwV (R := rmX6_on) (rm := rmX1_standing) (mc := 0) (ms := 0) 1 S.2.2.2.2 gX6_on_X1_standing rfl rfl rfl (by decide +kernel) ⟨Nat.le_of_ble_eq_true rfl, Nat.le_of_ble_eq_true rfl⟩
  have w155 := cwV (R := rmX6_on) (rm := rmX1_holds) (mc := 0) (ms := 0) 2 S.2.2.2.2 gX6_on_X1_holds rfl rfl rfl (by decide +kernel) ⟨Nat.le_of_ble_eq_true rfl, Nat.le_of_ble_eq_true rfl⟩
  have w161 := cwV (R := rmX6_on) (rm := rmX1_layingOf) (mc := 0) (ms := 0) 3 S.2.2.2.2 gX6_on_X1_layingOf rfl rfl rfl (by decide +kernel) ⟨Nat.le_of_ble_eq_true rfl, Nat.le_of_ble_eq_true rfl⟩
  have w104 := cwV (R := rmX6_on) (rm := rmX6_answer) (mc := 0) (ms := 0) 1 S.2.2.2.2 gX6_on_X6_answer rfl rfl rfl (by decide +kernel) ⟨Nat.le_of_ble_eq_true rfl, Nat.le_of_ble_eq_true rfl⟩
  refine lv_iload_n S.1 S.2.1 dX6_on_0 rfl (lv_at hl 1 rfl) ?_
  refine r_goI (r_runS (rest := []) S hW (mX6_isHour l D T σ M a1 _ h) w116 rfl hl.1 rfl (Nat.le_of_ble_eq_true rfl) dX6_on_1 ⟨Nat.zero_le _, Nat.zero_le _⟩) hW (fun r1 M2 H locs h hW => ?_)
  refine lv_if_eq (tgt := 37) S.1 S.2.1 dX6_on_4 (by decide) (fun c3 => ?_) (fun c3 => ?_)
  · have h := h.1 c3
    refine lv_aload_n S.1 S.2.1 dX6_on_37 rfl (lv_at hl 0 rfl) ?_
    refine lv_iconst (v := 1) S.1 S.2.1 dX6_on_38 rfl ?_
    refine r_goI (r_runV (rest := []) S hW (mX6_deny l D T σ M2 (1 : Int32) _ h) w75 rfl LH_0 rfl hl.1 rfl (Nat.le_of_ble_eq_true rfl) dX6_on_39 ⟨Nat.zero_le _, Nat.zero_le _⟩) hW (fun r4 M5 H locs h hW => ?_)
    exact r_iret S hr hlk hW h dX6_on_42
  · have h := h.2 c3
    refine lv_iload_n S.1 S.2.1 dX6_on_7 rfl (lv_at hl 2 rfl) ?_
    refine r_goI (r_runS (rest := []) S hW (mX1_isFall l D T σ M2 a2 _ h) w152 rfl hl.1 rfl (Nat.le_of_ble_eq_true rfl) dX6_on_8 ⟨Nat.zero_le _, Nat.zero_le _⟩) hW (fun r6 M7 H locs h hW => ?_)
    refine lv_if_eq (tgt := 37) S.1 S.2.1 dX6_on_11 (by decide) (fun c8 => ?_) (fun c8 => ?_)
    · have h := h.1 c8
      refine lv_aload_n S.1 S.2.1 dX6_on_37 rfl (lv_at hl 0 rfl) ?_
      refine lv_iconst (v := 1) S.1 S.2.1 dX6_on_38 rfl ?_
      refine r_goI (r_runV (rest := []) S hW (mX6_deny l D T σ M7 (1 : Int32) _ h) w75 rfl LH_0 rfl hl.1 rfl (Nat.le_of_ble_eq_true rfl) dX6_on_39 ⟨Nat.zero_le _, Nat.zero_le _⟩) hW (fun r9 M10 H locs h hW => ?_)
      exact r_iret S hr hlk hW h dX6_on_42
    · have h := h.2 c8
      refine lv_aload_n S.1 S.2.1 dX6_on_14 rfl (lv_at hl 0 rfl) ?_
      refine r_getR (j := 1) S hW inX6 rfl f19 rfl LH_0 (by decide) rfl dX6_on_15 ?_
      refine lv_iload_n S.1 S.2.1 dX6_on_18 rfl (lv_at hl 3 rfl) ?_
      refine r_goI (r_runV (rest := []) S hW (mX1_hasAsk l D T σ M7 a3 _ h) w129 rfl LH_11 rfl hl.1 rfl (Nat.le_of_ble_eq_true rfl) dX6_on_19 ⟨Nat.zero_le _, Nat.zero_le _⟩) hW (fun r11 M12 H locs h hW => ?_)
      refine lv_if_eq (tgt := 37) S.1 S.2.1 dX6_on_22 (by decide) (fun c13 => ?_) (fun c13 => ?_)
      · have h := h.1 c13
        refine lv_aload_n S.1 S.2.1 dX6_on_37 rfl (lv_at hl 0 rfl) ?_
        refine lv_iconst (v := 1) S.1 S.2.1 dX6_on_38 rfl ?_
        refine r_goI (r_runV (rest := []) S hW (mX6_deny l D T σ M12 (1 : Int32) _ h) w75 rfl LH_0 rfl hl.1 rfl (Nat.le_of_ble_eq_true rfl) dX6_on_39 ⟨Nat.zero_le _, Nat.zero_le _⟩) hW (fun r14 M15 H locs h hW => ?_)
        exact r_iret S hr hlk hW h dX6_on_42
      · have h := h.2 c13
        refine lv_aload_n S.1 S.2.1 dX6_on_25 rfl (lv_at hl 0 rfl) ?_
        refine r_getR (j := 1) S hW inX6 rfl f19 rfl LH_0 (by decide) rfl dX6_on_26 ?_
        refine lv_iload_n S.1 S.2.1 dX6_on_29 rfl (lv_at hl 3 rfl) ?_
        refine lv_iload_n S.1 S.2.1 dX6_on_30 rfl (lv_at hl 1 rfl) ?_
        refine r_goI (r_runV (rest := []) S hW (mX1_isAskOf l D T σ M12 a3 a1 _ h) w158 rfl LH_11 rfl hl.1 rfl (Nat.le_of_ble_eq_true rfl) dX6_on_31 ⟨Nat.zero_le _, Nat.zero_le _⟩) hW (fun r16 M17 H locs h hW => ?_)
        refine lv_if_ne (tgt := 43) S.1 S.2.1 dX6_on_34 (by decide) (fun c18 => ?_) (fun c18 => ?_)
        · have h := h.1 c18
          refine lv_aload_n S.1 S.2.1 dX6_on_43 rfl (lv_at hl 0 rfl) ?_
          refine r_getR (j := 1) S hW inX6 rfl f19 rfl LH_0 (by decide) rfl dX6_on_44 ?_
          refine lv_iload_n S.1 S.2.1 dX6_on_47 rfl (lv_at hl 1 rfl) ?_
          refine lv_aload_n S.1 S.2.1 dX6_on_48 rfl (lv_at hl 0 rfl) ?_
          refine r_getR (j := 1) S hW inX6 rfl f19 rfl LH_0 (by decide) rfl dX6_on_49 ?_
          refine lv_iload_n S.1 S.2.1 dX6_on_52 rfl (lv_at hl 2 rfl) ?_
          refine r_goI (r_runV (rest := [.int a1, .ref (σ 11)]) S hW (mX1_standing l D T σ M17 a2 _ h) w146 rfl LH_11 rfl hl.1 rfl (Nat.le_of_ble_eq_true rfl) dX6_on_53 ⟨Nat.zero_le _, Nat.zero_le _⟩) hW (fun r19 M20 H locs h hW => ?_)
          refine r_goI (r_runV (rest := []) S hW (mX1_holds l D T σ M20 a1 r19 _ h) w155 rfl LH_11 rfl hl.1 rfl (Nat.le_of_ble_eq_true rfl) dX6_on_56 ⟨Nat.zero_le _, Nat.zero_le _⟩) hW (fun r21 M22 H locs h hW => ?_)
          refine lv_if_ne (tgt := 69) S.1 S.2.1 dX6_on_59 (by decide) (fun c23 => ?_) (fun c23 => ?_)
          · have h := h.1 c23
            refine lv_aload_n S.1 S.2.1 dX6_on_69 rfl (lv_at hl 0 rfl) ?_
            refine lv_aload_n S.1 S.2.1 dX6_on_70 rfl (lv_at hl 0 rfl) ?_
            refine r_getR (j := 1) S hW inX6 rfl f19 rfl LH_0 (by decide) rfl dX6_on_71 ?_
            refine lv_iload_n S.1 S.2.1 dX6_on_74 rfl (lv_at hl 1 rfl) ?_
            refine lv_aload_n S.1 S.2.1 dX6_on_75 rfl (lv_at hl 0 rfl) ?_
            refine r_getR (j := 1) S hW inX6 rfl f19 rfl LH_0 (by decide) rfl dX6_on_76 ?_
            refine lv_iload_n S.1 S.2.1 dX6_on_79 rfl (lv_at hl 2 rfl) ?_
            refine r_goI (r_runV (rest := [.int a1, .ref (σ 11), .ref (σ 0)]) S hW (mX1_standing l D T σ M22 a2 _ h) w146 rfl LH_11 rfl hl.1 rfl (Nat.le_of_ble_eq_true rfl) dX6_on_80 ⟨Nat.zero_le _, Nat.zero_le _⟩) hW (fun r24 M25 H locs h hW => ?_)
            refine lv_iload_n S.1 S.2.1 dX6_on_83 rfl (lv_at hl 3 rfl) ?_
            refine r_goI (r_runV (rest := [.ref (σ 0)]) S hW (mX1_layingOf l D T σ M25 a1 r24 a3 _ h) w161 rfl LH_11 rfl hl.1 rfl (Nat.le_of_ble_eq_true rfl) dX6_on_84 ⟨Nat.zero_le _, Nat.zero_le _⟩) hW (fun r26 M27 H locs h hW => ?_)
            refine r_goI (r_runV (rest := []) S hW (mX6_answer l D T σ M27 r26 _ h) w104 rfl LH_0 rfl hl.1 rfl (Nat.le_of_ble_eq_true rfl) dX6_on_87 ⟨Nat.zero_le _, Nat.zero_le _⟩) hW (fun r28 M29 H locs h hW => ?_)
            exact r_iret S hr hlk hW h dX6_on_90
          · have h := h.2 c23
            refine lv_aload_n S.1 S.2.1 dX6_on_62 rfl (lv_at hl 0 rfl) ?_
            refine lv_bipush (v := 6) S.1 S.2.1 dX6_on_63 rfl ?_
            refine r_goI (r_runV (rest := []) S hW (mX6_deny l D T σ M22 (6 : Int32) _ h) w75 rfl LH_0 rfl hl.1 rfl (Nat.le_of_ble_eq_true rfl) dX6_on_65 ⟨Nat.zero_le _, Nat.zero_le _⟩) hW (fun r30 M31 H locs h hW => ?_)
            exact r_iret S hr hlk hW h dX6_on_68
        · have h := h.2 c18
          refine lv_aload_n S.1 S.2.1 dX6_on_37 rfl (lv_at hl 0 rfl) ?_
          refine lv_iconst (v := 1) S.1 S.2.1 dX6_on_38 rfl ?_
          refine r_goI (r_runV (rest := []) S hW (mX6_deny l D T σ M17 (1 : Int32) _ h) w75 rfl LH_0 rfl hl.1 rfl (Nat.le_of_ble_eq_true rfl) dX6_on_39 ⟨Nat.zero_le _, Nat.zero_le _⟩) hW (fun r32 M33 H locs h hW => ?_)
          exact r_iret S hr hlk hW h dX6_on_42
abbrev rmX6_lack : Room := { frames := 4, cells := 0, slots := 0, locals := 94 }
set_option maxHeartbeats 4000000 in
set_option maxRecDepth 100000 in
theorem mX6_lack (l : Launch) (D : va_G) (T : Nat → ClassId) (σ : Nat → Nat) (M : Mem) (a1 : Int32) (a2 : Int32) (post : Int32 → Mem → Prop) (h : qX6_lack a1 a2 M post) : Met l yX6_lack wsX6_lack rmX6_lack (preW D T LH σ [.ref (σ 0), .int a1, .int a2] M) (postI D T LH σ post) 0 0 (fA LH σ) := by
  refine m_of (cc := cX6_lack) (maxL := 3) (ret := (some .int)) (own := RX6) (by decide) rfl rfl (Nat.le_of_ble_eq_true rfl) ?_
  intro p e s m args below meth c H ls locs S hr hlk hl hW
  have hl : lv_has ls 3 [(0, .ref (σ 0)), (1, .int a1), (2, .int a2)] := hl
  have w116 := va_cwS (R := rmX6_lack) (rm := rmX6_isHour) (mc := 0) (ms := 0) 1 S.2.2.2.2 gX6_lack_X6_isHour rfl rfl rfl (by decide +kernel) ⟨Nat.le_of_ble_eq_true rfl, Nat.le_of_ble_eq_true rfl⟩
  have w75 := cwV (R := rmX6_lack) (rm := rmX6_deny) (mc := 0) (ms := 0) 1 S.2.2.2.2 gX6_lack_X6_deny rfl rfl rfl (by decide +kernel) ⟨Nat.le_of_ble_eq_true rfl, Nat.le_of_ble_eq_true rfl⟩
  have w152 := va_cwS (R := rmX6_lack) (rm := rmX1_isFall) (mc := 0) (ms := 0) 1 S.2.2.2.2 gX6_lack_X1_isFall rfl rfl rfl (by decide +kernel) ⟨Nat.le_of_ble_eq_true rfl, Nat.le_of_ble_eq_true rfl⟩
  have inX6 : ∀ w ∈ u_ws RX6 TX6 6, w ∈ wsX6_lack := by decide +kernel
  have f19 := S.2.2.2.2 (.fieldLink RX6 19 "MachineHall" "hall" "LMachineHall$Hall;") (by decide +kernel)
  have w146 := cwV (R := rmX6_lack) (rm := rmX1_standing) (mc := 0) (ms := 0) 1 S.2.2.2.2 gX6_lack_X1_standing rfl rfl rfl (by decide +kernel) ⟨Nat.le_of_ble_eq_true rfl, Nat.le_of_ble_eq_true rfl⟩
  have w164 := cwV (R := rmX6_lack) (rm := rmX1_lacking) (mc := 0) (ms := 0) 2 S.2.2.2.2 gX6_lack_X1_lacking rfl rfl rfl (by decide +kernel) ⟨Nat.le_of_ble_eq_true rfl, Nat.le_of_ble_eq_true rfl⟩
  have w104 := cwV (R := rmX6_lack) (rm := rmX6_answer) (mc := 0) (ms := 0) 1 S.2.2.2.2 gX6_lack_X6_answer rfl rfl rfl (by decide +kernel) ⟨Nat.le_of_ble_eq_true rfl, Nat.le_of_ble_eq_true rfl⟩
  refine lv_iload_n S.1 S.2.1 dX6_lack_0 rfl (lv_at hl 1 rfl) ?_
  refine r_goI (r_runS (rest := []) S hW (mX6_isHour l D T σ M a1 _ h) w116 rfl hl.1 rfl (Nat.le_of_ble_eq_true rfl) dX6_lack_1 ⟨Nat.zero_le _, Nat.zero_le _⟩) hW (fun r1 M2 H locs h hW => ?_)
  refine lv_if_eq (tgt := 14) S.1 S.2.1 dX6_lack_4 (by decide) (fun c3 => ?_) (fun c3 => ?_)
  · have h := h.1 c3
    refine lv_aload_n S.1 S.2.1 dX6_lack_14 rfl (lv_at hl 0 rfl) ?_
    refine lv_iconst (v := 1) S.1 S.2.1 dX6_lack_15 rfl ?_
    refine r_goI (r_runV (rest := []) S hW (mX6_deny l D T σ M2 (1 : Int32) _ h) w75 rfl LH_0 rfl hl.1 rfl (Nat.le_of_ble_eq_true rfl) dX6_lack_16 ⟨Nat.zero_le _, Nat.zero_le _⟩) hW (fun r4 M5 H locs h hW => ?_)
    exact r_iret S hr hlk hW h dX6_lack_19
  · have h := h.2 c3
    refine lv_iload_n S.1 S.2.1 dX6_lack_7 rfl (lv_at hl 2 rfl) ?_
    refine r_goI (r_runS (rest := []) S hW (mX1_isFall l D T σ M2 a2 _ h) w152 rfl hl.1 rfl (Nat.le_of_ble_eq_true rfl) dX6_lack_8 ⟨Nat.zero_le _, Nat.zero_le _⟩) hW (fun r6 M7 H locs h hW => ?_)
    refine lv_if_ne (tgt := 20) S.1 S.2.1 dX6_lack_11 (by decide) (fun c8 => ?_) (fun c8 => ?_)
    · have h := h.1 c8
      refine lv_aload_n S.1 S.2.1 dX6_lack_20 rfl (lv_at hl 0 rfl) ?_
      refine lv_aload_n S.1 S.2.1 dX6_lack_21 rfl (lv_at hl 0 rfl) ?_
      refine r_getR (j := 1) S hW inX6 rfl f19 rfl LH_0 (by decide) rfl dX6_lack_22 ?_
      refine lv_iload_n S.1 S.2.1 dX6_lack_25 rfl (lv_at hl 1 rfl) ?_
      refine lv_aload_n S.1 S.2.1 dX6_lack_26 rfl (lv_at hl 0 rfl) ?_
      refine r_getR (j := 1) S hW inX6 rfl f19 rfl LH_0 (by decide) rfl dX6_lack_27 ?_
      refine lv_iload_n S.1 S.2.1 dX6_lack_30 rfl (lv_at hl 2 rfl) ?_
      refine r_goI (r_runV (rest := [.int a1, .ref (σ 11), .ref (σ 0)]) S hW (mX1_standing l D T σ M7 a2 _ h) w146 rfl LH_11 rfl hl.1 rfl (Nat.le_of_ble_eq_true rfl) dX6_lack_31 ⟨Nat.zero_le _, Nat.zero_le _⟩) hW (fun r9 M10 H locs h hW => ?_)
      refine r_goI (r_runV (rest := [.ref (σ 0)]) S hW (mX1_lacking l D T σ M10 a1 r9 _ h) w164 rfl LH_11 rfl hl.1 rfl (Nat.le_of_ble_eq_true rfl) dX6_lack_34 ⟨Nat.zero_le _, Nat.zero_le _⟩) hW (fun r11 M12 H locs h hW => ?_)
      refine r_goI (r_runV (rest := []) S hW (mX6_answer l D T σ M12 r11 _ h) w104 rfl LH_0 rfl hl.1 rfl (Nat.le_of_ble_eq_true rfl) dX6_lack_37 ⟨Nat.zero_le _, Nat.zero_le _⟩) hW (fun r13 M14 H locs h hW => ?_)
      exact r_iret S hr hlk hW h dX6_lack_40
    · have h := h.2 c8
      refine lv_aload_n S.1 S.2.1 dX6_lack_14 rfl (lv_at hl 0 rfl) ?_
      refine lv_iconst (v := 1) S.1 S.2.1 dX6_lack_15 rfl ?_
      refine r_goI (r_runV (rest := []) S hW (mX6_deny l D T σ M7 (1 : Int32) _ h) w75 rfl LH_0 rfl hl.1 rfl (Nat.le_of_ble_eq_true rfl) dX6_lack_16 ⟨Nat.zero_le _, Nat.zero_le _⟩) hW (fun r15 M16 H locs h hW => ?_)
      exact r_iret S hr hlk hW h dX6_lack_19
abbrev rmX6_left : Room := { frames := 4, cells := 0, slots := 0, locals := 92 }
set_option maxHeartbeats 4000000 in
set_option maxRecDepth 100000 in
theorem mX6_left (l : Launch) (D : va_G) (T : Nat → ClassId) (σ : Nat → Nat) (M : Mem) (a1 : Int32) (a2 : Int32) (post : Int32 → Mem → Prop) (h : qX6_left a1 a2 M post) : Met l yX6_left wsX6_left rmX6_left (preW D T LH σ [.ref (σ 0), .int a1, .int a2] M) (postI D T LH σ post) 0 0 (fA LH σ) := by
  refine m_of (cc := cX6_left) (maxL := 3) (ret := (some .int)) (own := RX6) (by decide) rfl rfl (Nat.le_of_ble_eq_true rfl) ?_
  intro p e s m args below meth c H ls locs S hr hlk hl hW
  have hl : lv_has ls 3 [(0, .ref (σ 0)), (1, .int a1), (2, .int a2)] := hl
  have w116 := va_cwS (R := rmX6_left) (rm := rmX6_isHour) (mc := 0) (ms := 0) 1 S.2.2.2.2 gX6_left_X6_isHour rfl rfl rfl (by decide +kernel) ⟨Nat.le_of_ble_eq_true rfl, Nat.le_of_ble_eq_true rfl⟩
  have w75 := cwV (R := rmX6_left) (rm := rmX6_deny) (mc := 0) (ms := 0) 1 S.2.2.2.2 gX6_left_X6_deny rfl rfl rfl (by decide +kernel) ⟨Nat.le_of_ble_eq_true rfl, Nat.le_of_ble_eq_true rfl⟩
  have w152 := va_cwS (R := rmX6_left) (rm := rmX1_isFall) (mc := 0) (ms := 0) 1 S.2.2.2.2 gX6_left_X1_isFall rfl rfl rfl (by decide +kernel) ⟨Nat.le_of_ble_eq_true rfl, Nat.le_of_ble_eq_true rfl⟩
  have inX6 : ∀ w ∈ u_ws RX6 TX6 6, w ∈ wsX6_left := by decide +kernel
  have f19 := S.2.2.2.2 (.fieldLink RX6 19 "MachineHall" "hall" "LMachineHall$Hall;") (by decide +kernel)
  have w146 := cwV (R := rmX6_left) (rm := rmX1_standing) (mc := 0) (ms := 0) 1 S.2.2.2.2 gX6_left_X1_standing rfl rfl rfl (by decide +kernel) ⟨Nat.le_of_ble_eq_true rfl, Nat.le_of_ble_eq_true rfl⟩
  have w167 := cwV (R := rmX6_left) (rm := rmX1_leftOver) (mc := 0) (ms := 0) 2 S.2.2.2.2 gX6_left_X1_leftOver rfl rfl rfl (by decide +kernel) ⟨Nat.le_of_ble_eq_true rfl, Nat.le_of_ble_eq_true rfl⟩
  have w104 := cwV (R := rmX6_left) (rm := rmX6_answer) (mc := 0) (ms := 0) 1 S.2.2.2.2 gX6_left_X6_answer rfl rfl rfl (by decide +kernel) ⟨Nat.le_of_ble_eq_true rfl, Nat.le_of_ble_eq_true rfl⟩
  refine lv_iload_n S.1 S.2.1 dX6_left_0 rfl (lv_at hl 1 rfl) ?_
  refine r_goI (r_runS (rest := []) S hW (mX6_isHour l D T σ M a1 _ h) w116 rfl hl.1 rfl (Nat.le_of_ble_eq_true rfl) dX6_left_1 ⟨Nat.zero_le _, Nat.zero_le _⟩) hW (fun r1 M2 H locs h hW => ?_)
  refine lv_if_eq (tgt := 14) S.1 S.2.1 dX6_left_4 (by decide) (fun c3 => ?_) (fun c3 => ?_)
  · have h := h.1 c3
    refine lv_aload_n S.1 S.2.1 dX6_left_14 rfl (lv_at hl 0 rfl) ?_
    refine lv_iconst (v := 1) S.1 S.2.1 dX6_left_15 rfl ?_
    refine r_goI (r_runV (rest := []) S hW (mX6_deny l D T σ M2 (1 : Int32) _ h) w75 rfl LH_0 rfl hl.1 rfl (Nat.le_of_ble_eq_true rfl) dX6_left_16 ⟨Nat.zero_le _, Nat.zero_le _⟩) hW (fun r4 M5 H locs h hW => ?_)
    exact r_iret S hr hlk hW h dX6_left_19
  · have h := h.2 c3
    refine lv_iload_n S.1 S.2.1 dX6_left_7 rfl (lv_at hl 2 rfl) ?_
    refine r_goI (r_runS (rest := []) S hW (mX1_isFall l D T σ M2 a2 _ h) w152 rfl hl.1 rfl (Nat.le_of_ble_eq_true rfl) dX6_left_8 ⟨Nat.zero_le _, Nat.zero_le _⟩) hW (fun r6 M7 H locs h hW => ?_)
    refine lv_if_ne (tgt := 20) S.1 S.2.1 dX6_left_11 (by decide) (fun c8 => ?_) (fun c8 => ?_)
    · have h := h.1 c8
      refine lv_aload_n S.1 S.2.1 dX6_left_20 rfl (lv_at hl 0 rfl) ?_
      refine lv_aload_n S.1 S.2.1 dX6_left_21 rfl (lv_at hl 0 rfl) ?_
      refine r_getR (j := 1) S hW inX6 rfl f19 rfl LH_0 (by decide) rfl dX6_left_22 ?_
      refine lv_iload_n S.1 S.2.1 dX6_left_25 rfl (lv_at hl 1 rfl) ?_
      refine lv_aload_n S.1 S.2.1 dX6_left_26 rfl (lv_at hl 0 rfl) ?_
      refine r_getR (j := 1) S hW inX6 rfl f19 rfl LH_0 (by decide) rfl dX6_left_27 ?_
      refine lv_iload_n S.1 S.2.1 dX6_left_30 rfl (lv_at hl 2 rfl) ?_
      refine r_goI (r_runV (rest := [.int a1, .ref (σ 11), .ref (σ 0)]) S hW (mX1_standing l D T σ M7 a2 _ h) w146 rfl LH_11 rfl hl.1 rfl (Nat.le_of_ble_eq_true rfl) dX6_left_31 ⟨Nat.zero_le _, Nat.zero_le _⟩) hW (fun r9 M10 H locs h hW => ?_)
      refine r_goI (r_runV (rest := [.ref (σ 0)]) S hW (mX1_leftOver l D T σ M10 a1 r9 _ h) w167 rfl LH_11 rfl hl.1 rfl (Nat.le_of_ble_eq_true rfl) dX6_left_34 ⟨Nat.zero_le _, Nat.zero_le _⟩) hW (fun r11 M12 H locs h hW => ?_)
      refine r_goI (r_runV (rest := []) S hW (mX6_answer l D T σ M12 r11 _ h) w104 rfl LH_0 rfl hl.1 rfl (Nat.le_of_ble_eq_true rfl) dX6_left_37 ⟨Nat.zero_le _, Nat.zero_le _⟩) hW (fun r13 M14 H locs h hW => ?_)
      exact r_iret S hr hlk hW h dX6_left_40
    · have h := h.2 c8
      refine lv_aload_n S.1 S.2.1 dX6_left_14 rfl (lv_at hl 0 rfl) ?_
      refine lv_iconst (v := 1) S.1 S.2.1 dX6_left_15 rfl ?_
      refine r_goI (r_runV (rest := []) S hW (mX6_deny l D T σ M7 (1 : Int32) _ h) w75 rfl LH_0 rfl hl.1 rfl (Nat.le_of_ble_eq_true rfl) dX6_left_16 ⟨Nat.zero_le _, Nat.zero_le _⟩) hW (fun r15 M16 H locs h hW => ?_)
      exact r_iret S hr hlk hW h dX6_left_19
abbrev rmX6_enough : Room := { frames := 6, cells := 0, slots := 0, locals := 139 }
set_option maxHeartbeats 4000000 in
set_option maxRecDepth 100000 in
theorem mX6_enough (l : Launch) (D : va_G) (T : Nat → ClassId) (σ : Nat → Nat) (M : Mem) (a1 : Int32) (post : Int32 → Mem → Prop) (h : qX6_enough a1 M post) : Met l yX6_enough wsX6_enough rmX6_enough (preW D T LH σ [.ref (σ 0), .int a1] M) (postI D T LH σ post) 0 0 (fA LH σ) := by
  refine m_of (cc := cX6_enough) (maxL := 2) (ret := (some .int)) (own := RX6) (by decide) rfl rfl (Nat.le_of_ble_eq_true rfl) ?_
  intro p e s m args below meth c H ls locs S hr hlk hl hW
  have hl : lv_has ls 2 [(0, .ref (σ 0)), (1, .int a1)] := hl
  have w52 := va_cwS (R := rmX6_enough) (rm := rmX6_within) (mc := 0) (ms := 0) 3 S.2.2.2.2 gX6_enough_X6_within rfl rfl rfl (by decide +kernel) ⟨Nat.le_of_ble_eq_true rfl, Nat.le_of_ble_eq_true rfl⟩
  have inX6 : ∀ w ∈ u_ws RX6 TX6 6, w ∈ wsX6_enough := by decide +kernel
  have f19 := S.2.2.2.2 (.fieldLink RX6 19 "MachineHall" "hall" "LMachineHall$Hall;") (by decide +kernel)
  have w170 := cwV (R := rmX6_enough) (rm := rmX1_firstUnfit) (mc := 0) (ms := 0) 1 S.2.2.2.2 gX6_enough_X1_firstUnfit rfl rfl rfl (by decide +kernel) ⟨Nat.le_of_ble_eq_true rfl, Nat.le_of_ble_eq_true rfl⟩
  have w104 := cwV (R := rmX6_enough) (rm := rmX6_answer) (mc := 0) (ms := 0) 1 S.2.2.2.2 gX6_enough_X6_answer rfl rfl rfl (by decide +kernel) ⟨Nat.le_of_ble_eq_true rfl, Nat.le_of_ble_eq_true rfl⟩
  have w75 := cwV (R := rmX6_enough) (rm := rmX6_deny) (mc := 0) (ms := 0) 1 S.2.2.2.2 gX6_enough_X6_deny rfl rfl rfl (by decide +kernel) ⟨Nat.le_of_ble_eq_true rfl, Nat.le_of_ble_eq_true rfl⟩
  refine lv_iload_n S.1 S.2.1 dX6_enough_0 rfl (lv_at hl 1 rfl) ?_
  refine lv_i2l S.1 S.2.1 dX6_enough_1 rfl ?_
  refine lv_iconst (v := 0) S.1 S.2.1 dX6_enough_2 rfl ?_
  refine lv_iconst (v := 2) S.1 S.2.1 dX6_enough_3 rfl ?_
  refine r_goI (r_runS (rest := []) S hW (mX6_within l D T LH σ M (a1.toInt64) (0 : Int32) (2 : Int32) _ h) w52 rfl hl.1 rfl (Nat.le_of_ble_eq_true rfl) dX6_enough_4 ⟨Nat.zero_le _, Nat.zero_le _⟩) hW (fun r1 M2 H locs h hW => ?_)
  refine lv_if_ne (tgt := 16) S.1 S.2.1 dX6_enough_7 (by decide) (fun c3 => ?_) (fun c3 => ?_)
  · have h := h.1 c3
    refine lv_aload_n S.1 S.2.1 dX6_enough_16 rfl (lv_at hl 0 rfl) ?_
    refine lv_aload_n S.1 S.2.1 dX6_enough_17 rfl (lv_at hl 0 rfl) ?_
    refine r_getR (j := 1) S hW inX6 rfl f19 rfl LH_0 (by decide) rfl dX6_enough_18 ?_
    refine lv_iload_n S.1 S.2.1 dX6_enough_21 rfl (lv_at hl 1 rfl) ?_
    refine r_goI (r_runV (rest := [.ref (σ 0)]) S hW (mX1_firstUnfit l D T σ M2 a1 _ h) w170 rfl LH_11 rfl hl.1 rfl (Nat.le_of_ble_eq_true rfl) dX6_enough_22 ⟨Nat.zero_le _, Nat.zero_le _⟩) hW (fun r4 M5 H locs h hW => ?_)
    refine r_goI (r_runV (rest := []) S hW (mX6_answer l D T σ M5 r4 _ h) w104 rfl LH_0 rfl hl.1 rfl (Nat.le_of_ble_eq_true rfl) dX6_enough_25 ⟨Nat.zero_le _, Nat.zero_le _⟩) hW (fun r6 M7 H locs h hW => ?_)
    exact r_iret S hr hlk hW h dX6_enough_28
  · have h := h.2 c3
    refine lv_aload_n S.1 S.2.1 dX6_enough_10 rfl (lv_at hl 0 rfl) ?_
    refine lv_iconst (v := 1) S.1 S.2.1 dX6_enough_11 rfl ?_
    refine r_goI (r_runV (rest := []) S hW (mX6_deny l D T σ M2 (1 : Int32) _ h) w75 rfl LH_0 rfl hl.1 rfl (Nat.le_of_ble_eq_true rfl) dX6_enough_12 ⟨Nat.zero_le _, Nat.zero_le _⟩) hW (fun r8 M9 H locs h hW => ?_)
    exact r_iret S hr hlk hW h dX6_enough_15
abbrev rmX6_batch : Room := { frames := 2, cells := 0, slots := 0, locals := 45 }
set_option maxHeartbeats 4000000 in
set_option maxRecDepth 100000 in
theorem mX6_batch (l : Launch) (D : va_G) (T : Nat → ClassId) (σ : Nat → Nat) (M : Mem) (a1 : Int32) (a2 : Int32) (a3 : Int32) (a4 : Int32) (post : Int32 → Mem → Prop) (h : qX6_batch a1 a2 a3 a4 M post) : Met l yX6_batch wsX6_batch rmX6_batch (preW D T LH σ [.ref (σ 0), .int a1, .int a2, .int a3, .int a4] M) (postI D T LH σ post) 0 0 (fA LH σ) := by
  refine m_of (cc := cX6_batch) (maxL := 5) (ret := (some .int)) (own := RX6) (by decide) rfl rfl (Nat.le_of_ble_eq_true rfl) ?_
  intro p e s m args below meth c H ls locs S hr hlk hl hW
  have hl : lv_has ls 5 [(0, .ref (σ 0)), (1, .int a1), (2, .int a2), (3, .int a3), (4, .int a4)] := hl
  have w52 := va_cwS (R := rmX6_batch) (rm := rmX6_within) (mc := 0) (ms := 0) 3 S.2.2.2.2 gX6_batch_X6_within rfl rfl rfl (by decide +kernel) ⟨Nat.le_of_ble_eq_true rfl, Nat.le_of_ble_eq_true rfl⟩
  have w75 := cwV (R := rmX6_batch) (rm := rmX6_deny) (mc := 0) (ms := 0) 1 S.2.2.2.2 gX6_batch_X6_deny rfl rfl rfl (by decide +kernel) ⟨Nat.le_of_ble_eq_true rfl, Nat.le_of_ble_eq_true rfl⟩
  have w116 := va_cwS (R := rmX6_batch) (rm := rmX6_isHour) (mc := 0) (ms := 0) 1 S.2.2.2.2 gX6_batch_X6_isHour rfl rfl rfl (by decide +kernel) ⟨Nat.le_of_ble_eq_true rfl, Nat.le_of_ble_eq_true rfl⟩
  have inX6 : ∀ w ∈ u_ws RX6 TX6 6, w ∈ wsX6_batch := by decide +kernel
  have f26 := S.2.2.2.2 (.fieldLink RX6 26 "MachineHall" "plan" "LMachineHall$Plan;") (by decide +kernel)
  have inX3 : ∀ w ∈ u_ws RX3 TX3 9, w ∈ wsX6_batch := by decide +kernel
  have f140 := S.2.2.2.2 (.fieldLink RX6 140 "MachineHall$Plan" "batches" "I") (by decide +kernel)
  have w173 := cwV (R := rmX6_batch) (rm := rmX3_addBatch) (mc := 0) (ms := 0) 4 S.2.2.2.2 gX6_batch_X3_addBatch rfl rfl rfl (by decide +kernel) ⟨Nat.le_of_ble_eq_true rfl, Nat.le_of_ble_eq_true rfl⟩
  have w104 := cwV (R := rmX6_batch) (rm := rmX6_answer) (mc := 0) (ms := 0) 1 S.2.2.2.2 gX6_batch_X6_answer rfl rfl rfl (by decide +kernel) ⟨Nat.le_of_ble_eq_true rfl, Nat.le_of_ble_eq_true rfl⟩
  refine lv_iload_n S.1 S.2.1 dX6_batch_0 rfl (lv_at hl 1 rfl) ?_
  refine lv_i2l S.1 S.2.1 dX6_batch_1 rfl ?_
  refine lv_iconst (v := 1) S.1 S.2.1 dX6_batch_2 rfl ?_
  refine lv_sipush (v := 10000) S.1 S.2.1 dX6_batch_3 rfl ?_
  refine r_goI (r_runS (rest := []) S hW (mX6_within l D T LH σ M (a1.toInt64) (1 : Int32) (10000 : Int32) _ h) w52 rfl hl.1 rfl (Nat.le_of_ble_eq_true rfl) dX6_batch_6 ⟨Nat.zero_le _, Nat.zero_le _⟩) hW (fun r1 M2 H locs h hW => ?_)
  refine lv_if_eq (tgt := 45) S.1 S.2.1 dX6_batch_9 (by decide) (fun c3 => ?_) (fun c3 => ?_)
  · have h := h.1 c3
    refine lv_aload_n S.1 S.2.1 dX6_batch_45 rfl (lv_at hl 0 rfl) ?_
    refine lv_iconst (v := 1) S.1 S.2.1 dX6_batch_46 rfl ?_
    refine r_goI (r_runV (rest := []) S hW (mX6_deny l D T σ M2 (1 : Int32) _ h) w75 rfl LH_0 rfl hl.1 rfl (Nat.le_of_ble_eq_true rfl) dX6_batch_47 ⟨Nat.zero_le _, Nat.zero_le _⟩) hW (fun r4 M5 H locs h hW => ?_)
    exact r_iret S hr hlk hW h dX6_batch_50
  · have h := h.2 c3
    refine lv_iload_n S.1 S.2.1 dX6_batch_12 rfl (lv_at hl 2 rfl) ?_
    refine r_goI (r_runS (rest := []) S hW (mX6_isHour l D T σ M2 a2 _ h) w116 rfl hl.1 rfl (Nat.le_of_ble_eq_true rfl) dX6_batch_13 ⟨Nat.zero_le _, Nat.zero_le _⟩) hW (fun r6 M7 H locs h hW => ?_)
    refine lv_if_eq (tgt := 45) S.1 S.2.1 dX6_batch_16 (by decide) (fun c8 => ?_) (fun c8 => ?_)
    · have h := h.1 c8
      refine lv_aload_n S.1 S.2.1 dX6_batch_45 rfl (lv_at hl 0 rfl) ?_
      refine lv_iconst (v := 1) S.1 S.2.1 dX6_batch_46 rfl ?_
      refine r_goI (r_runV (rest := []) S hW (mX6_deny l D T σ M7 (1 : Int32) _ h) w75 rfl LH_0 rfl hl.1 rfl (Nat.le_of_ble_eq_true rfl) dX6_batch_47 ⟨Nat.zero_le _, Nat.zero_le _⟩) hW (fun r9 M10 H locs h hW => ?_)
      exact r_iret S hr hlk hW h dX6_batch_50
    · have h := h.2 c8
      refine lv_iload_n S.1 S.2.1 dX6_batch_19 rfl (lv_at hl 3 rfl) ?_
      refine lv_i2l S.1 S.2.1 dX6_batch_20 rfl ?_
      refine lv_iload_n S.1 S.2.1 dX6_batch_21 rfl (lv_at hl 2 rfl) ?_
      refine lv_iconst (v := 1) S.1 S.2.1 dX6_batch_22 rfl ?_
      refine lv_iadd S.1 S.2.1 dX6_batch_23 ?_
      refine lv_bipush (v := 24) S.1 S.2.1 dX6_batch_24 rfl ?_
      refine r_goI (r_runS (rest := []) S hW (mX6_within l D T LH σ M7 (a3.toInt64) (a2 + (1 : Int32)) (24 : Int32) _ h) w52 rfl hl.1 rfl (Nat.le_of_ble_eq_true rfl) dX6_batch_26 ⟨Nat.zero_le _, Nat.zero_le _⟩) hW (fun r11 M12 H locs h hW => ?_)
      refine lv_if_eq (tgt := 45) S.1 S.2.1 dX6_batch_29 (by decide) (fun c13 => ?_) (fun c13 => ?_)
      · have h := h.1 c13
        refine lv_aload_n S.1 S.2.1 dX6_batch_45 rfl (lv_at hl 0 rfl) ?_
        refine lv_iconst (v := 1) S.1 S.2.1 dX6_batch_46 rfl ?_
        refine r_goI (r_runV (rest := []) S hW (mX6_deny l D T σ M12 (1 : Int32) _ h) w75 rfl LH_0 rfl hl.1 rfl (Nat.le_of_ble_eq_true rfl) dX6_batch_47 ⟨Nat.zero_le _, Nat.zero_le _⟩) hW (fun r14 M15 H locs h hW => ?_)
        exact r_iret S hr hlk hW h dX6_batch_50
      · have h := h.2 c13
        refine lv_iload S.1 S.2.1 dX6_batch_32 (lv_at hl 4 rfl) ?_
        refine lv_i2l S.1 S.2.1 dX6_batch_34 rfl ?_
        refine lv_iconst (v := 1) S.1 S.2.1 dX6_batch_35 rfl ?_
        refine lv_sipush (v := 1000) S.1 S.2.1 dX6_batch_36 rfl ?_
        refine r_goI (r_runS (rest := []) S hW (mX6_within l D T LH σ M12 (a4.toInt64) (1 : Int32) (1000 : Int32) _ h) w52 rfl hl.1 rfl (Nat.le_of_ble_eq_true rfl) dX6_batch_39 ⟨Nat.zero_le _, Nat.zero_le _⟩) hW (fun r16 M17 H locs h hW => ?_)
        refine lv_if_ne (tgt := 51) S.1 S.2.1 dX6_batch_42 (by decide) (fun c18 => ?_) (fun c18 => ?_)
        · have h := h.1 c18
          refine lv_aload_n S.1 S.2.1 dX6_batch_51 rfl (lv_at hl 0 rfl) ?_
          refine r_getR (j := 2) S hW inX6 rfl f26 rfl LH_0 (by decide) rfl dX6_batch_52 ?_
          refine r_getI (j := 0) S hW inX3 rfl f140 rfl LH_21 (by decide) rfl dX6_batch_55 ?_
          refine lv_bipush (v := 8) S.1 S.2.1 dX6_batch_58 rfl ?_
          refine lv_icmp_ne (tgt := 69) S.1 S.2.1 dX6_batch_60 (by decide) (fun c19 => ?_) (fun c19 => ?_)
          · have h := h.1 c19
            refine lv_aload_n S.1 S.2.1 dX6_batch_69 rfl (lv_at hl 0 rfl) ?_
            refine lv_aload_n S.1 S.2.1 dX6_batch_70 rfl (lv_at hl 0 rfl) ?_
            refine r_getR (j := 2) S hW inX6 rfl f26 rfl LH_0 (by decide) rfl dX6_batch_71 ?_
            refine lv_iload_n S.1 S.2.1 dX6_batch_74 rfl (lv_at hl 1 rfl) ?_
            refine lv_iload_n S.1 S.2.1 dX6_batch_75 rfl (lv_at hl 2 rfl) ?_
            refine lv_iload_n S.1 S.2.1 dX6_batch_76 rfl (lv_at hl 3 rfl) ?_
            refine lv_iload S.1 S.2.1 dX6_batch_77 (lv_at hl 4 rfl) ?_
            refine r_goI (r_runV (rest := [.ref (σ 0)]) S hW (mX3_addBatch l D T σ M17 a1 a2 a3 a4 _ h) w173 rfl LH_21 rfl hl.1 rfl (Nat.le_of_ble_eq_true rfl) dX6_batch_79 ⟨Nat.zero_le _, Nat.zero_le _⟩) hW (fun r20 M21 H locs h hW => ?_)
            refine r_goI (r_runV (rest := []) S hW (mX6_answer l D T σ M21 r20 _ h) w104 rfl LH_0 rfl hl.1 rfl (Nat.le_of_ble_eq_true rfl) dX6_batch_82 ⟨Nat.zero_le _, Nat.zero_le _⟩) hW (fun r22 M23 H locs h hW => ?_)
            exact r_iret S hr hlk hW h dX6_batch_85
          · have h := h.2 c19
            refine lv_aload_n S.1 S.2.1 dX6_batch_63 rfl (lv_at hl 0 rfl) ?_
            refine lv_iconst (v := 4) S.1 S.2.1 dX6_batch_64 rfl ?_
            refine r_goI (r_runV (rest := []) S hW (mX6_deny l D T σ M17 (4 : Int32) _ h) w75 rfl LH_0 rfl hl.1 rfl (Nat.le_of_ble_eq_true rfl) dX6_batch_65 ⟨Nat.zero_le _, Nat.zero_le _⟩) hW (fun r24 M25 H locs h hW => ?_)
            exact r_iret S hr hlk hW h dX6_batch_68
        · have h := h.2 c18
          refine lv_aload_n S.1 S.2.1 dX6_batch_45 rfl (lv_at hl 0 rfl) ?_
          refine lv_iconst (v := 1) S.1 S.2.1 dX6_batch_46 rfl ?_
          refine r_goI (r_runV (rest := []) S hW (mX6_deny l D T σ M17 (1 : Int32) _ h) w75 rfl LH_0 rfl hl.1 rfl (Nat.le_of_ble_eq_true rfl) dX6_batch_47 ⟨Nat.zero_le _, Nat.zero_le _⟩) hW (fun r26 M27 H locs h hW => ?_)
          exact r_iret S hr hlk hW h dX6_batch_50
abbrev rmX6_rest : Room := { frames := 6, cells := 0, slots := 0, locals := 142 }
set_option maxHeartbeats 4000000 in
set_option maxRecDepth 100000 in
theorem mX6_rest (l : Launch) (D : va_G) (T : Nat → ClassId) (σ : Nat → Nat) (M : Mem) (a1 : Int32) (post : Int32 → Mem → Prop) (h : qX6_rest a1 M post) : Met l yX6_rest wsX6_rest rmX6_rest (preW D T LH σ [.ref (σ 0), .int a1] M) (postI D T LH σ post) 0 0 (fA LH σ) := by
  refine m_of (cc := cX6_rest) (maxL := 2) (ret := (some .int)) (own := RX6) (by decide) rfl rfl (Nat.le_of_ble_eq_true rfl) ?_
  intro p e s m args below meth c H ls locs S hr hlk hl hW
  have hl : lv_has ls 2 [(0, .ref (σ 0)), (1, .int a1)] := hl
  have w152 := va_cwS (R := rmX6_rest) (rm := rmX1_isFall) (mc := 0) (ms := 0) 1 S.2.2.2.2 gX6_rest_X1_isFall rfl rfl rfl (by decide +kernel) ⟨Nat.le_of_ble_eq_true rfl, Nat.le_of_ble_eq_true rfl⟩
  have inX6 : ∀ w ∈ u_ws RX6 TX6 6, w ∈ wsX6_rest := by decide +kernel
  have f26 := S.2.2.2.2 (.fieldLink RX6 26 "MachineHall" "plan" "LMachineHall$Plan;") (by decide +kernel)
  have f19 := S.2.2.2.2 (.fieldLink RX6 19 "MachineHall" "hall" "LMachineHall$Hall;") (by decide +kernel)
  have w146 := cwV (R := rmX6_rest) (rm := rmX1_standing) (mc := 0) (ms := 0) 1 S.2.2.2.2 gX6_rest_X1_standing rfl rfl rfl (by decide +kernel) ⟨Nat.le_of_ble_eq_true rfl, Nat.le_of_ble_eq_true rfl⟩
  have w177 := cwV (R := rmX6_rest) (rm := rmX3_lay) (mc := 0) (ms := 0) 2 S.2.2.2.2 gX6_rest_X3_lay rfl rfl rfl (by decide +kernel) ⟨Nat.le_of_ble_eq_true rfl, Nat.le_of_ble_eq_true rfl⟩
  have inX3 : ∀ w ∈ u_ws RX3 TX3 9, w ∈ wsX6_rest := by decide +kernel
  have f181 := S.2.2.2.2 (.fieldLink RX6 181 "MachineHall$Plan" "unlaid" "I") (by decide +kernel)
  have w104 := cwV (R := rmX6_rest) (rm := rmX6_answer) (mc := 0) (ms := 0) 1 S.2.2.2.2 gX6_rest_X6_answer rfl rfl rfl (by decide +kernel) ⟨Nat.le_of_ble_eq_true rfl, Nat.le_of_ble_eq_true rfl⟩
  have w75 := cwV (R := rmX6_rest) (rm := rmX6_deny) (mc := 0) (ms := 0) 1 S.2.2.2.2 gX6_rest_X6_deny rfl rfl rfl (by decide +kernel) ⟨Nat.le_of_ble_eq_true rfl, Nat.le_of_ble_eq_true rfl⟩
  refine lv_iload_n S.1 S.2.1 dX6_rest_0 rfl (lv_at hl 1 rfl) ?_
  refine r_goI (r_runS (rest := []) S hW (mX1_isFall l D T σ M a1 _ h) w152 rfl hl.1 rfl (Nat.le_of_ble_eq_true rfl) dX6_rest_1 ⟨Nat.zero_le _, Nat.zero_le _⟩) hW (fun r1 M2 H locs h hW => ?_)
  refine lv_if_ne (tgt := 13) S.1 S.2.1 dX6_rest_4 (by decide) (fun c3 => ?_) (fun c3 => ?_)
  · have h := h.1 c3
    refine lv_aload_n S.1 S.2.1 dX6_rest_13 rfl (lv_at hl 0 rfl) ?_
    refine r_getR (j := 2) S hW inX6 rfl f26 rfl LH_0 (by decide) rfl dX6_rest_14 ?_
    refine lv_aload_n S.1 S.2.1 dX6_rest_17 rfl (lv_at hl 0 rfl) ?_
    refine r_getR (j := 1) S hW inX6 rfl f19 rfl LH_0 (by decide) rfl dX6_rest_18 ?_
    refine lv_aload_n S.1 S.2.1 dX6_rest_21 rfl (lv_at hl 0 rfl) ?_
    refine r_getR (j := 1) S hW inX6 rfl f19 rfl LH_0 (by decide) rfl dX6_rest_22 ?_
    refine lv_iload_n S.1 S.2.1 dX6_rest_25 rfl (lv_at hl 1 rfl) ?_
    refine r_goI (r_runV (rest := [.ref (σ 11), .ref (σ 21)]) S hW (mX1_standing l D T σ M2 a1 _ h) w146 rfl LH_11 rfl hl.1 rfl (Nat.le_of_ble_eq_true rfl) dX6_rest_26 ⟨Nat.zero_le _, Nat.zero_le _⟩) hW (fun r4 M5 H locs h hW => ?_)
    refine r_goV (r_runV (rest := []) S hW (mX3_lay l D T σ M5 r4 _ h) w177 rfl LH_21 rfl hl.1 rfl (Nat.le_of_ble_eq_true rfl) dX6_rest_29 ⟨Nat.zero_le _, Nat.zero_le _⟩) hW (fun M7 H locs h hW => ?_)
    refine lv_aload_n S.1 S.2.1 dX6_rest_32 rfl (lv_at hl 0 rfl) ?_
    refine lv_aload_n S.1 S.2.1 dX6_rest_33 rfl (lv_at hl 0 rfl) ?_
    refine r_getR (j := 2) S hW inX6 rfl f26 rfl LH_0 (by decide) rfl dX6_rest_34 ?_
    refine r_getI (j := 1) S hW inX3 rfl f181 rfl LH_21 (by decide) rfl dX6_rest_37 ?_
    refine r_goI (r_runV (rest := []) S hW (mX6_answer l D T σ M7 (M7.1 21 1) _ h) w104 rfl LH_0 rfl hl.1 rfl (Nat.le_of_ble_eq_true rfl) dX6_rest_40 ⟨Nat.zero_le _, Nat.zero_le _⟩) hW (fun r8 M9 H locs h hW => ?_)
    exact r_iret S hr hlk hW h dX6_rest_43
  · have h := h.2 c3
    refine lv_aload_n S.1 S.2.1 dX6_rest_7 rfl (lv_at hl 0 rfl) ?_
    refine lv_iconst (v := 1) S.1 S.2.1 dX6_rest_8 rfl ?_
    refine r_goI (r_runV (rest := []) S hW (mX6_deny l D T σ M2 (1 : Int32) _ h) w75 rfl LH_0 rfl hl.1 rfl (Nat.le_of_ble_eq_true rfl) dX6_rest_9 ⟨Nat.zero_le _, Nat.zero_le _⟩) hW (fun r10 M11 H locs h hW => ?_)
    exact r_iret S hr hlk hW h dX6_rest_12
abbrev rmX6_part : Room := { frames := 6, cells := 0, slots := 0, locals := 142 }
set_option maxHeartbeats 4000000 in
set_option maxRecDepth 100000 in
theorem mX6_part (l : Launch) (D : va_G) (T : Nat → ClassId) (σ : Nat → Nat) (M : Mem) (a1 : Int32) (a2 : Int32) (a3 : Int32) (post : Int32 → Mem → Prop) (h : qX6_part a1 a2 a3 M post) : Met l yX6_part wsX6_part rmX6_part (preW D T LH σ [.ref (σ 0), .int a1, .int a2, .int a3] M) (postI D T LH σ post) 0 0 (fA LH σ) := by
  refine m_of (cc := cX6_part) (maxL := 4) (ret := (some .int)) (own := RX6) (by decide) rfl rfl (Nat.le_of_ble_eq_true rfl) ?_
  intro p e s m args below meth c H ls locs S hr hlk hl hW
  have hl : lv_has ls 4 [(0, .ref (σ 0)), (1, .int a1), (2, .int a2), (3, .int a3)] := hl
  have w152 := va_cwS (R := rmX6_part) (rm := rmX1_isFall) (mc := 0) (ms := 0) 1 S.2.2.2.2 gX6_part_X1_isFall rfl rfl rfl (by decide +kernel) ⟨Nat.le_of_ble_eq_true rfl, Nat.le_of_ble_eq_true rfl⟩
  have w75 := cwV (R := rmX6_part) (rm := rmX6_deny) (mc := 0) (ms := 0) 1 S.2.2.2.2 gX6_part_X6_deny rfl rfl rfl (by decide +kernel) ⟨Nat.le_of_ble_eq_true rfl, Nat.le_of_ble_eq_true rfl⟩
  have inX6 : ∀ w ∈ u_ws RX6 TX6 6, w ∈ wsX6_part := by decide +kernel
  have f26 := S.2.2.2.2 (.fieldLink RX6 26 "MachineHall" "plan" "LMachineHall$Plan;") (by decide +kernel)
  have w184 := cwV (R := rmX6_part) (rm := rmX3_hasBatch) (mc := 0) (ms := 0) 1 S.2.2.2.2 gX6_part_X3_hasBatch rfl rfl rfl (by decide +kernel) ⟨Nat.le_of_ble_eq_true rfl, Nat.le_of_ble_eq_true rfl⟩
  have w116 := va_cwS (R := rmX6_part) (rm := rmX6_isHour) (mc := 0) (ms := 0) 1 S.2.2.2.2 gX6_part_X6_isHour rfl rfl rfl (by decide +kernel) ⟨Nat.le_of_ble_eq_true rfl, Nat.le_of_ble_eq_true rfl⟩
  have f19 := S.2.2.2.2 (.fieldLink RX6 19 "MachineHall" "hall" "LMachineHall$Hall;") (by decide +kernel)
  have w146 := cwV (R := rmX6_part) (rm := rmX1_standing) (mc := 0) (ms := 0) 1 S.2.2.2.2 gX6_part_X1_standing rfl rfl rfl (by decide +kernel) ⟨Nat.le_of_ble_eq_true rfl, Nat.le_of_ble_eq_true rfl⟩
  have w177 := cwV (R := rmX6_part) (rm := rmX3_lay) (mc := 0) (ms := 0) 2 S.2.2.2.2 gX6_part_X3_lay rfl rfl rfl (by decide +kernel) ⟨Nat.le_of_ble_eq_true rfl, Nat.le_of_ble_eq_true rfl⟩
  have inX3 : ∀ w ∈ u_ws RX3 TX3 9, w ∈ wsX6_part := by decide +kernel
  have f181 := S.2.2.2.2 (.fieldLink RX6 181 "MachineHall$Plan" "unlaid" "I") (by decide +kernel)
  have f187 := S.2.2.2.2 (.fieldLink RX6 187 "MachineHall$Plan" "parts" "[[I") (by decide +kernel)
  have w104 := cwV (R := rmX6_part) (rm := rmX6_answer) (mc := 0) (ms := 0) 1 S.2.2.2.2 gX6_part_X6_answer rfl rfl rfl (by decide +kernel) ⟨Nat.le_of_ble_eq_true rfl, Nat.le_of_ble_eq_true rfl⟩
  refine lv_iload_n S.1 S.2.1 dX6_part_0 rfl (lv_at hl 1 rfl) ?_
  refine r_goI (r_runS (rest := []) S hW (mX1_isFall l D T σ M a1 _ h) w152 rfl hl.1 rfl (Nat.le_of_ble_eq_true rfl) dX6_part_1 ⟨Nat.zero_le _, Nat.zero_le _⟩) hW (fun r1 M2 H locs h hW => ?_)
  refine lv_if_eq (tgt := 25) S.1 S.2.1 dX6_part_4 (by decide) (fun c3 => ?_) (fun c3 => ?_)
  · have h := h.1 c3
    refine lv_aload_n S.1 S.2.1 dX6_part_25 rfl (lv_at hl 0 rfl) ?_
    refine lv_iconst (v := 1) S.1 S.2.1 dX6_part_26 rfl ?_
    refine r_goI (r_runV (rest := []) S hW (mX6_deny l D T σ M2 (1 : Int32) _ h) w75 rfl LH_0 rfl hl.1 rfl (Nat.le_of_ble_eq_true rfl) dX6_part_27 ⟨Nat.zero_le _, Nat.zero_le _⟩) hW (fun r4 M5 H locs h hW => ?_)
    exact r_iret S hr hlk hW h dX6_part_30
  · have h := h.2 c3
    refine lv_aload_n S.1 S.2.1 dX6_part_7 rfl (lv_at hl 0 rfl) ?_
    refine r_getR (j := 2) S hW inX6 rfl f26 rfl LH_0 (by decide) rfl dX6_part_8 ?_
    refine lv_iload_n S.1 S.2.1 dX6_part_11 rfl (lv_at hl 2 rfl) ?_
    refine r_goI (r_runV (rest := []) S hW (mX3_hasBatch l D T σ M2 a2 _ h) w184 rfl LH_21 rfl hl.1 rfl (Nat.le_of_ble_eq_true rfl) dX6_part_12 ⟨Nat.zero_le _, Nat.zero_le _⟩) hW (fun r6 M7 H locs h hW => ?_)
    refine lv_if_eq (tgt := 25) S.1 S.2.1 dX6_part_15 (by decide) (fun c8 => ?_) (fun c8 => ?_)
    · have h := h.1 c8
      refine lv_aload_n S.1 S.2.1 dX6_part_25 rfl (lv_at hl 0 rfl) ?_
      refine lv_iconst (v := 1) S.1 S.2.1 dX6_part_26 rfl ?_
      refine r_goI (r_runV (rest := []) S hW (mX6_deny l D T σ M7 (1 : Int32) _ h) w75 rfl LH_0 rfl hl.1 rfl (Nat.le_of_ble_eq_true rfl) dX6_part_27 ⟨Nat.zero_le _, Nat.zero_le _⟩) hW (fun r9 M10 H locs h hW => ?_)
      exact r_iret S hr hlk hW h dX6_part_30
    · have h := h.2 c8
      refine lv_iload_n S.1 S.2.1 dX6_part_18 rfl (lv_at hl 3 rfl) ?_
      refine r_goI (r_runS (rest := []) S hW (mX6_isHour l D T σ M7 a3 _ h) w116 rfl hl.1 rfl (Nat.le_of_ble_eq_true rfl) dX6_part_19 ⟨Nat.zero_le _, Nat.zero_le _⟩) hW (fun r11 M12 H locs h hW => ?_)
      refine lv_if_ne (tgt := 31) S.1 S.2.1 dX6_part_22 (by decide) (fun c13 => ?_) (fun c13 => ?_)
      · have h := h.1 c13
        refine lv_aload_n S.1 S.2.1 dX6_part_31 rfl (lv_at hl 0 rfl) ?_
        refine r_getR (j := 2) S hW inX6 rfl f26 rfl LH_0 (by decide) rfl dX6_part_32 ?_
        refine lv_aload_n S.1 S.2.1 dX6_part_35 rfl (lv_at hl 0 rfl) ?_
        refine r_getR (j := 1) S hW inX6 rfl f19 rfl LH_0 (by decide) rfl dX6_part_36 ?_
        refine lv_aload_n S.1 S.2.1 dX6_part_39 rfl (lv_at hl 0 rfl) ?_
        refine r_getR (j := 1) S hW inX6 rfl f19 rfl LH_0 (by decide) rfl dX6_part_40 ?_
        refine lv_iload_n S.1 S.2.1 dX6_part_43 rfl (lv_at hl 1 rfl) ?_
        refine r_goI (r_runV (rest := [.ref (σ 11), .ref (σ 21)]) S hW (mX1_standing l D T σ M12 a1 _ h) w146 rfl LH_11 rfl hl.1 rfl (Nat.le_of_ble_eq_true rfl) dX6_part_44 ⟨Nat.zero_le _, Nat.zero_le _⟩) hW (fun r14 M15 H locs h hW => ?_)
        refine r_goV (r_runV (rest := []) S hW (mX3_lay l D T σ M15 r14 _ h) w177 rfl LH_21 rfl hl.1 rfl (Nat.le_of_ble_eq_true rfl) dX6_part_47 ⟨Nat.zero_le _, Nat.zero_le _⟩) hW (fun M17 H locs h hW => ?_)
        refine lv_aload_n S.1 S.2.1 dX6_part_50 rfl (lv_at hl 0 rfl) ?_
        refine r_getR (j := 2) S hW inX6 rfl f26 rfl LH_0 (by decide) rfl dX6_part_51 ?_
        refine r_getI (j := 1) S hW inX3 rfl f181 rfl LH_21 (by decide) rfl dX6_part_54 ?_
        refine lv_if_le (tgt := 67) S.1 S.2.1 dX6_part_57 (by decide) (fun c18 => ?_) (fun c18 => ?_)
        · have h := h.1 c18
          refine lv_aload_n S.1 S.2.1 dX6_part_67 rfl (lv_at hl 0 rfl) ?_
          refine lv_aload_n S.1 S.2.1 dX6_part_68 rfl (lv_at hl 0 rfl) ?_
          refine r_getR (j := 2) S hW inX6 rfl f26 rfl LH_0 (by decide) rfl dX6_part_69 ?_
          refine r_getR (j := 2) S hW inX3 rfl f187 rfl LH_21 (by decide) rfl dX6_part_72 ?_
          refine lv_iload_n S.1 S.2.1 dX6_part_75 rfl (lv_at hl 2 rfl) ?_
          have b19 := h.1
          have h := h.2
          refine r_aald (t := 0) S hW LH_22 (by decide) b19 dX6_part_76 ?_
          refine lv_iload_n S.1 S.2.1 dX6_part_77 rfl (lv_at hl 3 rfl) ?_
          have b20 := h.1
          have h := h.2
          refine r_iald S hW (LHr_22 (vp_lt b19)) b20 dX6_part_78 ?_
          refine r_goI (r_runV (rest := []) S hW (mX6_answer l D T σ M17 (M17.1 (23 + a2.toNatClampNeg) a3.toNatClampNeg) _ h) w104 rfl LH_0 rfl hl.1 rfl (Nat.le_of_ble_eq_true rfl) dX6_part_79 ⟨Nat.zero_le _, Nat.zero_le _⟩) hW (fun r21 M22 H locs h hW => ?_)
          exact r_iret S hr hlk hW h dX6_part_82
        · have h := h.2 c18
          refine lv_aload_n S.1 S.2.1 dX6_part_60 rfl (lv_at hl 0 rfl) ?_
          refine lv_bipush (v := 7) S.1 S.2.1 dX6_part_61 rfl ?_
          refine r_goI (r_runV (rest := []) S hW (mX6_deny l D T σ M17 (7 : Int32) _ h) w75 rfl LH_0 rfl hl.1 rfl (Nat.le_of_ble_eq_true rfl) dX6_part_63 ⟨Nat.zero_le _, Nat.zero_le _⟩) hW (fun r23 M24 H locs h hW => ?_)
          exact r_iret S hr hlk hW h dX6_part_66
      · have h := h.2 c13
        refine lv_aload_n S.1 S.2.1 dX6_part_25 rfl (lv_at hl 0 rfl) ?_
        refine lv_iconst (v := 1) S.1 S.2.1 dX6_part_26 rfl ?_
        refine r_goI (r_runV (rest := []) S hW (mX6_deny l D T σ M12 (1 : Int32) _ h) w75 rfl LH_0 rfl hl.1 rfl (Nat.le_of_ble_eq_true rfl) dX6_part_27 ⟨Nat.zero_le _, Nat.zero_le _⟩) hW (fun r25 M26 H locs h hW => ?_)
        exact r_iret S hr hlk hW h dX6_part_30
abbrev rmX6_isLine : Room := { frames := 2, cells := 0, slots := 0, locals := 43 }
set_option maxHeartbeats 4000000 in
set_option maxRecDepth 100000 in
theorem mX6_isLine (l : Launch) (D : va_G) (T : Nat → ClassId) (σ : Nat → Nat) (M : Mem) (a0 : Int32) (a1 : Int32) (a2 : Int32) (post : Int32 → Mem → Prop) (h : qX6_isLine a0 a1 a2 M post) : Met l yX6_isLine wsX6_isLine rmX6_isLine (preW D T LH σ [.int a0, .int a1, .int a2] M) (postI D T LH σ post) 0 0 (fA LH σ) := by
  refine m_of (cc := cX6_isLine) (maxL := 3) (ret := (some .boolean)) (own := RX6) (by decide) rfl rfl (Nat.le_of_ble_eq_true rfl) ?_
  intro p e s m args below meth c H ls locs S hr hlk hl hW
  have hl : lv_has ls 3 [(0, .int a0), (1, .int a1), (2, .int a2)] := hl
  have w48 := va_cwS (R := rmX6_isLine) (rm := rmX4_isNumber) (mc := 0) (ms := 0) 1 S.2.2.2.2 gX6_isLine_X4_isNumber rfl rfl rfl (by decide +kernel) ⟨Nat.le_of_ble_eq_true rfl, Nat.le_of_ble_eq_true rfl⟩
  have w52 := va_cwS (R := rmX6_isLine) (rm := rmX6_within) (mc := 0) (ms := 0) 3 S.2.2.2.2 gX6_isLine_X6_within rfl rfl rfl (by decide +kernel) ⟨Nat.le_of_ble_eq_true rfl, Nat.le_of_ble_eq_true rfl⟩
  refine lv_iload_n S.1 S.2.1 dX6_isLine_0 rfl (lv_at hl 0 rfl) ?_
  refine r_goI (r_runS (rest := []) S hW (mX4_isNumber l D T σ M a0 _ h) w48 rfl hl.1 rfl (Nat.le_of_ble_eq_true rfl) dX6_isLine_1 ⟨Nat.zero_le _, Nat.zero_le _⟩) hW (fun r1 M2 H locs h hW => ?_)
  refine lv_if_eq (tgt := 33) S.1 S.2.1 dX6_isLine_4 (by decide) (fun c3 => ?_) (fun c3 => ?_)
  · have h := h.1 c3
    refine lv_iconst (v := 0) S.1 S.2.1 dX6_isLine_33 rfl ?_
    exact r_zret S hr hlk hW rfl h dX6_isLine_34
  · have h := h.2 c3
    refine lv_iload_n S.1 S.2.1 dX6_isLine_7 rfl (lv_at hl 1 rfl) ?_
    refine lv_i2l S.1 S.2.1 dX6_isLine_8 rfl ?_
    refine lv_iconst (v := 1) S.1 S.2.1 dX6_isLine_9 rfl ?_
    refine lv_bipush (v := 64) S.1 S.2.1 dX6_isLine_10 rfl ?_
    refine r_goI (r_runS (rest := []) S hW (mX6_within l D T LH σ M2 (a1.toInt64) (1 : Int32) (64 : Int32) _ h) w52 rfl hl.1 rfl (Nat.le_of_ble_eq_true rfl) dX6_isLine_12 ⟨Nat.zero_le _, Nat.zero_le _⟩) hW (fun r4 M5 H locs h hW => ?_)
    refine lv_if_eq (tgt := 33) S.1 S.2.1 dX6_isLine_15 (by decide) (fun c6 => ?_) (fun c6 => ?_)
    · have h := h.1 c6
      refine lv_iconst (v := 0) S.1 S.2.1 dX6_isLine_33 rfl ?_
      exact r_zret S hr hlk hW rfl h dX6_isLine_34
    · have h := h.2 c6
      refine lv_iload_n S.1 S.2.1 dX6_isLine_18 rfl (lv_at hl 2 rfl) ?_
      refine lv_i2l S.1 S.2.1 dX6_isLine_19 rfl ?_
      refine lv_iconst (v := 1) S.1 S.2.1 dX6_isLine_20 rfl ?_
      refine lv_bipush (v := 100) S.1 S.2.1 dX6_isLine_21 rfl ?_
      refine r_goI (r_runS (rest := []) S hW (mX6_within l D T LH σ M5 (a2.toInt64) (1 : Int32) (100 : Int32) _ h) w52 rfl hl.1 rfl (Nat.le_of_ble_eq_true rfl) dX6_isLine_23 ⟨Nat.zero_le _, Nat.zero_le _⟩) hW (fun r7 M8 H locs h hW => ?_)
      refine lv_if_eq (tgt := 33) S.1 S.2.1 dX6_isLine_26 (by decide) (fun c9 => ?_) (fun c9 => ?_)
      · have h := h.1 c9
        refine lv_iconst (v := 0) S.1 S.2.1 dX6_isLine_33 rfl ?_
        exact r_zret S hr hlk hW rfl h dX6_isLine_34
      · have h := h.2 c9
        refine lv_iconst (v := 1) S.1 S.2.1 dX6_isLine_29 rfl ?_
        refine lv_goto (tgt := 34) S.1 S.2.1 dX6_isLine_30 (by decide) ?_
        exact r_zret S hr hlk hW rfl h dX6_isLine_34
abbrev rmX6_line : Room := { frames := 3, cells := 0, slots := 0, locals := 75 }
set_option maxHeartbeats 4000000 in
set_option maxRecDepth 100000 in
theorem mX6_line (l : Launch) (D : va_G) (T : Nat → ClassId) (σ : Nat → Nat) (M : Mem) (a1 : Int32) (a2 : Int32) (a3 : Int32) (a4 : Int32) (a5 : Int32) (post : Int32 → Mem → Prop) (h : qX6_line a1 a2 a3 a4 a5 M post) : Met l yX6_line wsX6_line rmX6_line (preW D T LH σ [.ref (σ 0), .int a1, .int a2, .int a3, .int a4, .int a5] M) (postI D T LH σ post) 0 0 (fA LH σ) := by
  refine m_of (cc := cX6_line) (maxL := 7) (ret := (some .int)) (own := RX6) (by decide) rfl rfl (Nat.le_of_ble_eq_true rfl) ?_
  intro p e s m args below meth c H ls locs S hr hlk hl hW
  have hl : lv_has ls 7 [(0, .ref (σ 0)), (1, .int a1), (2, .int a2), (3, .int a3), (4, .int a4), (5, .int a5)] := hl
  have w191 := va_cwS (R := rmX6_line) (rm := rmX6_isLine) (mc := 0) (ms := 0) 3 S.2.2.2.2 gX6_line_X6_isLine rfl rfl rfl (by decide +kernel) ⟨Nat.le_of_ble_eq_true rfl, Nat.le_of_ble_eq_true rfl⟩
  have w75 := cwV (R := rmX6_line) (rm := rmX6_deny) (mc := 0) (ms := 0) 1 S.2.2.2.2 gX6_line_X6_deny rfl rfl rfl (by decide +kernel) ⟨Nat.le_of_ble_eq_true rfl, Nat.le_of_ble_eq_true rfl⟩
  have w52 := va_cwS (R := rmX6_line) (rm := rmX6_within) (mc := 0) (ms := 0) 3 S.2.2.2.2 gX6_line_X6_within rfl rfl rfl (by decide +kernel) ⟨Nat.le_of_ble_eq_true rfl, Nat.le_of_ble_eq_true rfl⟩
  have inX6 : ∀ w ∈ u_ws RX6 TX6 6, w ∈ wsX6_line := by decide +kernel
  have f10 := S.2.2.2.2 (.fieldLink RX6 10 "MachineHall" "sheets" "LMachineHall$Sheets;") (by decide +kernel)
  have w194 := cwV (R := rmX6_line) (rm := rmX4_whyNotFirst) (mc := 0) (ms := 0) 3 S.2.2.2.2 gX6_line_X4_whyNotFirst rfl rfl rfl (by decide +kernel) ⟨Nat.le_of_ble_eq_true rfl, Nat.le_of_ble_eq_true rfl⟩
  have f33 := S.2.2.2.2 (.fieldLink RX6 33 "MachineHall" "waiting" "LMachineHall$Waiting;") (by decide +kernel)
  have w197 := cwV (R := rmX6_line) (rm := rmX5_serve) (mc := 0) (ms := 0) 5 S.2.2.2.2 gX6_line_X5_serve rfl rfl rfl (by decide +kernel) ⟨Nat.le_of_ble_eq_true rfl, Nat.le_of_ble_eq_true rfl⟩
  have w201 := cwV (R := rmX6_line) (rm := rmX5_told) (mc := 0) (ms := 0) 1 S.2.2.2.2 gX6_line_X5_told rfl rfl rfl (by decide +kernel) ⟨Nat.le_of_ble_eq_true rfl, Nat.le_of_ble_eq_true rfl⟩
  have w104 := cwV (R := rmX6_line) (rm := rmX6_answer) (mc := 0) (ms := 0) 1 S.2.2.2.2 gX6_line_X6_answer rfl rfl rfl (by decide +kernel) ⟨Nat.le_of_ble_eq_true rfl, Nat.le_of_ble_eq_true rfl⟩
  refine lv_iload_n S.1 S.2.1 dX6_line_0 rfl (lv_at hl 1 rfl) ?_
  refine lv_iload_n S.1 S.2.1 dX6_line_1 rfl (lv_at hl 2 rfl) ?_
  refine lv_iload S.1 S.2.1 dX6_line_2 (lv_at hl 4 rfl) ?_
  refine r_goI (r_runS (rest := []) S hW (mX6_isLine l D T σ M a1 a2 a4 _ h) w191 rfl hl.1 rfl (Nat.le_of_ble_eq_true rfl) dX6_line_4 ⟨Nat.zero_le _, Nat.zero_le _⟩) hW (fun r1 M2 H locs h hW => ?_)
  refine lv_if_eq (tgt := 32) S.1 S.2.1 dX6_line_7 (by decide) (fun c3 => ?_) (fun c3 => ?_)
  · have h := h.1 c3
    refine lv_aload_n S.1 S.2.1 dX6_line_32 rfl (lv_at hl 0 rfl) ?_
    refine lv_iconst (v := 1) S.1 S.2.1 dX6_line_33 rfl ?_
    refine r_goI (r_runV (rest := []) S hW (mX6_deny l D T σ M2 (1 : Int32) _ h) w75 rfl LH_0 rfl hl.1 rfl (Nat.le_of_ble_eq_true rfl) dX6_line_34 ⟨Nat.zero_le _, Nat.zero_le _⟩) hW (fun r4 M5 H locs h hW => ?_)
    exact r_iret S hr hlk hW h dX6_line_37
  · have h := h.2 c3
    refine lv_iload_n S.1 S.2.1 dX6_line_10 rfl (lv_at hl 3 rfl) ?_
    refine lv_i2l S.1 S.2.1 dX6_line_11 rfl ?_
    refine lv_iconst (v := 1) S.1 S.2.1 dX6_line_12 rfl ?_
    refine lv_bipush (v := 20) S.1 S.2.1 dX6_line_13 rfl ?_
    refine r_goI (r_runS (rest := []) S hW (mX6_within l D T LH σ M2 (a3.toInt64) (1 : Int32) (20 : Int32) _ h) w52 rfl hl.1 rfl (Nat.le_of_ble_eq_true rfl) dX6_line_15 ⟨Nat.zero_le _, Nat.zero_le _⟩) hW (fun r6 M7 H locs h hW => ?_)
    refine lv_if_eq (tgt := 32) S.1 S.2.1 dX6_line_18 (by decide) (fun c8 => ?_) (fun c8 => ?_)
    · have h := h.1 c8
      refine lv_aload_n S.1 S.2.1 dX6_line_32 rfl (lv_at hl 0 rfl) ?_
      refine lv_iconst (v := 1) S.1 S.2.1 dX6_line_33 rfl ?_
      refine r_goI (r_runV (rest := []) S hW (mX6_deny l D T σ M7 (1 : Int32) _ h) w75 rfl LH_0 rfl hl.1 rfl (Nat.le_of_ble_eq_true rfl) dX6_line_34 ⟨Nat.zero_le _, Nat.zero_le _⟩) hW (fun r9 M10 H locs h hW => ?_)
      exact r_iret S hr hlk hW h dX6_line_37
    · have h := h.2 c8
      refine lv_iload S.1 S.2.1 dX6_line_21 (lv_at hl 5 rfl) ?_
      refine lv_i2l S.1 S.2.1 dX6_line_23 rfl ?_
      refine lv_iconst (v := 0) S.1 S.2.1 dX6_line_24 rfl ?_
      refine lv_iconst (v := 4) S.1 S.2.1 dX6_line_25 rfl ?_
      refine r_goI (r_runS (rest := []) S hW (mX6_within l D T LH σ M7 (a5.toInt64) (0 : Int32) (4 : Int32) _ h) w52 rfl hl.1 rfl (Nat.le_of_ble_eq_true rfl) dX6_line_26 ⟨Nat.zero_le _, Nat.zero_le _⟩) hW (fun r11 M12 H locs h hW => ?_)
      refine lv_if_ne (tgt := 38) S.1 S.2.1 dX6_line_29 (by decide) (fun c13 => ?_) (fun c13 => ?_)
      · have h := h.1 c13
        refine lv_aload_n S.1 S.2.1 dX6_line_38 rfl (lv_at hl 0 rfl) ?_
        refine r_getR (j := 0) S hW inX6 rfl f10 rfl LH_0 (by decide) rfl dX6_line_39 ?_
        refine lv_iload_n S.1 S.2.1 dX6_line_42 rfl (lv_at hl 1 rfl) ?_
        refine lv_iload_n S.1 S.2.1 dX6_line_43 rfl (lv_at hl 2 rfl) ?_
        refine lv_bipush (v := 100) S.1 S.2.1 dX6_line_44 rfl ?_
        refine r_goI (r_runV (rest := []) S hW (mX4_whyNotFirst l D T σ M12 a1 a2 (100 : Int32) _ h) w194 rfl LH_1 rfl hl.1 rfl (Nat.le_of_ble_eq_true rfl) dX6_line_46 ⟨Nat.zero_le _, Nat.zero_le _⟩) hW (fun r14 M15 H locs h hW => ?_)
        refine lv_istore (lv' := [(6, .int r14), (0, .ref (σ 0)), (1, .int a1), (2, .int a2), (3, .int a3), (4, .int a4), (5, .int a5)]) S.1 S.2.1 dX6_line_49 hl (by decide) rfl (fun ls hl => ?_)
        refine lv_iload S.1 S.2.1 dX6_line_51 (lv_at hl 0 rfl) ?_
        refine lv_if_eq (tgt := 63) S.1 S.2.1 dX6_line_53 (by decide) (fun c16 => ?_) (fun c16 => ?_)
        · have h := h.1 c16
          refine lv_aload_n S.1 S.2.1 dX6_line_63 rfl (lv_at hl 1 rfl) ?_
          refine r_getR (j := 3) S hW inX6 rfl f33 rfl LH_0 (by decide) rfl dX6_line_64 ?_
          refine lv_aload_n S.1 S.2.1 dX6_line_67 rfl (lv_at hl 1 rfl) ?_
          refine r_getR (j := 0) S hW inX6 rfl f10 rfl LH_0 (by decide) rfl dX6_line_68 ?_
          refine lv_iload_n S.1 S.2.1 dX6_line_71 rfl (lv_at hl 2 rfl) ?_
          refine lv_iload_n S.1 S.2.1 dX6_line_72 rfl (lv_at hl 3 rfl) ?_
          refine lv_iload_n S.1 S.2.1 dX6_line_73 rfl (lv_at hl 4 rfl) ?_
          refine lv_iload S.1 S.2.1 dX6_line_74 (lv_at hl 5 rfl) ?_
          refine r_goV (r_runV (rest := []) S hW (mX5_serve l D T σ M15 a1 a2 a3 a4 _ h) w197 rfl LH_73 rfl hl.1 rfl (Nat.le_of_ble_eq_true rfl) dX6_line_76 ⟨Nat.zero_le _, Nat.zero_le _⟩) hW (fun M18 H locs h hW => ?_)
          refine lv_aload_n S.1 S.2.1 dX6_line_79 rfl (lv_at hl 1 rfl) ?_
          refine lv_aload_n S.1 S.2.1 dX6_line_80 rfl (lv_at hl 1 rfl) ?_
          refine r_getR (j := 3) S hW inX6 rfl f33 rfl LH_0 (by decide) rfl dX6_line_81 ?_
          refine lv_iload S.1 S.2.1 dX6_line_84 (lv_at hl 6 rfl) ?_
          refine r_goI (r_runV (rest := [.ref (σ 0)]) S hW (mX5_told l D T σ M18 a5 _ h) w201 rfl LH_73 rfl hl.1 rfl (Nat.le_of_ble_eq_true rfl) dX6_line_86 ⟨Nat.zero_le _, Nat.zero_le _⟩) hW (fun r19 M20 H locs h hW => ?_)
          refine r_goI (r_runV (rest := []) S hW (mX6_answer l D T σ M20 r19 _ h) w104 rfl LH_0 rfl hl.1 rfl (Nat.le_of_ble_eq_true rfl) dX6_line_89 ⟨Nat.zero_le _, Nat.zero_le _⟩) hW (fun r21 M22 H locs h hW => ?_)
          exact r_iret S hr hlk hW h dX6_line_92
        · have h := h.2 c16
          refine lv_aload_n S.1 S.2.1 dX6_line_56 rfl (lv_at hl 1 rfl) ?_
          refine lv_iload S.1 S.2.1 dX6_line_57 (lv_at hl 0 rfl) ?_
          refine r_goI (r_runV (rest := []) S hW (mX6_deny l D T σ M15 r14 _ h) w75 rfl LH_0 rfl hl.1 rfl (Nat.le_of_ble_eq_true rfl) dX6_line_59 ⟨Nat.zero_le _, Nat.zero_le _⟩) hW (fun r23 M24 H locs h hW => ?_)
          exact r_iret S hr hlk hW h dX6_line_62
      · have h := h.2 c13
        refine lv_aload_n S.1 S.2.1 dX6_line_32 rfl (lv_at hl 0 rfl) ?_
        refine lv_iconst (v := 1) S.1 S.2.1 dX6_line_33 rfl ?_
        refine r_goI (r_runV (rest := []) S hW (mX6_deny l D T σ M12 (1 : Int32) _ h) w75 rfl LH_0 rfl hl.1 rfl (Nat.le_of_ble_eq_true rfl) dX6_line_34 ⟨Nat.zero_le _, Nat.zero_le _⟩) hW (fun r25 M26 H locs h hW => ?_)
        exact r_iret S hr hlk hW h dX6_line_37
abbrev rmX6_hands : Room := { frames := 3, cells := 0, slots := 0, locals := 75 }
set_option maxHeartbeats 4000000 in
set_option maxRecDepth 100000 in
theorem mX6_hands (l : Launch) (D : va_G) (T : Nat → ClassId) (σ : Nat → Nat) (M : Mem) (a1 : Int32) (a2 : Int32) (a3 : Int32) (a4 : Int32) (post : Int32 → Mem → Prop) (h : qX6_hands a1 a2 a3 a4 M post) : Met l yX6_hands wsX6_hands rmX6_hands (preW D T LH σ [.ref (σ 0), .int a1, .int a2, .int a3, .int a4] M) (postI D T LH σ post) 0 0 (fA LH σ) := by
  refine m_of (cc := cX6_hands) (maxL := 7) (ret := (some .int)) (own := RX6) (by decide) rfl rfl (Nat.le_of_ble_eq_true rfl) ?_
  intro p e s m args below meth c H ls locs S hr hlk hl hW
  have hl : lv_has ls 7 [(0, .ref (σ 0)), (1, .int a1), (2, .int a2), (3, .int a3), (4, .int a4)] := hl
  have w191 := va_cwS (R := rmX6_hands) (rm := rmX6_isLine) (mc := 0) (ms := 0) 3 S.2.2.2.2 gX6_hands_X6_isLine rfl rfl rfl (by decide +kernel) ⟨Nat.le_of_ble_eq_true rfl, Nat.le_of_ble_eq_true rfl⟩
  have w75 := cwV (R := rmX6_hands) (rm := rmX6_deny) (mc := 0) (ms := 0) 1 S.2.2.2.2 gX6_hands_X6_deny rfl rfl rfl (by decide +kernel) ⟨Nat.le_of_ble_eq_true rfl, Nat.le_of_ble_eq_true rfl⟩
  have w52 := va_cwS (R := rmX6_hands) (rm := rmX6_within) (mc := 0) (ms := 0) 3 S.2.2.2.2 gX6_hands_X6_within rfl rfl rfl (by decide +kernel) ⟨Nat.le_of_ble_eq_true rfl, Nat.le_of_ble_eq_true rfl⟩
  have inX6 : ∀ w ∈ u_ws RX6 TX6 6, w ∈ wsX6_hands := by decide +kernel
  have f10 := S.2.2.2.2 (.fieldLink RX6 10 "MachineHall" "sheets" "LMachineHall$Sheets;") (by decide +kernel)
  have w194 := cwV (R := rmX6_hands) (rm := rmX4_whyNotFirst) (mc := 0) (ms := 0) 3 S.2.2.2.2 gX6_hands_X4_whyNotFirst rfl rfl rfl (by decide +kernel) ⟨Nat.le_of_ble_eq_true rfl, Nat.le_of_ble_eq_true rfl⟩
  have f33 := S.2.2.2.2 (.fieldLink RX6 33 "MachineHall" "waiting" "LMachineHall$Waiting;") (by decide +kernel)
  have w197 := cwV (R := rmX6_hands) (rm := rmX5_serve) (mc := 0) (ms := 0) 5 S.2.2.2.2 gX6_hands_X5_serve rfl rfl rfl (by decide +kernel) ⟨Nat.le_of_ble_eq_true rfl, Nat.le_of_ble_eq_true rfl⟩
  have inX5 : ∀ w ∈ u_ws RX5 TX5 6, w ∈ wsX6_hands := by decide +kernel
  have f204 := S.2.2.2.2 (.fieldLink RX6 204 "MachineHall$Waiting" "greatest" "I") (by decide +kernel)
  have w104 := cwV (R := rmX6_hands) (rm := rmX6_answer) (mc := 0) (ms := 0) 1 S.2.2.2.2 gX6_hands_X6_answer rfl rfl rfl (by decide +kernel) ⟨Nat.le_of_ble_eq_true rfl, Nat.le_of_ble_eq_true rfl⟩
  obtain ⟨R56, e56⟩ : ∃ R : Int32 → Mem → Prop, ∀ x6 M, R x6 M ↔ WW p l e rmX6_hands s m args below meth c D T LH σ 7 (MQ below (postI D T LH σ post) args s 0 0 (fA LH σ)) 56 [(0, .ref (σ 0)), (1, .int a1), (2, .int a2), (3, .int a3), (4, .int a4), (6, .int x6)] [] M := ⟨_, fun _ _ => Iff.rfl⟩
  have h := h R56
  have z56 : ∀ x6 M, qX6_hands_b56 a1 a2 a3 a4 post R56 x6 M → R56 x6 M := by
    intro x6 M h
    refine (e56 _ _).mpr (fun H locs ls hW hl => ?_)
    refine lv_iload S.1 S.2.1 dX6_hands_56 (lv_at hl 5 rfl) ?_
    refine lv_bipush (v := 20) S.1 S.2.1 dX6_hands_58 rfl ?_
    refine lv_icmp_gt (tgt := 104) S.1 S.2.1 dX6_hands_60 (by decide) (fun c16 => ?_) (fun c16 => ?_)
    · have h := h.1 c16
      refine lv_aload_n S.1 S.2.1 dX6_hands_104 rfl (lv_at hl 0 rfl) ?_
      refine lv_bipush (v := 7) S.1 S.2.1 dX6_hands_105 rfl ?_
      refine r_goI (r_runV (rest := []) S hW (mX6_deny l D T σ M (7 : Int32) _ h) w75 rfl LH_0 rfl hl.1 rfl (Nat.le_of_ble_eq_true rfl) dX6_hands_107 ⟨Nat.zero_le _, Nat.zero_le _⟩) hW (fun r17 M18 H locs h hW => ?_)
      exact r_iret S hr hlk hW h dX6_hands_110
    · have h := h.2 c16
      refine lv_aload_n S.1 S.2.1 dX6_hands_63 rfl (lv_at hl 0 rfl) ?_
      refine r_getR (j := 3) S hW inX6 rfl f33 rfl LH_0 (by decide) rfl dX6_hands_64 ?_
      refine lv_aload_n S.1 S.2.1 dX6_hands_67 rfl (lv_at hl 0 rfl) ?_
      refine r_getR (j := 0) S hW inX6 rfl f10 rfl LH_0 (by decide) rfl dX6_hands_68 ?_
      refine lv_iload_n S.1 S.2.1 dX6_hands_71 rfl (lv_at hl 1 rfl) ?_
      refine lv_iload_n S.1 S.2.1 dX6_hands_72 rfl (lv_at hl 2 rfl) ?_
      refine lv_iload S.1 S.2.1 dX6_hands_73 (lv_at hl 5 rfl) ?_
      refine lv_iload_n S.1 S.2.1 dX6_hands_75 rfl (lv_at hl 3 rfl) ?_
      refine r_goV (r_runV (rest := []) S hW (mX5_serve l D T σ M a1 a2 x6 a3 _ h) w197 rfl LH_73 rfl hl.1 rfl (Nat.le_of_ble_eq_true rfl) dX6_hands_76 ⟨Nat.zero_le _, Nat.zero_le _⟩) hW (fun M20 H locs h hW => ?_)
      refine lv_aload_n S.1 S.2.1 dX6_hands_79 rfl (lv_at hl 0 rfl) ?_
      refine r_getR (j := 3) S hW inX6 rfl f33 rfl LH_0 (by decide) rfl dX6_hands_80 ?_
      refine r_getI (j := 0) S hW inX5 rfl f204 rfl LH_73 (by decide) rfl dX6_hands_83 ?_
      refine lv_iload S.1 S.2.1 dX6_hands_86 (lv_at hl 4 rfl) ?_
      refine lv_icmp_gt (tgt := 98) S.1 S.2.1 dX6_hands_88 (by decide) (fun c21 => ?_) (fun c21 => ?_)
      · have h := h.1 c21
        obtain ⟨v22, ev22⟩ : ∃ y : Int32, y = x6 + 1 := ⟨_, rfl⟩
        have h := h v22 ev22
        refine lv_iinc (v := v22) (lv' := [(6, .int v22), (0, .ref (σ 0)), (1, .int a1), (2, .int a2), (3, .int a3), (4, .int a4)]) S.1 S.2.1 dX6_hands_98 hl (k := 5) rfl (by rw [ev22]; rfl) (by decide) rfl (fun ls hl => ?_)
        refine lv_goto (tgt := 56) S.1 S.2.1 dX6_hands_101 (by decide) ?_
        exact (e56 _ _).mp h H locs ls hW (lv_sub hl [1, 2, 3, 4, 5, 0] rfl)
      · have h := h.2 c21
        refine lv_aload_n S.1 S.2.1 dX6_hands_91 rfl (lv_at hl 0 rfl) ?_
        refine lv_iload S.1 S.2.1 dX6_hands_92 (lv_at hl 5 rfl) ?_
        refine r_goI (r_runV (rest := []) S hW (mX6_answer l D T σ M20 x6 _ h) w104 rfl LH_0 rfl hl.1 rfl (Nat.le_of_ble_eq_true rfl) dX6_hands_94 ⟨Nat.zero_le _, Nat.zero_le _⟩) hW (fun r23 M24 H locs h hW => ?_)
        exact r_iret S hr hlk hW h dX6_hands_97
  have h := h z56
  refine lv_iload_n S.1 S.2.1 dX6_hands_0 rfl (lv_at hl 1 rfl) ?_
  refine lv_iload_n S.1 S.2.1 dX6_hands_1 rfl (lv_at hl 2 rfl) ?_
  refine lv_iload_n S.1 S.2.1 dX6_hands_2 rfl (lv_at hl 3 rfl) ?_
  refine r_goI (r_runS (rest := []) S hW (mX6_isLine l D T σ M a1 a2 a3 _ h) w191 rfl hl.1 rfl (Nat.le_of_ble_eq_true rfl) dX6_hands_3 ⟨Nat.zero_le _, Nat.zero_le _⟩) hW (fun r1 M2 H locs h hW => ?_)
  refine lv_if_eq (tgt := 22) S.1 S.2.1 dX6_hands_6 (by decide) (fun c3 => ?_) (fun c3 => ?_)
  · have h := h.1 c3
    refine lv_aload_n S.1 S.2.1 dX6_hands_22 rfl (lv_at hl 0 rfl) ?_
    refine lv_iconst (v := 1) S.1 S.2.1 dX6_hands_23 rfl ?_
    refine r_goI (r_runV (rest := []) S hW (mX6_deny l D T σ M2 (1 : Int32) _ h) w75 rfl LH_0 rfl hl.1 rfl (Nat.le_of_ble_eq_true rfl) dX6_hands_24 ⟨Nat.zero_le _, Nat.zero_le _⟩) hW (fun r4 M5 H locs h hW => ?_)
    exact r_iret S hr hlk hW h dX6_hands_27
  · have h := h.2 c3
    refine lv_iload S.1 S.2.1 dX6_hands_9 (lv_at hl 4 rfl) ?_
    refine lv_i2l S.1 S.2.1 dX6_hands_11 rfl ?_
    refine lv_iconst (v := 0) S.1 S.2.1 dX6_hands_12 rfl ?_
    refine lv_sipush (v := 10000) S.1 S.2.1 dX6_hands_13 rfl ?_
    refine r_goI (r_runS (rest := []) S hW (mX6_within l D T LH σ M2 (a4.toInt64) (0 : Int32) (10000 : Int32) _ h) w52 rfl hl.1 rfl (Nat.le_of_ble_eq_true rfl) dX6_hands_16 ⟨Nat.zero_le _, Nat.zero_le _⟩) hW (fun r6 M7 H locs h hW => ?_)
    refine lv_if_ne (tgt := 28) S.1 S.2.1 dX6_hands_19 (by decide) (fun c8 => ?_) (fun c8 => ?_)
    · have h := h.1 c8
      refine lv_aload_n S.1 S.2.1 dX6_hands_28 rfl (lv_at hl 0 rfl) ?_
      refine r_getR (j := 0) S hW inX6 rfl f10 rfl LH_0 (by decide) rfl dX6_hands_29 ?_
      refine lv_iload_n S.1 S.2.1 dX6_hands_32 rfl (lv_at hl 1 rfl) ?_
      refine lv_iload_n S.1 S.2.1 dX6_hands_33 rfl (lv_at hl 2 rfl) ?_
      refine lv_bipush (v := 100) S.1 S.2.1 dX6_hands_34 rfl ?_
      refine r_goI (r_runV (rest := []) S hW (mX4_whyNotFirst l D T σ M7 a1 a2 (100 : Int32) _ h) w194 rfl LH_1 rfl hl.1 rfl (Nat.le_of_ble_eq_true rfl) dX6_hands_36 ⟨Nat.zero_le _, Nat.zero_le _⟩) hW (fun r9 M10 H locs h hW => ?_)
      refine lv_istore (lv' := [(5, .int r9), (0, .ref (σ 0)), (1, .int a1), (2, .int a2), (3, .int a3), (4, .int a4)]) S.1 S.2.1 dX6_hands_39 hl (by decide) rfl (fun ls hl => ?_)
      refine lv_iload S.1 S.2.1 dX6_hands_41 (lv_at hl 0 rfl) ?_
      refine lv_if_eq (tgt := 53) S.1 S.2.1 dX6_hands_43 (by decide) (fun c11 => ?_) (fun c11 => ?_)
      · have h := h.1 c11
        refine lv_iconst (v := 1) S.1 S.2.1 dX6_hands_53 rfl ?_
        refine lv_istore (lv' := [(6, .int (1 : Int32)), (5, .int r9), (0, .ref (σ 0)), (1, .int a1), (2, .int a2), (3, .int a3), (4, .int a4)]) S.1 S.2.1 dX6_hands_54 hl (by decide) rfl (fun ls hl => ?_)
        exact (e56 _ _).mp h H locs ls hW (lv_sub hl [2, 3, 4, 5, 6, 0] rfl)
      · have h := h.2 c11
        refine lv_aload_n S.1 S.2.1 dX6_hands_46 rfl (lv_at hl 1 rfl) ?_
        refine lv_iload S.1 S.2.1 dX6_hands_47 (lv_at hl 0 rfl) ?_
        refine r_goI (r_runV (rest := []) S hW (mX6_deny l D T σ M10 r9 _ h) w75 rfl LH_0 rfl hl.1 rfl (Nat.le_of_ble_eq_true rfl) dX6_hands_49 ⟨Nat.zero_le _, Nat.zero_le _⟩) hW (fun r12 M13 H locs h hW => ?_)
        exact r_iret S hr hlk hW h dX6_hands_52
    · have h := h.2 c8
      refine lv_aload_n S.1 S.2.1 dX6_hands_22 rfl (lv_at hl 0 rfl) ?_
      refine lv_iconst (v := 1) S.1 S.2.1 dX6_hands_23 rfl ?_
      refine r_goI (r_runV (rest := []) S hW (mX6_deny l D T σ M7 (1 : Int32) _ h) w75 rfl LH_0 rfl hl.1 rfl (Nat.le_of_ble_eq_true rfl) dX6_hands_24 ⟨Nat.zero_le _, Nat.zero_le _⟩) hW (fun r14 M15 H locs h hW => ?_)
      exact r_iret S hr hlk hW h dX6_hands_27
abbrev rmX6_wanted : Room := { frames := 2, cells := 0, slots := 0, locals := 47 }
set_option maxHeartbeats 4000000 in
set_option maxRecDepth 100000 in
theorem mX6_wanted (l : Launch) (D : va_G) (T : Nat → ClassId) (σ : Nat → Nat) (M : Mem) (a1 : Int32) (post : Int32 → Mem → Prop) (h : qX6_wanted a1 M post) : Met l yX6_wanted wsX6_wanted rmX6_wanted (preW D T LH σ [.ref (σ 0), .int a1] M) (postI D T LH σ post) 0 0 (fA LH σ) := by
  refine m_of (cc := cX6_wanted) (maxL := 3) (ret := (some .boolean)) (own := RX6) (by decide) rfl rfl (Nat.le_of_ble_eq_true rfl) ?_
  intro p e s m args below meth c H ls locs S hr hlk hl hW
  have hl : lv_has ls 3 [(0, .ref (σ 0)), (1, .int a1)] := hl
  have w48 := va_cwS (R := rmX6_wanted) (rm := rmX4_isNumber) (mc := 0) (ms := 0) 1 S.2.2.2.2 gX6_wanted_X4_isNumber rfl rfl rfl (by decide +kernel) ⟨Nat.le_of_ble_eq_true rfl, Nat.le_of_ble_eq_true rfl⟩
  have inX6 : ∀ w ∈ u_ws RX6 TX6 6, w ∈ wsX6_wanted := by decide +kernel
  have f10 := S.2.2.2.2 (.fieldLink RX6 10 "MachineHall" "sheets" "LMachineHall$Sheets;") (by decide +kernel)
  have w194 := cwV (R := rmX6_wanted) (rm := rmX4_whyNotFirst) (mc := 0) (ms := 0) 3 S.2.2.2.2 gX6_wanted_X4_whyNotFirst rfl rfl rfl (by decide +kernel) ⟨Nat.le_of_ble_eq_true rfl, Nat.le_of_ble_eq_true rfl⟩
  have f40 := S.2.2.2.2 (.fieldLink RX6 40 "MachineHall" "market" "LMachineHall$Market;") (by decide +kernel)
  have w207 := cwV (R := rmX6_wanted) (rm := rmX2_want) (mc := 0) (ms := 0) 2 S.2.2.2.2 gX6_wanted_X2_want rfl rfl rfl (by decide +kernel) ⟨Nat.le_of_ble_eq_true rfl, Nat.le_of_ble_eq_true rfl⟩
  have w63 := cwV (R := rmX6_wanted) (rm := rmX6_agree) (mc := 0) (ms := 0) 0 S.2.2.2.2 gX6_wanted_X6_agree rfl rfl rfl (by decide +kernel) ⟨Nat.le_of_ble_eq_true rfl, Nat.le_of_ble_eq_true rfl⟩
  have w56 := cwV (R := rmX6_wanted) (rm := rmX6_refuse) (mc := 0) (ms := 0) 1 S.2.2.2.2 gX6_wanted_X6_refuse rfl rfl rfl (by decide +kernel) ⟨Nat.le_of_ble_eq_true rfl, Nat.le_of_ble_eq_true rfl⟩
  refine lv_iload_n S.1 S.2.1 dX6_wanted_0 rfl (lv_at hl 1 rfl) ?_
  refine r_goI (r_runS (rest := []) S hW (mX4_isNumber l D T σ M a1 _ h) w48 rfl hl.1 rfl (Nat.le_of_ble_eq_true rfl) dX6_wanted_1 ⟨Nat.zero_le _, Nat.zero_le _⟩) hW (fun r1 M2 H locs h hW => ?_)
  refine lv_if_ne (tgt := 13) S.1 S.2.1 dX6_wanted_4 (by decide) (fun c3 => ?_) (fun c3 => ?_)
  · have h := h.1 c3
    refine lv_aload_n S.1 S.2.1 dX6_wanted_13 rfl (lv_at hl 0 rfl) ?_
    refine r_getR (j := 0) S hW inX6 rfl f10 rfl LH_0 (by decide) rfl dX6_wanted_14 ?_
    refine lv_iload_n S.1 S.2.1 dX6_wanted_17 rfl (lv_at hl 1 rfl) ?_
    refine lv_bipush (v := 12) S.1 S.2.1 dX6_wanted_18 rfl ?_
    refine lv_sipush (v := 500) S.1 S.2.1 dX6_wanted_20 rfl ?_
    refine r_goI (r_runV (rest := []) S hW (mX4_whyNotFirst l D T σ M2 a1 (12 : Int32) (500 : Int32) _ h) w194 rfl LH_1 rfl hl.1 rfl (Nat.le_of_ble_eq_true rfl) dX6_wanted_23 ⟨Nat.zero_le _, Nat.zero_le _⟩) hW (fun r4 M5 H locs h hW => ?_)
    refine lv_istore_n (lv' := [(2, .int r4), (0, .ref (σ 0)), (1, .int a1)]) S.1 S.2.1 dX6_wanted_26 rfl hl (by decide) rfl (fun ls hl => ?_)
    refine lv_iload_n S.1 S.2.1 dX6_wanted_27 rfl (lv_at hl 0 rfl) ?_
    refine lv_if_eq (tgt := 37) S.1 S.2.1 dX6_wanted_28 (by decide) (fun c6 => ?_) (fun c6 => ?_)
    · have h := h.1 c6
      refine lv_aload_n S.1 S.2.1 dX6_wanted_37 rfl (lv_at hl 1 rfl) ?_
      refine r_getR (j := 4) S hW inX6 rfl f40 rfl LH_0 (by decide) rfl dX6_wanted_38 ?_
      refine lv_aload_n S.1 S.2.1 dX6_wanted_41 rfl (lv_at hl 1 rfl) ?_
      refine r_getR (j := 0) S hW inX6 rfl f10 rfl LH_0 (by decide) rfl dX6_wanted_42 ?_
      refine lv_iload_n S.1 S.2.1 dX6_wanted_45 rfl (lv_at hl 2 rfl) ?_
      refine r_goV (r_runV (rest := []) S hW (mX2_want l D T σ M5 a1 _ h) w207 rfl LH_75 rfl hl.1 rfl (Nat.le_of_ble_eq_true rfl) dX6_wanted_46 ⟨Nat.zero_le _, Nat.zero_le _⟩) hW (fun M8 H locs h hW => ?_)
      refine lv_aload_n S.1 S.2.1 dX6_wanted_49 rfl (lv_at hl 1 rfl) ?_
      refine r_goI (r_runV (rest := []) S hW (mX6_agree l D T σ M8 _ h) w63 rfl LH_0 rfl hl.1 rfl (Nat.le_of_ble_eq_true rfl) dX6_wanted_50 ⟨Nat.zero_le _, Nat.zero_le _⟩) hW (fun r9 M10 H locs h hW => ?_)
      exact r_zret S hr hlk hW h.1 h.2 dX6_wanted_53
    · have h := h.2 c6
      refine lv_aload_n S.1 S.2.1 dX6_wanted_31 rfl (lv_at hl 1 rfl) ?_
      refine lv_iload_n S.1 S.2.1 dX6_wanted_32 rfl (lv_at hl 0 rfl) ?_
      refine r_goI (r_runV (rest := []) S hW (mX6_refuse l D T σ M5 r4 _ h) w56 rfl LH_0 rfl hl.1 rfl (Nat.le_of_ble_eq_true rfl) dX6_wanted_33 ⟨Nat.zero_le _, Nat.zero_le _⟩) hW (fun r11 M12 H locs h hW => ?_)
      exact r_zret S hr hlk hW h.1 h.2 dX6_wanted_36
  · have h := h.2 c3
    refine lv_aload_n S.1 S.2.1 dX6_wanted_7 rfl (lv_at hl 0 rfl) ?_
    refine lv_iconst (v := 1) S.1 S.2.1 dX6_wanted_8 rfl ?_
    refine r_goI (r_runV (rest := []) S hW (mX6_refuse l D T σ M2 (1 : Int32) _ h) w56 rfl LH_0 rfl hl.1 rfl (Nat.le_of_ble_eq_true rfl) dX6_wanted_9 ⟨Nat.zero_le _, Nat.zero_le _⟩) hW (fun r13 M14 H locs h hW => ?_)
    exact r_zret S hr hlk hW h.1 h.2 dX6_wanted_12
abbrev rmX6_have : Room := { frames := 1, cells := 0, slots := 0, locals := 23 }
set_option maxHeartbeats 4000000 in
set_option maxRecDepth 100000 in
theorem mX6_have (l : Launch) (D : va_G) (T : Nat → ClassId) (σ : Nat → Nat) (M : Mem) (a1 : Int32) (post : Int32 → Mem → Prop) (h : qX6_have a1 M post) : Met l yX6_have wsX6_have rmX6_have (preW D T LH σ [.ref (σ 0), .int a1] M) (postI D T LH σ post) 0 0 (fA LH σ) := by
  refine m_of (cc := cX6_have) (maxL := 2) (ret := (some .boolean)) (own := RX6) (by decide) rfl rfl (Nat.le_of_ble_eq_true rfl) ?_
  intro p e s m args below meth c H ls locs S hr hlk hl hW
  have hl : lv_has ls 2 [(0, .ref (σ 0)), (1, .int a1)] := hl
  have w52 := va_cwS (R := rmX6_have) (rm := rmX6_within) (mc := 0) (ms := 0) 3 S.2.2.2.2 gX6_have_X6_within rfl rfl rfl (by decide +kernel) ⟨Nat.le_of_ble_eq_true rfl, Nat.le_of_ble_eq_true rfl⟩
  have inX6 : ∀ w ∈ u_ws RX6 TX6 6, w ∈ wsX6_have := by decide +kernel
  have f40 := S.2.2.2.2 (.fieldLink RX6 40 "MachineHall" "market" "LMachineHall$Market;") (by decide +kernel)
  have w211 := cwV (R := rmX6_have) (rm := rmX2_own) (mc := 0) (ms := 0) 1 S.2.2.2.2 gX6_have_X2_own rfl rfl rfl (by decide +kernel) ⟨Nat.le_of_ble_eq_true rfl, Nat.le_of_ble_eq_true rfl⟩
  have w63 := cwV (R := rmX6_have) (rm := rmX6_agree) (mc := 0) (ms := 0) 0 S.2.2.2.2 gX6_have_X6_agree rfl rfl rfl (by decide +kernel) ⟨Nat.le_of_ble_eq_true rfl, Nat.le_of_ble_eq_true rfl⟩
  have w56 := cwV (R := rmX6_have) (rm := rmX6_refuse) (mc := 0) (ms := 0) 1 S.2.2.2.2 gX6_have_X6_refuse rfl rfl rfl (by decide +kernel) ⟨Nat.le_of_ble_eq_true rfl, Nat.le_of_ble_eq_true rfl⟩
  refine lv_iload_n S.1 S.2.1 dX6_have_0 rfl (lv_at hl 1 rfl) ?_
  refine lv_i2l S.1 S.2.1 dX6_have_1 rfl ?_
  refine lv_iconst (v := 0) S.1 S.2.1 dX6_have_2 rfl ?_
  refine lv_sipush (v := 500) S.1 S.2.1 dX6_have_3 rfl ?_
  refine r_goI (r_runS (rest := []) S hW (mX6_within l D T LH σ M (a1.toInt64) (0 : Int32) (500 : Int32) _ h) w52 rfl hl.1 rfl (Nat.le_of_ble_eq_true rfl) dX6_have_6 ⟨Nat.zero_le _, Nat.zero_le _⟩) hW (fun r1 M2 H locs h hW => ?_)
  refine lv_if_ne (tgt := 18) S.1 S.2.1 dX6_have_9 (by decide) (fun c3 => ?_) (fun c3 => ?_)
  · have h := h.1 c3
    refine lv_aload_n S.1 S.2.1 dX6_have_18 rfl (lv_at hl 0 rfl) ?_
    refine r_getR (j := 4) S hW inX6 rfl f40 rfl LH_0 (by decide) rfl dX6_have_19 ?_
    refine lv_iload_n S.1 S.2.1 dX6_have_22 rfl (lv_at hl 1 rfl) ?_
    refine r_goV (r_runV (rest := []) S hW (mX2_own l D T σ M2 a1 _ h) w211 rfl LH_75 rfl hl.1 rfl (Nat.le_of_ble_eq_true rfl) dX6_have_23 ⟨Nat.zero_le _, Nat.zero_le _⟩) hW (fun M5 H locs h hW => ?_)
    refine lv_aload_n S.1 S.2.1 dX6_have_26 rfl (lv_at hl 0 rfl) ?_
    refine r_goI (r_runV (rest := []) S hW (mX6_agree l D T σ M5 _ h) w63 rfl LH_0 rfl hl.1 rfl (Nat.le_of_ble_eq_true rfl) dX6_have_27 ⟨Nat.zero_le _, Nat.zero_le _⟩) hW (fun r6 M7 H locs h hW => ?_)
    exact r_zret S hr hlk hW h.1 h.2 dX6_have_30
  · have h := h.2 c3
    refine lv_aload_n S.1 S.2.1 dX6_have_12 rfl (lv_at hl 0 rfl) ?_
    refine lv_iconst (v := 1) S.1 S.2.1 dX6_have_13 rfl ?_
    refine r_goI (r_runV (rest := []) S hW (mX6_refuse l D T σ M2 (1 : Int32) _ h) w56 rfl LH_0 rfl hl.1 rfl (Nat.le_of_ble_eq_true rfl) dX6_have_14 ⟨Nat.zero_le _, Nat.zero_le _⟩) hW (fun r8 M9 H locs h hW => ?_)
    exact r_zret S hr hlk hW h.1 h.2 dX6_have_17
abbrev rmX6_isMonth : Room := { frames := 1, cells := 0, slots := 0, locals := 23 }
set_option maxHeartbeats 4000000 in
set_option maxRecDepth 100000 in
theorem mX6_isMonth (l : Launch) (D : va_G) (T : Nat → ClassId) (σ : Nat → Nat) (M : Mem) (a0 : Int32) (post : Int32 → Mem → Prop) (h : qX6_isMonth a0 M post) : Met l yX6_isMonth wsX6_isMonth rmX6_isMonth (preW D T LH σ [.int a0] M) (postI D T LH σ post) 0 0 (fA LH σ) := by
  refine m_of (cc := cX6_isMonth) (maxL := 1) (ret := (some .boolean)) (own := RX6) (by decide) rfl rfl (Nat.le_of_ble_eq_true rfl) ?_
  intro p e s m args below meth c H ls locs S hr hlk hl hW
  have hl : lv_has ls 1 [(0, .int a0)] := hl
  have w52 := va_cwS (R := rmX6_isMonth) (rm := rmX6_within) (mc := 0) (ms := 0) 3 S.2.2.2.2 gX6_isMonth_X6_within rfl rfl rfl (by decide +kernel) ⟨Nat.le_of_ble_eq_true rfl, Nat.le_of_ble_eq_true rfl⟩
  refine lv_iload_n S.1 S.2.1 dX6_isMonth_0 rfl (lv_at hl 0 rfl) ?_
  refine lv_i2l S.1 S.2.1 dX6_isMonth_1 rfl ?_
  refine lv_iconst (v := 0) S.1 S.2.1 dX6_isMonth_2 rfl ?_
  refine lv_bipush (v := 11) S.1 S.2.1 dX6_isMonth_3 rfl ?_
  refine r_goI (r_runS (rest := []) S hW (mX6_within l D T LH σ M (a0.toInt64) (0 : Int32) (11 : Int32) _ h) w52 rfl hl.1 rfl (Nat.le_of_ble_eq_true rfl) dX6_isMonth_5 ⟨Nat.zero_le _, Nat.zero_le _⟩) hW (fun r1 M2 H locs h hW => ?_)
  exact r_zret S hr hlk hW h.1 h.2 dX6_isMonth_8
abbrev rmX6_type : Room := { frames := 2, cells := 0, slots := 0, locals := 49 }
set_option maxHeartbeats 4000000 in
set_option maxRecDepth 100000 in
theorem mX6_type (l : Launch) (D : va_G) (T : Nat → ClassId) (σ : Nat → Nat) (M : Mem) (a1 : Int32) (a2 : Int32) (a3 : Int32) (a4 : Int32) (post : Int32 → Mem → Prop) (h : qX6_type a1 a2 a3 a4 M post) : Met l yX6_type wsX6_type rmX6_type (preW D T LH σ [.ref (σ 0), .int a1, .int a2, .int a3, .int a4] M) (postI D T LH σ post) 0 0 (fA LH σ) := by
  refine m_of (cc := cX6_type) (maxL := 6) (ret := (some .int)) (own := RX6) (by decide) rfl rfl (Nat.le_of_ble_eq_true rfl) ?_
  intro p e s m args below meth c H ls locs S hr hlk hl hW
  have hl : lv_has ls 6 [(0, .ref (σ 0)), (1, .int a1), (2, .int a2), (3, .int a3), (4, .int a4)] := hl
  have w52 := va_cwS (R := rmX6_type) (rm := rmX6_within) (mc := 0) (ms := 0) 3 S.2.2.2.2 gX6_type_X6_within rfl rfl rfl (by decide +kernel) ⟨Nat.le_of_ble_eq_true rfl, Nat.le_of_ble_eq_true rfl⟩
  have w75 := cwV (R := rmX6_type) (rm := rmX6_deny) (mc := 0) (ms := 0) 1 S.2.2.2.2 gX6_type_X6_deny rfl rfl rfl (by decide +kernel) ⟨Nat.le_of_ble_eq_true rfl, Nat.le_of_ble_eq_true rfl⟩
  have w214 := va_cwS (R := rmX6_type) (rm := rmX6_isMonth) (mc := 0) (ms := 0) 1 S.2.2.2.2 gX6_type_X6_isMonth rfl rfl rfl (by decide +kernel) ⟨Nat.le_of_ble_eq_true rfl, Nat.le_of_ble_eq_true rfl⟩
  have w48 := va_cwS (R := rmX6_type) (rm := rmX4_isNumber) (mc := 0) (ms := 0) 1 S.2.2.2.2 gX6_type_X4_isNumber rfl rfl rfl (by decide +kernel) ⟨Nat.le_of_ble_eq_true rfl, Nat.le_of_ble_eq_true rfl⟩
  have inX6 : ∀ w ∈ u_ws RX6 TX6 6, w ∈ wsX6_type := by decide +kernel
  have f10 := S.2.2.2.2 (.fieldLink RX6 10 "MachineHall" "sheets" "LMachineHall$Sheets;") (by decide +kernel)
  have k217 := S.2.2.2.2 (.constant RX6 217 (100000)) (by decide +kernel)
  have w194 := cwV (R := rmX6_type) (rm := rmX4_whyNotFirst) (mc := 0) (ms := 0) 3 S.2.2.2.2 gX6_type_X4_whyNotFirst rfl rfl rfl (by decide +kernel) ⟨Nat.le_of_ble_eq_true rfl, Nat.le_of_ble_eq_true rfl⟩
  have f40 := S.2.2.2.2 (.fieldLink RX6 40 "MachineHall" "market" "LMachineHall$Market;") (by decide +kernel)
  have inX2 : ∀ w ∈ u_ws RX2 TX2 12, w ∈ wsX6_type := by decide +kernel
  have f143 := S.2.2.2.2 (.fieldLink RX6 143 "MachineHall$Market" "types" "I") (by decide +kernel)
  have w218 := cwV (R := rmX6_type) (rm := rmX2_addType) (mc := 0) (ms := 0) 5 S.2.2.2.2 gX6_type_X2_addType rfl rfl rfl (by decide +kernel) ⟨Nat.le_of_ble_eq_true rfl, Nat.le_of_ble_eq_true rfl⟩
  have w104 := cwV (R := rmX6_type) (rm := rmX6_answer) (mc := 0) (ms := 0) 1 S.2.2.2.2 gX6_type_X6_answer rfl rfl rfl (by decide +kernel) ⟨Nat.le_of_ble_eq_true rfl, Nat.le_of_ble_eq_true rfl⟩
  refine lv_iload_n S.1 S.2.1 dX6_type_0 rfl (lv_at hl 1 rfl) ?_
  refine lv_i2l S.1 S.2.1 dX6_type_1 rfl ?_
  refine lv_iconst (v := 1) S.1 S.2.1 dX6_type_2 rfl ?_
  refine lv_bipush (v := 100) S.1 S.2.1 dX6_type_3 rfl ?_
  refine r_goI (r_runS (rest := []) S hW (mX6_within l D T LH σ M (a1.toInt64) (1 : Int32) (100 : Int32) _ h) w52 rfl hl.1 rfl (Nat.le_of_ble_eq_true rfl) dX6_type_5 ⟨Nat.zero_le _, Nat.zero_le _⟩) hW (fun r1 M2 H locs h hW => ?_)
  refine lv_if_eq (tgt := 38) S.1 S.2.1 dX6_type_8 (by decide) (fun c3 => ?_) (fun c3 => ?_)
  · have h := h.1 c3
    refine lv_aload_n S.1 S.2.1 dX6_type_38 rfl (lv_at hl 0 rfl) ?_
    refine lv_iconst (v := 1) S.1 S.2.1 dX6_type_39 rfl ?_
    refine r_goI (r_runV (rest := []) S hW (mX6_deny l D T σ M2 (1 : Int32) _ h) w75 rfl LH_0 rfl hl.1 rfl (Nat.le_of_ble_eq_true rfl) dX6_type_40 ⟨Nat.zero_le _, Nat.zero_le _⟩) hW (fun r4 M5 H locs h hW => ?_)
    exact r_iret S hr hlk hW h dX6_type_43
  · have h := h.2 c3
    refine lv_iload_n S.1 S.2.1 dX6_type_11 rfl (lv_at hl 2 rfl) ?_
    refine r_goI (r_runS (rest := []) S hW (mX6_isMonth l D T σ M2 a2 _ h) w214 rfl hl.1 rfl (Nat.le_of_ble_eq_true rfl) dX6_type_12 ⟨Nat.zero_le _, Nat.zero_le _⟩) hW (fun r6 M7 H locs h hW => ?_)
    refine lv_if_eq (tgt := 38) S.1 S.2.1 dX6_type_15 (by decide) (fun c8 => ?_) (fun c8 => ?_)
    · have h := h.1 c8
      refine lv_aload_n S.1 S.2.1 dX6_type_38 rfl (lv_at hl 0 rfl) ?_
      refine lv_iconst (v := 1) S.1 S.2.1 dX6_type_39 rfl ?_
      refine r_goI (r_runV (rest := []) S hW (mX6_deny l D T σ M7 (1 : Int32) _ h) w75 rfl LH_0 rfl hl.1 rfl (Nat.le_of_ble_eq_true rfl) dX6_type_40 ⟨Nat.zero_le _, Nat.zero_le _⟩) hW (fun r9 M10 H locs h hW => ?_)
      exact r_iret S hr hlk hW h dX6_type_43
    · have h := h.2 c8
      refine lv_iload_n S.1 S.2.1 dX6_type_18 rfl (lv_at hl 3 rfl) ?_
      refine r_goI (r_runS (rest := []) S hW (mX4_isNumber l D T σ M7 a3 _ h) w48 rfl hl.1 rfl (Nat.le_of_ble_eq_true rfl) dX6_type_19 ⟨Nat.zero_le _, Nat.zero_le _⟩) hW (fun r11 M12 H locs h hW => ?_)
      refine lv_if_eq (tgt := 38) S.1 S.2.1 dX6_type_22 (by decide) (fun c13 => ?_) (fun c13 => ?_)
      · have h := h.1 c13
        refine lv_aload_n S.1 S.2.1 dX6_type_38 rfl (lv_at hl 0 rfl) ?_
        refine lv_iconst (v := 1) S.1 S.2.1 dX6_type_39 rfl ?_
        refine r_goI (r_runV (rest := []) S hW (mX6_deny l D T σ M12 (1 : Int32) _ h) w75 rfl LH_0 rfl hl.1 rfl (Nat.le_of_ble_eq_true rfl) dX6_type_40 ⟨Nat.zero_le _, Nat.zero_le _⟩) hW (fun r14 M15 H locs h hW => ?_)
        exact r_iret S hr hlk hW h dX6_type_43
      · have h := h.2 c13
        refine lv_iload S.1 S.2.1 dX6_type_25 (lv_at hl 4 rfl) ?_
        refine lv_i2l S.1 S.2.1 dX6_type_27 rfl ?_
        refine lv_iconst (v := 0) S.1 S.2.1 dX6_type_28 rfl ?_
        refine lv_sipush (v := 1000) S.1 S.2.1 dX6_type_29 rfl ?_
        refine r_goI (r_runS (rest := []) S hW (mX6_within l D T LH σ M12 (a4.toInt64) (0 : Int32) (1000 : Int32) _ h) w52 rfl hl.1 rfl (Nat.le_of_ble_eq_true rfl) dX6_type_32 ⟨Nat.zero_le _, Nat.zero_le _⟩) hW (fun r16 M17 H locs h hW => ?_)
        refine lv_if_ne (tgt := 44) S.1 S.2.1 dX6_type_35 (by decide) (fun c18 => ?_) (fun c18 => ?_)
        · have h := h.1 c18
          refine lv_aload_n S.1 S.2.1 dX6_type_44 rfl (lv_at hl 0 rfl) ?_
          refine r_getR (j := 0) S hW inX6 rfl f10 rfl LH_0 (by decide) rfl dX6_type_45 ?_
          refine lv_iload_n S.1 S.2.1 dX6_type_48 rfl (lv_at hl 3 rfl) ?_
          refine lv_bipush (v := 12) S.1 S.2.1 dX6_type_49 rfl ?_
          refine lv_ldc S.1 S.2.1 S.2.2.2.1 k217 dX6_type_51 ?_
          refine r_goI (r_runV (rest := []) S hW (mX4_whyNotFirst l D T σ M17 a3 (12 : Int32) (100000 : Int32) _ h) w194 rfl LH_1 rfl hl.1 rfl (Nat.le_of_ble_eq_true rfl) dX6_type_53 ⟨Nat.zero_le _, Nat.zero_le _⟩) hW (fun r19 M20 H locs h hW => ?_)
          refine lv_istore (lv' := [(5, .int r19), (0, .ref (σ 0)), (1, .int a1), (2, .int a2), (3, .int a3), (4, .int a4)]) S.1 S.2.1 dX6_type_56 hl (by decide) rfl (fun ls hl => ?_)
          refine lv_iload S.1 S.2.1 dX6_type_58 (lv_at hl 0 rfl) ?_
          refine lv_if_eq (tgt := 70) S.1 S.2.1 dX6_type_60 (by decide) (fun c21 => ?_) (fun c21 => ?_)
          · have h := h.1 c21
            refine lv_aload_n S.1 S.2.1 dX6_type_70 rfl (lv_at hl 1 rfl) ?_
            refine r_getR (j := 4) S hW inX6 rfl f40 rfl LH_0 (by decide) rfl dX6_type_71 ?_
            refine r_getI (j := 0) S hW inX2 rfl f143 rfl LH_75 (by decide) rfl dX6_type_74 ?_
            refine lv_iconst (v := 4) S.1 S.2.1 dX6_type_77 rfl ?_
            refine lv_icmp_ne (tgt := 87) S.1 S.2.1 dX6_type_78 (by decide) (fun c22 => ?_) (fun c22 => ?_)
            · have h := h.1 c22
              refine lv_aload_n S.1 S.2.1 dX6_type_87 rfl (lv_at hl 1 rfl) ?_
              refine lv_aload_n S.1 S.2.1 dX6_type_88 rfl (lv_at hl 1 rfl) ?_
              refine r_getR (j := 4) S hW inX6 rfl f40 rfl LH_0 (by decide) rfl dX6_type_89 ?_
              refine lv_iload_n S.1 S.2.1 dX6_type_92 rfl (lv_at hl 2 rfl) ?_
              refine lv_iload_n S.1 S.2.1 dX6_type_93 rfl (lv_at hl 3 rfl) ?_
              refine lv_iload S.1 S.2.1 dX6_type_94 (lv_at hl 5 rfl) ?_
              refine lv_aload_n S.1 S.2.1 dX6_type_96 rfl (lv_at hl 1 rfl) ?_
              refine r_getR (j := 0) S hW inX6 rfl f10 rfl LH_0 (by decide) rfl dX6_type_97 ?_
              refine lv_iload_n S.1 S.2.1 dX6_type_100 rfl (lv_at hl 4 rfl) ?_
              refine r_goI (r_runV (rest := [.ref (σ 0)]) S hW (mX2_addType l D T σ M20 a1 a2 a4 a3 _ h) w218 rfl LH_75 rfl hl.1 rfl (Nat.le_of_ble_eq_true rfl) dX6_type_101 ⟨Nat.zero_le _, Nat.zero_le _⟩) hW (fun r23 M24 H locs h hW => ?_)
              refine r_goI (r_runV (rest := []) S hW (mX6_answer l D T σ M24 r23 _ h) w104 rfl LH_0 rfl hl.1 rfl (Nat.le_of_ble_eq_true rfl) dX6_type_104 ⟨Nat.zero_le _, Nat.zero_le _⟩) hW (fun r25 M26 H locs h hW => ?_)
              exact r_iret S hr hlk hW h dX6_type_107
            · have h := h.2 c22
              refine lv_aload_n S.1 S.2.1 dX6_type_81 rfl (lv_at hl 1 rfl) ?_
              refine lv_iconst (v := 4) S.1 S.2.1 dX6_type_82 rfl ?_
              refine r_goI (r_runV (rest := []) S hW (mX6_deny l D T σ M20 (4 : Int32) _ h) w75 rfl LH_0 rfl hl.1 rfl (Nat.le_of_ble_eq_true rfl) dX6_type_83 ⟨Nat.zero_le _, Nat.zero_le _⟩) hW (fun r27 M28 H locs h hW => ?_)
              exact r_iret S hr hlk hW h dX6_type_86
          · have h := h.2 c21
            refine lv_aload_n S.1 S.2.1 dX6_type_63 rfl (lv_at hl 1 rfl) ?_
            refine lv_iload S.1 S.2.1 dX6_type_64 (lv_at hl 0 rfl) ?_
            refine r_goI (r_runV (rest := []) S hW (mX6_deny l D T σ M20 r19 _ h) w75 rfl LH_0 rfl hl.1 rfl (Nat.le_of_ble_eq_true rfl) dX6_type_66 ⟨Nat.zero_le _, Nat.zero_le _⟩) hW (fun r29 M30 H locs h hW => ?_)
            exact r_iret S hr hlk hW h dX6_type_69
        · have h := h.2 c18
          refine lv_aload_n S.1 S.2.1 dX6_type_38 rfl (lv_at hl 0 rfl) ?_
          refine lv_iconst (v := 1) S.1 S.2.1 dX6_type_39 rfl ?_
          refine r_goI (r_runV (rest := []) S hW (mX6_deny l D T σ M17 (1 : Int32) _ h) w75 rfl LH_0 rfl hl.1 rfl (Nat.le_of_ble_eq_true rfl) dX6_type_40 ⟨Nat.zero_le _, Nat.zero_le _⟩) hW (fun r31 M32 H locs h hW => ?_)
          exact r_iret S hr hlk hW h dX6_type_43
abbrev rmX6_cheapest : Room := { frames := 4, cells := 0, slots := 0, locals := 91 }
set_option maxHeartbeats 4000000 in
set_option maxRecDepth 100000 in
theorem mX6_cheapest (l : Launch) (D : va_G) (T : Nat → ClassId) (σ : Nat → Nat) (M : Mem)  (post : Int32 → Mem → Prop) (h : qX6_cheapest M post) : Met l yX6_cheapest wsX6_cheapest rmX6_cheapest (preW D T LH σ [.ref (σ 0)] M) (postI D T LH σ post) 0 0 (fA LH σ) := by
  refine m_of (cc := cX6_cheapest) (maxL := 1) (ret := (some .int)) (own := RX6) (by decide) rfl rfl (Nat.le_of_ble_eq_true rfl) ?_
  intro p e s m args below meth c H ls locs S hr hlk hl hW
  have hl : lv_has ls 1 [(0, .ref (σ 0))] := hl
  have inX6 : ∀ w ∈ u_ws RX6 TX6 6, w ∈ wsX6_cheapest := by decide +kernel
  have f40 := S.2.2.2.2 (.fieldLink RX6 40 "MachineHall" "market" "LMachineHall$Market;") (by decide +kernel)
  have w222 := cwV (R := rmX6_cheapest) (rm := rmX2_solve) (mc := 0) (ms := 0) 0 S.2.2.2.2 gX6_cheapest_X2_solve rfl rfl rfl (by decide +kernel) ⟨Nat.le_of_ble_eq_true rfl, Nat.le_of_ble_eq_true rfl⟩
  have w225 := cwV (R := rmX6_cheapest) (rm := rmX2_isEnough) (mc := 0) (ms := 0) 0 S.2.2.2.2 gX6_cheapest_X2_isEnough rfl rfl rfl (by decide +kernel) ⟨Nat.le_of_ble_eq_true rfl, Nat.le_of_ble_eq_true rfl⟩
  have w75 := cwV (R := rmX6_cheapest) (rm := rmX6_deny) (mc := 0) (ms := 0) 1 S.2.2.2.2 gX6_cheapest_X6_deny rfl rfl rfl (by decide +kernel) ⟨Nat.le_of_ble_eq_true rfl, Nat.le_of_ble_eq_true rfl⟩
  have inX2 : ∀ w ∈ u_ws RX2 TX2 12, w ∈ wsX6_cheapest := by decide +kernel
  have f228 := S.2.2.2.2 (.fieldLink RX6 228 "MachineHall$Market" "least" "I") (by decide +kernel)
  have w104 := cwV (R := rmX6_cheapest) (rm := rmX6_answer) (mc := 0) (ms := 0) 1 S.2.2.2.2 gX6_cheapest_X6_answer rfl rfl rfl (by decide +kernel) ⟨Nat.le_of_ble_eq_true rfl, Nat.le_of_ble_eq_true rfl⟩
  refine lv_aload_n S.1 S.2.1 dX6_cheapest_0 rfl (lv_at hl 0 rfl) ?_
  refine r_getR (j := 4) S hW inX6 rfl f40 rfl LH_0 (by decide) rfl dX6_cheapest_1 ?_
  refine r_goV (r_runV (rest := []) S hW (mX2_solve l D T σ M _ h) w222 rfl LH_75 rfl hl.1 rfl (Nat.le_of_ble_eq_true rfl) dX6_cheapest_4 ⟨Nat.zero_le _, Nat.zero_le _⟩) hW (fun M2 H locs h hW => ?_)
  refine lv_aload_n S.1 S.2.1 dX6_cheapest_7 rfl (lv_at hl 0 rfl) ?_
  refine r_getR (j := 4) S hW inX6 rfl f40 rfl LH_0 (by decide) rfl dX6_cheapest_8 ?_
  refine r_goI (r_runV (rest := []) S hW (mX2_isEnough l D T σ M2 _ h) w225 rfl LH_75 rfl hl.1 rfl (Nat.le_of_ble_eq_true rfl) dX6_cheapest_11 ⟨Nat.zero_le _, Nat.zero_le _⟩) hW (fun r3 M4 H locs h hW => ?_)
  refine lv_if_eq (tgt := 31) S.1 S.2.1 dX6_cheapest_14 (by decide) (fun c5 => ?_) (fun c5 => ?_)
  · have h := h.1 c5
    refine lv_aload_n S.1 S.2.1 dX6_cheapest_31 rfl (lv_at hl 0 rfl) ?_
    refine lv_bipush (v := 7) S.1 S.2.1 dX6_cheapest_32 rfl ?_
    refine r_goI (r_runV (rest := []) S hW (mX6_deny l D T σ M4 (7 : Int32) _ h) w75 rfl LH_0 rfl hl.1 rfl (Nat.le_of_ble_eq_true rfl) dX6_cheapest_34 ⟨Nat.zero_le _, Nat.zero_le _⟩) hW (fun r6 M7 H locs h hW => ?_)
    exact r_iret S hr hlk hW h dX6_cheapest_37
  · have h := h.2 c5
    refine lv_aload_n S.1 S.2.1 dX6_cheapest_17 rfl (lv_at hl 0 rfl) ?_
    refine lv_aload_n S.1 S.2.1 dX6_cheapest_18 rfl (lv_at hl 0 rfl) ?_
    refine r_getR (j := 4) S hW inX6 rfl f40 rfl LH_0 (by decide) rfl dX6_cheapest_19 ?_
    refine r_getI (j := 1) S hW inX2 rfl f228 rfl LH_75 (by decide) rfl dX6_cheapest_22 ?_
    refine r_goI (r_runV (rest := []) S hW (mX6_answer l D T σ M4 (M4.1 75 1) _ h) w104 rfl LH_0 rfl hl.1 rfl (Nat.le_of_ble_eq_true rfl) dX6_cheapest_25 ⟨Nat.zero_le _, Nat.zero_le _⟩) hW (fun r8 M9 H locs h hW => ?_)
    refine lv_goto (tgt := 37) S.1 S.2.1 dX6_cheapest_28 (by decide) ?_
    exact r_iret S hr hlk hW h dX6_cheapest_37
abbrev rmX6_buys : Room := { frames := 4, cells := 0, slots := 0, locals := 91 }
set_option maxHeartbeats 4000000 in
set_option maxRecDepth 100000 in
theorem mX6_buys (l : Launch) (D : va_G) (T : Nat → ClassId) (σ : Nat → Nat) (M : Mem) (a1 : Int32) (a2 : Int32) (post : Int32 → Mem → Prop) (h : qX6_buys a1 a2 M post) : Met l yX6_buys wsX6_buys rmX6_buys (preW D T LH σ [.ref (σ 0), .int a1, .int a2] M) (postI D T LH σ post) 0 0 (fA LH σ) := by
  refine m_of (cc := cX6_buys) (maxL := 3) (ret := (some .int)) (own := RX6) (by decide) rfl rfl (Nat.le_of_ble_eq_true rfl) ?_
  intro p e s m args below meth c H ls locs S hr hlk hl hW
  have hl : lv_has ls 3 [(0, .ref (σ 0)), (1, .int a1), (2, .int a2)] := hl
  have w214 := va_cwS (R := rmX6_buys) (rm := rmX6_isMonth) (mc := 0) (ms := 0) 1 S.2.2.2.2 gX6_buys_X6_isMonth rfl rfl rfl (by decide +kernel) ⟨Nat.le_of_ble_eq_true rfl, Nat.le_of_ble_eq_true rfl⟩
  have w75 := cwV (R := rmX6_buys) (rm := rmX6_deny) (mc := 0) (ms := 0) 1 S.2.2.2.2 gX6_buys_X6_deny rfl rfl rfl (by decide +kernel) ⟨Nat.le_of_ble_eq_true rfl, Nat.le_of_ble_eq_true rfl⟩
  have inX6 : ∀ w ∈ u_ws RX6 TX6 6, w ∈ wsX6_buys := by decide +kernel
  have f40 := S.2.2.2.2 (.fieldLink RX6 40 "MachineHall" "market" "LMachineHall$Market;") (by decide +kernel)
  have w231 := cwV (R := rmX6_buys) (rm := rmX2_hasType) (mc := 0) (ms := 0) 1 S.2.2.2.2 gX6_buys_X2_hasType rfl rfl rfl (by decide +kernel) ⟨Nat.le_of_ble_eq_true rfl, Nat.le_of_ble_eq_true rfl⟩
  have w222 := cwV (R := rmX6_buys) (rm := rmX2_solve) (mc := 0) (ms := 0) 0 S.2.2.2.2 gX6_buys_X2_solve rfl rfl rfl (by decide +kernel) ⟨Nat.le_of_ble_eq_true rfl, Nat.le_of_ble_eq_true rfl⟩
  have w225 := cwV (R := rmX6_buys) (rm := rmX2_isEnough) (mc := 0) (ms := 0) 0 S.2.2.2.2 gX6_buys_X2_isEnough rfl rfl rfl (by decide +kernel) ⟨Nat.le_of_ble_eq_true rfl, Nat.le_of_ble_eq_true rfl⟩
  have inX2 : ∀ w ∈ u_ws RX2 TX2 12, w ∈ wsX6_buys := by decide +kernel
  have f234 := S.2.2.2.2 (.fieldLink RX6 234 "MachineHall$Market" "bought" "[[I") (by decide +kernel)
  have w104 := cwV (R := rmX6_buys) (rm := rmX6_answer) (mc := 0) (ms := 0) 1 S.2.2.2.2 gX6_buys_X6_answer rfl rfl rfl (by decide +kernel) ⟨Nat.le_of_ble_eq_true rfl, Nat.le_of_ble_eq_true rfl⟩
  refine lv_iload_n S.1 S.2.1 dX6_buys_0 rfl (lv_at hl 1 rfl) ?_
  refine r_goI (r_runS (rest := []) S hW (mX6_isMonth l D T σ M a1 _ h) w214 rfl hl.1 rfl (Nat.le_of_ble_eq_true rfl) dX6_buys_1 ⟨Nat.zero_le _, Nat.zero_le _⟩) hW (fun r1 M2 H locs h hW => ?_)
  refine lv_if_eq (tgt := 18) S.1 S.2.1 dX6_buys_4 (by decide) (fun c3 => ?_) (fun c3 => ?_)
  · have h := h.1 c3
    refine lv_aload_n S.1 S.2.1 dX6_buys_18 rfl (lv_at hl 0 rfl) ?_
    refine lv_iconst (v := 1) S.1 S.2.1 dX6_buys_19 rfl ?_
    refine r_goI (r_runV (rest := []) S hW (mX6_deny l D T σ M2 (1 : Int32) _ h) w75 rfl LH_0 rfl hl.1 rfl (Nat.le_of_ble_eq_true rfl) dX6_buys_20 ⟨Nat.zero_le _, Nat.zero_le _⟩) hW (fun r4 M5 H locs h hW => ?_)
    exact r_iret S hr hlk hW h dX6_buys_23
  · have h := h.2 c3
    refine lv_aload_n S.1 S.2.1 dX6_buys_7 rfl (lv_at hl 0 rfl) ?_
    refine r_getR (j := 4) S hW inX6 rfl f40 rfl LH_0 (by decide) rfl dX6_buys_8 ?_
    refine lv_iload_n S.1 S.2.1 dX6_buys_11 rfl (lv_at hl 2 rfl) ?_
    refine r_goI (r_runV (rest := []) S hW (mX2_hasType l D T σ M2 a2 _ h) w231 rfl LH_75 rfl hl.1 rfl (Nat.le_of_ble_eq_true rfl) dX6_buys_12 ⟨Nat.zero_le _, Nat.zero_le _⟩) hW (fun r6 M7 H locs h hW => ?_)
    refine lv_if_ne (tgt := 24) S.1 S.2.1 dX6_buys_15 (by decide) (fun c8 => ?_) (fun c8 => ?_)
    · have h := h.1 c8
      refine lv_aload_n S.1 S.2.1 dX6_buys_24 rfl (lv_at hl 0 rfl) ?_
      refine r_getR (j := 4) S hW inX6 rfl f40 rfl LH_0 (by decide) rfl dX6_buys_25 ?_
      refine r_goV (r_runV (rest := []) S hW (mX2_solve l D T σ M7 _ h) w222 rfl LH_75 rfl hl.1 rfl (Nat.le_of_ble_eq_true rfl) dX6_buys_28 ⟨Nat.zero_le _, Nat.zero_le _⟩) hW (fun M10 H locs h hW => ?_)
      refine lv_aload_n S.1 S.2.1 dX6_buys_31 rfl (lv_at hl 0 rfl) ?_
      refine r_getR (j := 4) S hW inX6 rfl f40 rfl LH_0 (by decide) rfl dX6_buys_32 ?_
      refine r_goI (r_runV (rest := []) S hW (mX2_isEnough l D T σ M10 _ h) w225 rfl LH_75 rfl hl.1 rfl (Nat.le_of_ble_eq_true rfl) dX6_buys_35 ⟨Nat.zero_le _, Nat.zero_le _⟩) hW (fun r11 M12 H locs h hW => ?_)
      refine lv_if_eq (tgt := 59) S.1 S.2.1 dX6_buys_38 (by decide) (fun c13 => ?_) (fun c13 => ?_)
      · have h := h.1 c13
        refine lv_aload_n S.1 S.2.1 dX6_buys_59 rfl (lv_at hl 0 rfl) ?_
        refine lv_bipush (v := 7) S.1 S.2.1 dX6_buys_60 rfl ?_
        refine r_goI (r_runV (rest := []) S hW (mX6_deny l D T σ M12 (7 : Int32) _ h) w75 rfl LH_0 rfl hl.1 rfl (Nat.le_of_ble_eq_true rfl) dX6_buys_62 ⟨Nat.zero_le _, Nat.zero_le _⟩) hW (fun r14 M15 H locs h hW => ?_)
        exact r_iret S hr hlk hW h dX6_buys_65
      · have h := h.2 c13
        refine lv_aload_n S.1 S.2.1 dX6_buys_41 rfl (lv_at hl 0 rfl) ?_
        refine lv_aload_n S.1 S.2.1 dX6_buys_42 rfl (lv_at hl 0 rfl) ?_
        refine r_getR (j := 4) S hW inX6 rfl f40 rfl LH_0 (by decide) rfl dX6_buys_43 ?_
        refine r_getR (j := 2) S hW inX2 rfl f234 rfl LH_75 (by decide) rfl dX6_buys_46 ?_
        refine lv_iload_n S.1 S.2.1 dX6_buys_49 rfl (lv_at hl 1 rfl) ?_
        have b16 := h.1
        have h := h.2
        refine r_aald (t := 0) S hW LH_76 (by decide) b16 dX6_buys_50 ?_
        refine lv_iload_n S.1 S.2.1 dX6_buys_51 rfl (lv_at hl 2 rfl) ?_
        have b17 := h.1
        have h := h.2
        refine r_iald S hW (LHr_76 (vp_lt b16)) b17 dX6_buys_52 ?_
        refine r_goI (r_runV (rest := []) S hW (mX6_answer l D T σ M12 (M12.1 (77 + a1.toNatClampNeg) a2.toNatClampNeg) _ h) w104 rfl LH_0 rfl hl.1 rfl (Nat.le_of_ble_eq_true rfl) dX6_buys_53 ⟨Nat.zero_le _, Nat.zero_le _⟩) hW (fun r18 M19 H locs h hW => ?_)
        refine lv_goto (tgt := 65) S.1 S.2.1 dX6_buys_56 (by decide) ?_
        exact r_iret S hr hlk hW h dX6_buys_65
    · have h := h.2 c8
      refine lv_aload_n S.1 S.2.1 dX6_buys_18 rfl (lv_at hl 0 rfl) ?_
      refine lv_iconst (v := 1) S.1 S.2.1 dX6_buys_19 rfl ?_
      refine r_goI (r_runV (rest := []) S hW (mX6_deny l D T σ M7 (1 : Int32) _ h) w75 rfl LH_0 rfl hl.1 rfl (Nat.le_of_ble_eq_true rfl) dX6_buys_20 ⟨Nat.zero_le _, Nat.zero_le _⟩) hW (fun r20 M21 H locs h hW => ?_)
      exact r_iret S hr hlk hW h dX6_buys_23

abbrev rmX7_status : Room := { frames := 0, cells := 0, slots := 0, locals := 0 }
set_option maxHeartbeats 4000000 in
set_option maxRecDepth 100000 in
theorem mX7_status (l : Launch) (D : va_G) (T : Nat → ClassId) (σ : Nat → Nat) (M : Mem)  (post : Int32 → Mem → Prop) (h : qX7_status M post) : Met l yX7_status wsX7_status rmX7_status (preW D T LM σ [.ref (σ 0)] M) (postI D T LM σ post) 0 0 (fA LM σ) := by
  refine m_of (cc := cX7_status) (maxL := 1) (ret := (some .int)) (own := RX7) (by decide) rfl rfl (Nat.le_of_ble_eq_true rfl) ?_
  intro p e s m args below meth c H ls locs S hr hlk hl hW
  have hl : lv_has ls 1 [(0, .ref (σ 0))] := hl
  have inX7 : ∀ w ∈ u_ws RX7 TX7 42, w ∈ wsX7_status := by decide +kernel
  have f105 := S.2.2.2.2 (.fieldLink RX7 105 "MachineHallModel" "status" "I") (by decide +kernel)
  refine lv_aload_n S.1 S.2.1 dX7_status_0 rfl (lv_at hl 0 rfl) ?_
  refine r_getI (j := 0) S hW inX7 rfl f105 rfl LM_0 (by decide) rfl dX7_status_1 ?_
  exact r_iret S hr hlk hW h dX7_status_4
abbrev rmX7_is : Room := { frames := 0, cells := 0, slots := 0, locals := 0 }
set_option maxHeartbeats 4000000 in
set_option maxRecDepth 100000 in
theorem mX7_is (l : Launch) (D : va_G) (T : Nat → ClassId) (σ : Nat → Nat) (M : Mem) (a1 : Int32) (post : Int32 → Mem → Prop) (h : qX7_is a1 M post) : Met l yX7_is wsX7_is rmX7_is (preW D T LM σ [.ref (σ 0), .int a1] M) (postI D T LM σ post) 0 0 (fA LM σ) := by
  refine m_of (cc := cX7_is) (maxL := 2) (ret := (some .boolean)) (own := RX7) (by decide) rfl rfl (Nat.le_of_ble_eq_true rfl) ?_
  intro p e s m args below meth c H ls locs S hr hlk hl hW
  have hl : lv_has ls 2 [(0, .ref (σ 0)), (1, .int a1)] := hl
  have inX7 : ∀ w ∈ u_ws RX7 TX7 42, w ∈ wsX7_is := by decide +kernel
  have f105 := S.2.2.2.2 (.fieldLink RX7 105 "MachineHallModel" "status" "I") (by decide +kernel)
  refine lv_aload_n S.1 S.2.1 dX7_is_0 rfl (lv_at hl 0 rfl) ?_
  refine lv_iload_n S.1 S.2.1 dX7_is_1 rfl (lv_at hl 1 rfl) ?_
  refine r_putI (j := 0) S hW inX7 rfl f105 rfl LM_0 (by decide) rfl tyX7 tyX7_ok nmX7 rfl rfl rfl dX7_is_2 (fun M1 H locs eM1 hW => ?_)
  have h := h M1 eM1
  refine lv_iload_n S.1 S.2.1 dX7_is_5 rfl (lv_at hl 1 rfl) ?_
  refine lv_if_ne (tgt := 13) S.1 S.2.1 dX7_is_6 (by decide) (fun c2 => ?_) (fun c2 => ?_)
  · have h := h.1 c2
    refine lv_iconst (v := 0) S.1 S.2.1 dX7_is_13 rfl ?_
    exact r_zret S hr hlk hW rfl h dX7_is_14
  · have h := h.2 c2
    refine lv_iconst (v := 1) S.1 S.2.1 dX7_is_9 rfl ?_
    refine lv_goto (tgt := 14) S.1 S.2.1 dX7_is_10 (by decide) ?_
    exact r_zret S hr hlk hW rfl h dX7_is_14
abbrev rmX7_refuse : Room := { frames := 0, cells := 0, slots := 0, locals := 0 }
set_option maxHeartbeats 4000000 in
set_option maxRecDepth 100000 in
theorem mX7_refuse (l : Launch) (D : va_G) (T : Nat → ClassId) (σ : Nat → Nat) (M : Mem) (a1 : Int32) (post : Int32 → Mem → Prop) (h : qX7_refuse a1 M post) : Met l yX7_refuse wsX7_refuse rmX7_refuse (preW D T LM σ [.ref (σ 0), .int a1] M) (postI D T LM σ post) 0 0 (fA LM σ) := by
  refine m_of (cc := cX7_refuse) (maxL := 2) (ret := (some .int)) (own := RX7) (by decide) rfl rfl (Nat.le_of_ble_eq_true rfl) ?_
  intro p e s m args below meth c H ls locs S hr hlk hl hW
  have hl : lv_has ls 2 [(0, .ref (σ 0)), (1, .int a1)] := hl
  have inX7 : ∀ w ∈ u_ws RX7 TX7 42, w ∈ wsX7_refuse := by decide +kernel
  have f105 := S.2.2.2.2 (.fieldLink RX7 105 "MachineHallModel" "status" "I") (by decide +kernel)
  refine lv_aload_n S.1 S.2.1 dX7_refuse_0 rfl (lv_at hl 0 rfl) ?_
  refine lv_iload_n S.1 S.2.1 dX7_refuse_1 rfl (lv_at hl 1 rfl) ?_
  refine r_putI (j := 0) S hW inX7 rfl f105 rfl LM_0 (by decide) rfl tyX7 tyX7_ok nmX7 rfl rfl rfl dX7_refuse_2 (fun M1 H locs eM1 hW => ?_)
  have h := h M1 eM1
  refine lv_iconst (v := -1) S.1 S.2.1 dX7_refuse_5 rfl ?_
  exact r_iret S hr hlk hW h dX7_refuse_6
abbrev rmX7_isSheet : Room := { frames := 0, cells := 0, slots := 0, locals := 0 }
set_option maxHeartbeats 4000000 in
set_option maxRecDepth 100000 in
theorem mX7_isSheet (l : Launch) (D : va_G) (T : Nat → ClassId) (σ : Nat → Nat) (M : Mem) (a0 : Int32) (post : Int32 → Mem → Prop) (h : qX7_isSheet a0 M post) : Met l yX7_isSheet wsX7_isSheet rmX7_isSheet (preW D T LM σ [.int a0] M) (postI D T LM σ post) 0 0 (fA LM σ) := by
  refine m_of (cc := cX7_isSheet) (maxL := 1) (ret := (some .boolean)) (own := RX7) (by decide) rfl rfl (Nat.le_of_ble_eq_true rfl) ?_
  intro p e s m args below meth c H ls locs S hr hlk hl hW
  have hl : lv_has ls 1 [(0, .int a0)] := hl
  refine lv_iload_n S.1 S.2.1 dX7_isSheet_0 rfl (lv_at hl 0 rfl) ?_
  refine lv_if_lt (tgt := 14) S.1 S.2.1 dX7_isSheet_1 (by decide) (fun c1 => ?_) (fun c1 => ?_)
  · have h := h.1 c1
    refine lv_iconst (v := 0) S.1 S.2.1 dX7_isSheet_14 rfl ?_
    exact r_zret S hr hlk hW rfl h dX7_isSheet_15
  · have h := h.2 c1
    refine lv_iload_n S.1 S.2.1 dX7_isSheet_4 rfl (lv_at hl 0 rfl) ?_
    refine lv_bipush (v := 6) S.1 S.2.1 dX7_isSheet_5 rfl ?_
    refine lv_icmp_ge (tgt := 14) S.1 S.2.1 dX7_isSheet_7 (by decide) (fun c2 => ?_) (fun c2 => ?_)
    · have h := h.1 c2
      refine lv_iconst (v := 0) S.1 S.2.1 dX7_isSheet_14 rfl ?_
      exact r_zret S hr hlk hW rfl h dX7_isSheet_15
    · have h := h.2 c2
      refine lv_iconst (v := 1) S.1 S.2.1 dX7_isSheet_10 rfl ?_
      refine lv_goto (tgt := 15) S.1 S.2.1 dX7_isSheet_11 (by decide) ?_
      exact r_zret S hr hlk hW rfl h dX7_isSheet_15
abbrev rmX7_cut : Room := { frames := 0, cells := 0, slots := 0, locals := 0 }
set_option maxHeartbeats 4000000 in
set_option maxRecDepth 100000 in
theorem mX7_cut (l : Launch) (D : va_G) (T : Nat → ClassId) (σ : Nat → Nat) (M : Mem) (a0 : Int64) (a2 : Int32) (post : Int64 → Mem → Prop) (h : qX7_cut a0 a2 M post) : Met l yX7_cut wsX7_cut rmX7_cut (preW D T LM σ [.long a0, .int a2] M) (postL D T LM σ post) 0 0 (fA LM σ) := by
  refine m_of (cc := cX7_cut) (maxL := 3) (ret := (some .long)) (own := RX7) (by decide) rfl rfl (Nat.le_of_ble_eq_true rfl) ?_
  intro p e s m args below meth c H ls locs S hr hlk hl hW
  have hl : lv_has ls 3 [(0, .long a0), (2, .int a2)] := hl
  refine lv_iload_n S.1 S.2.1 dX7_cut_0 rfl (lv_at hl 1 rfl) ?_
  refine lv_if_ne (tgt := 11) S.1 S.2.1 dX7_cut_1 (by decide) (fun c1 => ?_) (fun c1 => ?_)
  · have h := h.1 c1
    refine lv_iload_n S.1 S.2.1 dX7_cut_11 rfl (lv_at hl 1 rfl) ?_
    refine lv_iconst (v := 1) S.1 S.2.1 dX7_cut_12 rfl ?_
    refine lv_icmp_ne (tgt := 23) S.1 S.2.1 dX7_cut_13 (by decide) (fun c2 => ?_) (fun c2 => ?_)
    · have h := h.1 c2
      refine lv_iload_n S.1 S.2.1 dX7_cut_23 rfl (lv_at hl 1 rfl) ?_
      refine lv_iconst (v := 2) S.1 S.2.1 dX7_cut_24 rfl ?_
      refine lv_icmp_ne (tgt := 34) S.1 S.2.1 dX7_cut_25 (by decide) (fun c3 => ?_) (fun c3 => ?_)
      · have h := h.1 c3
        refine lv_lload_n S.1 S.2.1 dX7_cut_34 rfl (lv_at hl 0 rfl) ?_
        exact r_lret S hr hlk hW h dX7_cut_35
      · have h := h.2 c3
        refine lv_lload_n S.1 S.2.1 dX7_cut_28 rfl (lv_at hl 0 rfl) ?_
        refine lv_l2i S.1 S.2.1 dX7_cut_29 rfl ?_
        refine lv_i2l S.1 S.2.1 dX7_cut_30 rfl ?_
        refine lv_goto (tgt := 35) S.1 S.2.1 dX7_cut_31 (by decide) ?_
        exact r_lret S hr hlk hW h dX7_cut_35
    · have h := h.2 c2
      refine lv_lload_n S.1 S.2.1 dX7_cut_16 rfl (lv_at hl 0 rfl) ?_
      refine lv_l2i S.1 S.2.1 dX7_cut_17 rfl ?_
      refine lv_i2s S.1 S.2.1 dX7_cut_18 rfl ?_
      refine lv_i2l S.1 S.2.1 dX7_cut_19 rfl ?_
      refine lv_goto (tgt := 35) S.1 S.2.1 dX7_cut_20 (by decide) ?_
      exact r_lret S hr hlk hW h dX7_cut_35
  · have h := h.2 c1
    refine lv_lload_n S.1 S.2.1 dX7_cut_4 rfl (lv_at hl 0 rfl) ?_
    refine lv_l2i S.1 S.2.1 dX7_cut_5 rfl ?_
    refine lv_i2b S.1 S.2.1 dX7_cut_6 rfl ?_
    refine lv_i2l S.1 S.2.1 dX7_cut_7 rfl ?_
    refine lv_goto (tgt := 35) S.1 S.2.1 dX7_cut_8 (by decide) ?_
    exact r_lret S hr hlk hW h dX7_cut_35
abbrev rmX7_sheet : Room := { frames := 1, cells := 0, slots := 0, locals := 21 }
set_option maxHeartbeats 4000000 in
set_option maxRecDepth 100000 in
theorem mX7_sheet (l : Launch) (D : va_G) (T : Nat → ClassId) (σ : Nat → Nat) (M : Mem) (a1 : Int32) (a2 : Int32) (a3 : Int32) (post : Int32 → Mem → Prop) (h : qX7_sheet a1 a2 a3 M post) : Met l yX7_sheet wsX7_sheet rmX7_sheet (preW D T LM σ [.ref (σ 0), .int a1, .int a2, .int a3] M) (postI D T LM σ post) 0 0 (fA LM σ) := by
  refine m_of (cc := cX7_sheet) (maxL := 5) (ret := (some .boolean)) (own := RX7) (by decide) rfl rfl (Nat.le_of_ble_eq_true rfl) ?_
  intro p e s m args below meth c H ls locs S hr hlk hl hW
  have hl : lv_has ls 5 [(0, .ref (σ 0)), (1, .int a1), (2, .int a2), (3, .int a3)] := hl
  have w109 := va_cwS (R := rmX7_sheet) (rm := rmX7_isSheet) (mc := 0) (ms := 0) 1 S.2.2.2.2 gX7_sheet_X7_isSheet rfl rfl rfl (by decide +kernel) ⟨Nat.le_of_ble_eq_true rfl, Nat.le_of_ble_eq_true rfl⟩
  have inX7 : ∀ w ∈ u_ws RX7 TX7 42, w ∈ wsX7_sheet := by decide +kernel
  have f7 := S.2.2.2.2 (.fieldLink RX7 7 "MachineHallModel" "sort" "[I") (by decide +kernel)
  have f13 := S.2.2.2.2 (.fieldLink RX7 13 "MachineHallModel" "many" "[I") (by decide +kernel)
  have w113 := cwV (R := rmX7_sheet) (rm := rmX7_is) (mc := 0) (ms := 0) 1 S.2.2.2.2 gX7_sheet_X7_is rfl rfl rfl (by decide +kernel) ⟨Nat.le_of_ble_eq_true rfl, Nat.le_of_ble_eq_true rfl⟩
  have f16 := S.2.2.2.2 (.fieldLink RX7 16 "MachineHallModel" "sheets" "[J") (by decide +kernel)
  obtain ⟨R26, e26⟩ : ∃ R : Mem → Prop, ∀ M, R M ↔ WW p l e rmX7_sheet s m args below meth c D T LM σ 5 (MQ below (postI D T LM σ post) args s 0 0 (fA LM σ)) 26 [(0, .ref (σ 0))] [] M := ⟨_, fun _ => Iff.rfl⟩
  obtain ⟨R49, e49⟩ : ∃ R : Int32 → Mem → Prop, ∀ x4 M, R x4 M ↔ WW p l e rmX7_sheet s m args below meth c D T LM σ 5 (MQ below (postI D T LM σ post) args s 0 0 (fA LM σ)) 49 [(0, .ref (σ 0)), (1, .int a1), (3, .int a3), (4, .int x4)] [] M := ⟨_, fun _ _ => Iff.rfl⟩
  have h := h R26 R49
  have z26 : ∀ M, qX7_sheet_b26 a1 a2 a3 post R26 R49 M → R26 M := by
    intro M h
    refine (e26 _).mpr (fun H locs ls hW hl => ?_)
    refine lv_aload_n S.1 S.2.1 dX7_sheet_26 rfl (lv_at hl 0 rfl) ?_
    refine lv_iconst (v := 1) S.1 S.2.1 dX7_sheet_27 rfl ?_
    refine r_goI (r_runV (rest := []) S hW (mX7_is l D T σ M (1 : Int32) _ h) w113 rfl LM_0 rfl hl.1 rfl (Nat.le_of_ble_eq_true rfl) dX7_sheet_28 ⟨Nat.zero_le _, Nat.zero_le _⟩) hW (fun r12 M13 H locs h hW => ?_)
    exact r_zret S hr hlk hW h.1 h.2 dX7_sheet_31
  have z49 : ∀ x4 M, qX7_sheet_b49 a1 a2 a3 post R26 R49 x4 M → R49 x4 M := by
    intro x4 M h
    refine (e49 _ _).mpr (fun H locs ls hW hl => ?_)
    refine lv_iload S.1 S.2.1 dX7_sheet_49 (lv_at hl 3 rfl) ?_
    refine lv_iload_n S.1 S.2.1 dX7_sheet_51 rfl (lv_at hl 2 rfl) ?_
    refine lv_icmp_ge (tgt := 74) S.1 S.2.1 dX7_sheet_52 (by decide) (fun c14 => ?_) (fun c14 => ?_)
    · have h := h.1 c14
      refine lv_aload_n S.1 S.2.1 dX7_sheet_74 rfl (lv_at hl 0 rfl) ?_
      refine lv_iconst (v := 0) S.1 S.2.1 dX7_sheet_75 rfl ?_
      refine r_goI (r_runV (rest := []) S hW (mX7_is l D T σ M (0 : Int32) _ h) w113 rfl LM_0 rfl hl.1 rfl (Nat.le_of_ble_eq_true rfl) dX7_sheet_76 ⟨Nat.zero_le _, Nat.zero_le _⟩) hW (fun r15 M16 H locs h hW => ?_)
      exact r_zret S hr hlk hW h.1 h.2 dX7_sheet_79
    · have h := h.2 c14
      refine lv_aload_n S.1 S.2.1 dX7_sheet_55 rfl (lv_at hl 0 rfl) ?_
      refine r_getR (j := 3) S hW inX7 rfl f16 rfl LM_0 (by decide) rfl dX7_sheet_56 ?_
      refine lv_bipush (v := 64) S.1 S.2.1 dX7_sheet_59 rfl ?_
      refine lv_iload_n S.1 S.2.1 dX7_sheet_61 rfl (lv_at hl 1 rfl) ?_
      refine lv_imul S.1 S.2.1 dX7_sheet_62 ?_
      refine lv_iload S.1 S.2.1 dX7_sheet_63 (lv_at hl 3 rfl) ?_
      refine lv_iadd S.1 S.2.1 dX7_sheet_65 ?_
      refine lv_lconst (v := 0) S.1 S.2.1 dX7_sheet_66 rfl ?_
      have b17 := h.1
      have h := h.2
      refine r_last S hW LM_3 b17 dX7_sheet_67 (fun M18 H locs eM18 hW => ?_)
      have h := h M18 eM18
      obtain ⟨v19, ev19⟩ : ∃ y : Int32, y = x4 + 1 := ⟨_, rfl⟩
      have h := h v19 ev19
      refine lv_iinc (v := v19) (lv' := [(4, .int v19), (0, .ref (σ 0)), (1, .int a1), (3, .int a3)]) S.1 S.2.1 dX7_sheet_68 hl (k := 3) rfl (by rw [ev19]; rfl) (by decide) rfl (fun ls hl => ?_)
      refine lv_goto (tgt := 49) S.1 S.2.1 dX7_sheet_71 (by decide) ?_
      exact (e49 _ _).mp h H locs ls hW (lv_sub hl [1, 2, 3, 0] rfl)
  have h := h z26 z49
  refine lv_iload_n S.1 S.2.1 dX7_sheet_0 rfl (lv_at hl 1 rfl) ?_
  refine r_goI (r_runS (rest := []) S hW (mX7_isSheet l D T σ M a1 _ h) w109 rfl hl.1 rfl (Nat.le_of_ble_eq_true rfl) dX7_sheet_1 ⟨Nat.zero_le _, Nat.zero_le _⟩) hW (fun r1 M2 H locs h hW => ?_)
  refine lv_if_eq (tgt := 26) S.1 S.2.1 dX7_sheet_4 (by decide) (fun c3 => ?_) (fun c3 => ?_)
  · have h := h.1 c3
    exact (e26  _).mp h H locs ls hW (lv_sub hl [0] rfl)
  · have h := h.2 c3
    refine lv_iload_n S.1 S.2.1 dX7_sheet_7 rfl (lv_at hl 2 rfl) ?_
    refine lv_if_lt (tgt := 26) S.1 S.2.1 dX7_sheet_8 (by decide) (fun c4 => ?_) (fun c4 => ?_)
    · have h := h.1 c4
      exact (e26  _).mp h H locs ls hW (lv_sub hl [0] rfl)
    · have h := h.2 c4
      refine lv_iload_n S.1 S.2.1 dX7_sheet_11 rfl (lv_at hl 2 rfl) ?_
      refine lv_iconst (v := 3) S.1 S.2.1 dX7_sheet_12 rfl ?_
      refine lv_icmp_gt (tgt := 26) S.1 S.2.1 dX7_sheet_13 (by decide) (fun c5 => ?_) (fun c5 => ?_)
      · have h := h.1 c5
        exact (e26  _).mp h H locs ls hW (lv_sub hl [0] rfl)
      · have h := h.2 c5
        refine lv_iload_n S.1 S.2.1 dX7_sheet_16 rfl (lv_at hl 3 rfl) ?_
        refine lv_if_lt (tgt := 26) S.1 S.2.1 dX7_sheet_17 (by decide) (fun c6 => ?_) (fun c6 => ?_)
        · have h := h.1 c6
          exact (e26  _).mp h H locs ls hW (lv_sub hl [0] rfl)
        · have h := h.2 c6
          refine lv_iload_n S.1 S.2.1 dX7_sheet_20 rfl (lv_at hl 3 rfl) ?_
          refine lv_bipush (v := 64) S.1 S.2.1 dX7_sheet_21 rfl ?_
          refine lv_icmp_le (tgt := 32) S.1 S.2.1 dX7_sheet_23 (by decide) (fun c7 => ?_) (fun c7 => ?_)
          · have h := h.1 c7
            refine lv_aload_n S.1 S.2.1 dX7_sheet_32 rfl (lv_at hl 0 rfl) ?_
            refine r_getR (j := 1) S hW inX7 rfl f7 rfl LM_0 (by decide) rfl dX7_sheet_33 ?_
            refine lv_iload_n S.1 S.2.1 dX7_sheet_36 rfl (lv_at hl 1 rfl) ?_
            refine lv_iload_n S.1 S.2.1 dX7_sheet_37 rfl (lv_at hl 2 rfl) ?_
            have b8 := h.1
            have h := h.2
            refine r_iast S hW LM_1 b8 dX7_sheet_38 (fun M9 H locs eM9 hW => ?_)
            have h := h M9 eM9
            refine lv_aload_n S.1 S.2.1 dX7_sheet_39 rfl (lv_at hl 0 rfl) ?_
            refine r_getR (j := 2) S hW inX7 rfl f13 rfl LM_0 (by decide) rfl dX7_sheet_40 ?_
            refine lv_iload_n S.1 S.2.1 dX7_sheet_43 rfl (lv_at hl 1 rfl) ?_
            refine lv_iload_n S.1 S.2.1 dX7_sheet_44 rfl (lv_at hl 3 rfl) ?_
            have b10 := h.1
            have h := h.2
            refine r_iast S hW LM_2 b10 dX7_sheet_45 (fun M11 H locs eM11 hW => ?_)
            have h := h M11 eM11
            refine lv_iconst (v := 0) S.1 S.2.1 dX7_sheet_46 rfl ?_
            refine lv_istore (lv' := [(4, .int (0 : Int32)), (0, .ref (σ 0)), (1, .int a1), (2, .int a2), (3, .int a3)]) S.1 S.2.1 dX7_sheet_47 hl (by decide) rfl (fun ls hl => ?_)
            exact (e49 _ _).mp h H locs ls hW (lv_sub hl [1, 2, 4, 0] rfl)
          · have h := h.2 c7
            exact (e26  _).mp h H locs ls hW (lv_sub hl [0] rfl)
abbrev rmX7_wrong : Room := { frames := 1, cells := 0, slots := 0, locals := 20 }
set_option maxHeartbeats 4000000 in
set_option maxRecDepth 100000 in
theorem mX7_wrong (l : Launch) (D : va_G) (T : Nat → ClassId) (σ : Nat → Nat) (M : Mem) (a1 : Int32) (a2 : Int32) (post : Int32 → Mem → Prop) (h : qX7_wrong a1 a2 M post) : Met l yX7_wrong wsX7_wrong rmX7_wrong (preW D T LM σ [.ref (σ 0), .int a1, .int a2] M) (postI D T LM σ post) 0 0 (fA LM σ) := by
  refine m_of (cc := cX7_wrong) (maxL := 3) (ret := (some .int)) (own := RX7) (by decide) rfl rfl (Nat.le_of_ble_eq_true rfl) ?_
  intro p e s m args below meth c H ls locs S hr hlk hl hW
  have hl : lv_has ls 3 [(0, .ref (σ 0)), (1, .int a1), (2, .int a2)] := hl
  have w109 := va_cwS (R := rmX7_wrong) (rm := rmX7_isSheet) (mc := 0) (ms := 0) 1 S.2.2.2.2 gX7_wrong_X7_isSheet rfl rfl rfl (by decide +kernel) ⟨Nat.le_of_ble_eq_true rfl, Nat.le_of_ble_eq_true rfl⟩
  have inX7 : ∀ w ∈ u_ws RX7 TX7 42, w ∈ wsX7_wrong := by decide +kernel
  have f13 := S.2.2.2.2 (.fieldLink RX7 13 "MachineHallModel" "many" "[I") (by decide +kernel)
  refine lv_iload_n S.1 S.2.1 dX7_wrong_0 rfl (lv_at hl 1 rfl) ?_
  refine r_goI (r_runS (rest := []) S hW (mX7_isSheet l D T σ M a1 _ h) w109 rfl hl.1 rfl (Nat.le_of_ble_eq_true rfl) dX7_wrong_1 ⟨Nat.zero_le _, Nat.zero_le _⟩) hW (fun r1 M2 H locs h hW => ?_)
  refine lv_if_ne (tgt := 11) S.1 S.2.1 dX7_wrong_4 (by decide) (fun c3 => ?_) (fun c3 => ?_)
  · have h := h.1 c3
    refine lv_aload_n S.1 S.2.1 dX7_wrong_11 rfl (lv_at hl 0 rfl) ?_
    refine r_getR (j := 2) S hW inX7 rfl f13 rfl LM_0 (by decide) rfl dX7_wrong_12 ?_
    refine lv_iload_n S.1 S.2.1 dX7_wrong_15 rfl (lv_at hl 1 rfl) ?_
    have b4 := h.1
    have h := h.2
    refine r_iald S hW LM_2 b4 dX7_wrong_16 ?_
    refine lv_iconst (v := -1) S.1 S.2.1 dX7_wrong_17 rfl ?_
    refine lv_icmp_ne (tgt := 25) S.1 S.2.1 dX7_wrong_18 (by decide) (fun c5 => ?_) (fun c5 => ?_)
    · have h := h.1 c5
      refine lv_iload_n S.1 S.2.1 dX7_wrong_25 rfl (lv_at hl 2 rfl) ?_
      refine lv_if_lt (tgt := 39) S.1 S.2.1 dX7_wrong_26 (by decide) (fun c6 => ?_) (fun c6 => ?_)
      · have h := h.1 c6
        refine lv_iconst (v := 3) S.1 S.2.1 dX7_wrong_39 rfl ?_
        refine lv_goto (tgt := 44) S.1 S.2.1 dX7_wrong_40 (by decide) ?_
        exact r_iret S hr hlk hW h dX7_wrong_44
      · have h := h.2 c6
        refine lv_iload_n S.1 S.2.1 dX7_wrong_29 rfl (lv_at hl 2 rfl) ?_
        refine lv_aload_n S.1 S.2.1 dX7_wrong_30 rfl (lv_at hl 0 rfl) ?_
        refine r_getR (j := 2) S hW inX7 rfl f13 rfl LM_0 (by decide) rfl dX7_wrong_31 ?_
        refine lv_iload_n S.1 S.2.1 dX7_wrong_34 rfl (lv_at hl 1 rfl) ?_
        have b7 := h.1
        have h := h.2
        refine r_iald S hW LM_2 b7 dX7_wrong_35 ?_
        refine lv_icmp_lt (tgt := 43) S.1 S.2.1 dX7_wrong_36 (by decide) (fun c8 => ?_) (fun c8 => ?_)
        · have h := h.1 c8
          refine lv_iconst (v := 0) S.1 S.2.1 dX7_wrong_43 rfl ?_
          exact r_iret S hr hlk hW h dX7_wrong_44
        · have h := h.2 c8
          refine lv_iconst (v := 3) S.1 S.2.1 dX7_wrong_39 rfl ?_
          refine lv_goto (tgt := 44) S.1 S.2.1 dX7_wrong_40 (by decide) ?_
          exact r_iret S hr hlk hW h dX7_wrong_44
    · have h := h.2 c5
      refine lv_iconst (v := 2) S.1 S.2.1 dX7_wrong_21 rfl ?_
      refine lv_goto (tgt := 44) S.1 S.2.1 dX7_wrong_22 (by decide) ?_
      exact r_iret S hr hlk hW h dX7_wrong_44
  · have h := h.2 c3
    refine lv_iconst (v := 1) S.1 S.2.1 dX7_wrong_7 rfl ?_
    refine lv_goto (tgt := 44) S.1 S.2.1 dX7_wrong_8 (by decide) ?_
    exact r_iret S hr hlk hW h dX7_wrong_44
abbrev rmX7_write : Room := { frames := 2, cells := 0, slots := 0, locals := 42 }
set_option maxHeartbeats 4000000 in
set_option maxRecDepth 100000 in
theorem mX7_write (l : Launch) (D : va_G) (T : Nat → ClassId) (σ : Nat → Nat) (M : Mem) (a1 : Int32) (a2 : Int32) (a3 : Int64) (post : Int32 → Mem → Prop) (h : qX7_write a1 a2 a3 M post) : Met l yX7_write wsX7_write rmX7_write (preW D T LM σ [.ref (σ 0), .int a1, .int a2, .long a3] M) (postI D T LM σ post) 0 0 (fA LM σ) := by
  refine m_of (cc := cX7_write) (maxL := 6) (ret := (some .boolean)) (own := RX7) (by decide) rfl rfl (Nat.le_of_ble_eq_true rfl) ?_
  intro p e s m args below meth c H ls locs S hr hlk hl hW
  have hl : lv_has ls 6 [(0, .ref (σ 0)), (1, .int a1), (2, .int a2), (3, .long a3)] := hl
  have w116 := cwV (R := rmX7_write) (rm := rmX7_wrong) (mc := 0) (ms := 0) 2 S.2.2.2.2 gX7_write_X7_wrong rfl rfl rfl (by decide +kernel) ⟨Nat.le_of_ble_eq_true rfl, Nat.le_of_ble_eq_true rfl⟩
  have w113 := cwV (R := rmX7_write) (rm := rmX7_is) (mc := 0) (ms := 0) 1 S.2.2.2.2 gX7_write_X7_is rfl rfl rfl (by decide +kernel) ⟨Nat.le_of_ble_eq_true rfl, Nat.le_of_ble_eq_true rfl⟩
  have inX7 : ∀ w ∈ u_ws RX7 TX7 42, w ∈ wsX7_write := by decide +kernel
  have f16 := S.2.2.2.2 (.fieldLink RX7 16 "MachineHallModel" "sheets" "[J") (by decide +kernel)
  have f7 := S.2.2.2.2 (.fieldLink RX7 7 "MachineHallModel" "sort" "[I") (by decide +kernel)
  have w120 := va_cwS (R := rmX7_write) (rm := rmX7_cut) (mc := 0) (ms := 0) 2 S.2.2.2.2 gX7_write_X7_cut rfl rfl rfl (by decide +kernel) ⟨Nat.le_of_ble_eq_true rfl, Nat.le_of_ble_eq_true rfl⟩
  refine lv_aload_n S.1 S.2.1 dX7_write_0 rfl (lv_at hl 0 rfl) ?_
  refine lv_iload_n S.1 S.2.1 dX7_write_1 rfl (lv_at hl 1 rfl) ?_
  refine lv_iload_n S.1 S.2.1 dX7_write_2 rfl (lv_at hl 2 rfl) ?_
  refine r_goI (r_runV (rest := []) S hW (mX7_wrong l D T σ M a1 a2 _ h) w116 rfl LM_0 rfl hl.1 rfl (Nat.le_of_ble_eq_true rfl) dX7_write_3 ⟨Nat.zero_le _, Nat.zero_le _⟩) hW (fun r1 M2 H locs h hW => ?_)
  refine lv_istore (lv' := [(5, .int r1), (0, .ref (σ 0)), (1, .int a1), (2, .int a2), (3, .long a3)]) S.1 S.2.1 dX7_write_6 hl (by decide) rfl (fun ls hl => ?_)
  refine lv_iload S.1 S.2.1 dX7_write_8 (lv_at hl 0 rfl) ?_
  refine lv_if_ne (tgt := 34) S.1 S.2.1 dX7_write_10 (by decide) (fun c3 => ?_) (fun c3 => ?_)
  · have h := h.1 c3
    refine lv_aload_n S.1 S.2.1 dX7_write_34 rfl (lv_at hl 1 rfl) ?_
    refine lv_iload S.1 S.2.1 dX7_write_35 (lv_at hl 0 rfl) ?_
    refine r_goI (r_runV (rest := []) S hW (mX7_is l D T σ M2 r1 _ h) w113 rfl LM_0 rfl hl.1 rfl (Nat.le_of_ble_eq_true rfl) dX7_write_37 ⟨Nat.zero_le _, Nat.zero_le _⟩) hW (fun r4 M5 H locs h hW => ?_)
    exact r_zret S hr hlk hW h.1 h.2 dX7_write_40
  · have h := h.2 c3
    refine lv_aload_n S.1 S.2.1 dX7_write_13 rfl (lv_at hl 1 rfl) ?_
    refine r_getR (j := 3) S hW inX7 rfl f16 rfl LM_0 (by decide) rfl dX7_write_14 ?_
    refine lv_bipush (v := 64) S.1 S.2.1 dX7_write_17 rfl ?_
    refine lv_iload_n S.1 S.2.1 dX7_write_19 rfl (lv_at hl 2 rfl) ?_
    refine lv_imul S.1 S.2.1 dX7_write_20 ?_
    refine lv_iload_n S.1 S.2.1 dX7_write_21 rfl (lv_at hl 3 rfl) ?_
    refine lv_iadd S.1 S.2.1 dX7_write_22 ?_
    refine lv_lload_n S.1 S.2.1 dX7_write_23 rfl (lv_at hl 4 rfl) ?_
    refine lv_aload_n S.1 S.2.1 dX7_write_24 rfl (lv_at hl 1 rfl) ?_
    refine r_getR (j := 1) S hW inX7 rfl f7 rfl LM_0 (by decide) rfl dX7_write_25 ?_
    refine lv_iload_n S.1 S.2.1 dX7_write_28 rfl (lv_at hl 2 rfl) ?_
    have b6 := h.1
    have h := h.2
    refine r_iald S hW LM_1 b6 dX7_write_29 ?_
    refine r_goL (r_runS (rest := [.int (((64 : Int32) * a1) + a2), .ref (σ 3)]) S hW (mX7_cut l D T σ M2 a3 (M2.1 1 a1.toNatClampNeg) _ h) w120 rfl hl.1 rfl (Nat.le_of_ble_eq_true rfl) dX7_write_30 ⟨Nat.zero_le _, Nat.zero_le _⟩) hW (fun r7 M8 H locs h hW => ?_)
    have b9 := h.1
    have h := h.2
    refine r_last S hW LM_3 b9 dX7_write_33 (fun M10 H locs eM10 hW => ?_)
    have h := h M10 eM10
    refine lv_aload_n S.1 S.2.1 dX7_write_34 rfl (lv_at hl 1 rfl) ?_
    refine lv_iload S.1 S.2.1 dX7_write_35 (lv_at hl 0 rfl) ?_
    refine r_goI (r_runV (rest := []) S hW (mX7_is l D T σ M10 r1 _ h) w113 rfl LM_0 rfl hl.1 rfl (Nat.le_of_ble_eq_true rfl) dX7_write_37 ⟨Nat.zero_le _, Nat.zero_le _⟩) hW (fun r11 M12 H locs h hW => ?_)
    exact r_zret S hr hlk hW h.1 h.2 dX7_write_40
abbrev rmX7_read : Room := { frames := 2, cells := 0, slots := 0, locals := 42 }
set_option maxHeartbeats 4000000 in
set_option maxRecDepth 100000 in
theorem mX7_read (l : Launch) (D : va_G) (T : Nat → ClassId) (σ : Nat → Nat) (M : Mem) (a1 : Int32) (a2 : Int32) (post : Int64 → Mem → Prop) (h : qX7_read a1 a2 M post) : Met l yX7_read wsX7_read rmX7_read (preW D T LM σ [.ref (σ 0), .int a1, .int a2] M) (postL D T LM σ post) 0 0 (fA LM σ) := by
  refine m_of (cc := cX7_read) (maxL := 3) (ret := (some .long)) (own := RX7) (by decide) rfl rfl (Nat.le_of_ble_eq_true rfl) ?_
  intro p e s m args below meth c H ls locs S hr hlk hl hW
  have hl : lv_has ls 3 [(0, .ref (σ 0)), (1, .int a1), (2, .int a2)] := hl
  have w116 := cwV (R := rmX7_read) (rm := rmX7_wrong) (mc := 0) (ms := 0) 2 S.2.2.2.2 gX7_read_X7_wrong rfl rfl rfl (by decide +kernel) ⟨Nat.le_of_ble_eq_true rfl, Nat.le_of_ble_eq_true rfl⟩
  have inX7 : ∀ w ∈ u_ws RX7 TX7 42, w ∈ wsX7_read := by decide +kernel
  have f105 := S.2.2.2.2 (.fieldLink RX7 105 "MachineHallModel" "status" "I") (by decide +kernel)
  have f16 := S.2.2.2.2 (.fieldLink RX7 16 "MachineHallModel" "sheets" "[J") (by decide +kernel)
  have k124 := S.2.2.2.2 (.constantLong RX7 124 (-1)) (by decide +kernel)
  refine lv_aload_n S.1 S.2.1 dX7_read_0 rfl (lv_at hl 0 rfl) ?_
  refine lv_aload_n S.1 S.2.1 dX7_read_1 rfl (lv_at hl 0 rfl) ?_
  refine lv_iload_n S.1 S.2.1 dX7_read_2 rfl (lv_at hl 1 rfl) ?_
  refine lv_iload_n S.1 S.2.1 dX7_read_3 rfl (lv_at hl 2 rfl) ?_
  refine r_goI (r_runV (rest := [.ref (σ 0)]) S hW (mX7_wrong l D T σ M a1 a2 _ h) w116 rfl LM_0 rfl hl.1 rfl (Nat.le_of_ble_eq_true rfl) dX7_read_4 ⟨Nat.zero_le _, Nat.zero_le _⟩) hW (fun r1 M2 H locs h hW => ?_)
  refine r_putI (j := 0) S hW inX7 rfl f105 rfl LM_0 (by decide) rfl tyX7 tyX7_ok nmX7 rfl rfl rfl dX7_read_7 (fun M3 H locs eM3 hW => ?_)
  have h := h M3 eM3
  refine lv_aload_n S.1 S.2.1 dX7_read_10 rfl (lv_at hl 0 rfl) ?_
  refine r_getI (j := 0) S hW inX7 rfl f105 rfl LM_0 (by decide) rfl dX7_read_11 ?_
  refine lv_if_le (tgt := 23) S.1 S.2.1 dX7_read_14 (by decide) (fun c4 => ?_) (fun c4 => ?_)
  · have h := h.1 c4
    refine lv_aload_n S.1 S.2.1 dX7_read_23 rfl (lv_at hl 0 rfl) ?_
    refine r_getR (j := 3) S hW inX7 rfl f16 rfl LM_0 (by decide) rfl dX7_read_24 ?_
    refine lv_bipush (v := 64) S.1 S.2.1 dX7_read_27 rfl ?_
    refine lv_iload_n S.1 S.2.1 dX7_read_29 rfl (lv_at hl 1 rfl) ?_
    refine lv_imul S.1 S.2.1 dX7_read_30 ?_
    refine lv_iload_n S.1 S.2.1 dX7_read_31 rfl (lv_at hl 2 rfl) ?_
    refine lv_iadd S.1 S.2.1 dX7_read_32 ?_
    have b5 := h.1
    have h := h.2
    refine r_lald S hW LM_3 b5 dX7_read_33 ?_
    exact r_lret S hr hlk hW h dX7_read_34
  · have h := h.2 c4
    refine lv_ldc2 S.1 S.2.1 S.2.2.2.1 k124 dX7_read_17 ?_
    refine lv_goto (tgt := 34) S.1 S.2.1 dX7_read_20 (by decide) ?_
    exact r_lret S hr hlk hW h dX7_read_34
abbrev rmX7_copy : Room := { frames := 1, cells := 0, slots := 0, locals := 22 }
set_option maxHeartbeats 4000000 in
set_option maxRecDepth 100000 in
theorem mX7_copy (l : Launch) (D : va_G) (T : Nat → ClassId) (σ : Nat → Nat) (M : Mem) (a1 : Int32) (a2 : Int32) (a3 : Int32) (a4 : Int32) (a5 : Int32) (post : Int32 → Mem → Prop) (h : qX7_copy a1 a2 a3 a4 a5 M post) : Met l yX7_copy wsX7_copy rmX7_copy (preW D T LM σ [.ref (σ 0), .int a1, .int a2, .int a3, .int a4, .int a5] M) (postI D T LM σ post) 0 0 (fA LM σ) := by
  refine m_of (cc := cX7_copy) (maxL := 8) (ret := (some .boolean)) (own := RX7) (by decide) rfl rfl (Nat.le_of_ble_eq_true rfl) ?_
  intro p e s m args below meth c H ls locs S hr hlk hl hW
  have hl : lv_has ls 8 [(0, .ref (σ 0)), (1, .int a1), (2, .int a2), (3, .int a3), (4, .int a4), (5, .int a5)] := hl
  have w109 := va_cwS (R := rmX7_copy) (rm := rmX7_isSheet) (mc := 0) (ms := 0) 1 S.2.2.2.2 gX7_copy_X7_isSheet rfl rfl rfl (by decide +kernel) ⟨Nat.le_of_ble_eq_true rfl, Nat.le_of_ble_eq_true rfl⟩
  have inX7 : ∀ w ∈ u_ws RX7 TX7 42, w ∈ wsX7_copy := by decide +kernel
  have f13 := S.2.2.2.2 (.fieldLink RX7 13 "MachineHallModel" "many" "[I") (by decide +kernel)
  have w113 := cwV (R := rmX7_copy) (rm := rmX7_is) (mc := 0) (ms := 0) 1 S.2.2.2.2 gX7_copy_X7_is rfl rfl rfl (by decide +kernel) ⟨Nat.le_of_ble_eq_true rfl, Nat.le_of_ble_eq_true rfl⟩
  have f16 := S.2.2.2.2 (.fieldLink RX7 16 "MachineHallModel" "sheets" "[J") (by decide +kernel)
  have f7 := S.2.2.2.2 (.fieldLink RX7 7 "MachineHallModel" "sort" "[I") (by decide +kernel)
  have w120 := va_cwS (R := rmX7_copy) (rm := rmX7_cut) (mc := 0) (ms := 0) 2 S.2.2.2.2 gX7_copy_X7_cut rfl rfl rfl (by decide +kernel) ⟨Nat.le_of_ble_eq_true rfl, Nat.le_of_ble_eq_true rfl⟩
  obtain ⟨R28, e28⟩ : ∃ R : Mem → Prop, ∀ M, R M ↔ WW p l e rmX7_copy s m args below meth c D T LM σ 8 (MQ below (postI D T LM σ post) args s 0 0 (fA LM σ)) 28 [(0, .ref (σ 0))] [] M := ⟨_, fun _ => Iff.rfl⟩
  obtain ⟨R96, e96⟩ : ∃ R : Int32 → Mem → Prop, ∀ x6 M, R x6 M ↔ WW p l e rmX7_copy s m args below meth c D T LM σ 8 (MQ below (postI D T LM σ post) args s 0 0 (fA LM σ)) 96 [(0, .ref (σ 0)), (1, .int a1), (2, .int a2), (3, .int a3), (4, .int a4), (5, .int a5), (6, .int x6)] [] M := ⟨_, fun _ _ => Iff.rfl⟩
  obtain ⟨R121, e121⟩ : ∃ R : Int32 → Int32 → Mem → Prop, ∀ x6 s0 M, R x6 s0 M ↔ WW p l e rmX7_copy s m args below meth c D T LM σ 8 (MQ below (postI D T LM σ post) args s 0 0 (fA LM σ)) 121 [(0, .ref (σ 0)), (1, .int a1), (2, .int a2), (3, .int a3), (4, .int a4), (5, .int a5), (6, .int x6)] [.int s0] M := ⟨_, fun _ _ _ => Iff.rfl⟩
  have h := h R28 R96 R121
  have z28 : ∀ M, qX7_copy_b28 a1 a2 a3 a4 a5 post R28 R96 R121 M → R28 M := by
    intro M h
    refine (e28 _).mpr (fun H locs ls hW hl => ?_)
    refine lv_aload_n S.1 S.2.1 dX7_copy_28 rfl (lv_at hl 0 rfl) ?_
    refine lv_iconst (v := 1) S.1 S.2.1 dX7_copy_29 rfl ?_
    refine r_goI (r_runV (rest := []) S hW (mX7_is l D T σ M (1 : Int32) _ h) w113 rfl LM_0 rfl hl.1 rfl (Nat.le_of_ble_eq_true rfl) dX7_copy_30 ⟨Nat.zero_le _, Nat.zero_le _⟩) hW (fun r26 M27 H locs h hW => ?_)
    exact r_zret S hr hlk hW h.1 h.2 dX7_copy_33
  have z96 : ∀ x6 M, qX7_copy_b96 a1 a2 a3 a4 a5 post R28 R96 R121 x6 M → R96 x6 M := by
    intro x6 M h
    refine (e96 _ _).mpr (fun H locs ls hW hl => ?_)
    refine lv_iload S.1 S.2.1 dX7_copy_96 (lv_at hl 6 rfl) ?_
    refine lv_iload S.1 S.2.1 dX7_copy_98 (lv_at hl 5 rfl) ?_
    refine lv_icmp_ge (tgt := 167) S.1 S.2.1 dX7_copy_100 (by decide) (fun c28 => ?_) (fun c28 => ?_)
    · have h := h.1 c28
      refine lv_aload_n S.1 S.2.1 dX7_copy_167 rfl (lv_at hl 0 rfl) ?_
      refine lv_iconst (v := 0) S.1 S.2.1 dX7_copy_168 rfl ?_
      refine r_goI (r_runV (rest := []) S hW (mX7_is l D T σ M (0 : Int32) _ h) w113 rfl LM_0 rfl hl.1 rfl (Nat.le_of_ble_eq_true rfl) dX7_copy_169 ⟨Nat.zero_le _, Nat.zero_le _⟩) hW (fun r29 M30 H locs h hW => ?_)
      exact r_zret S hr hlk hW h.1 h.2 dX7_copy_172
    · have h := h.2 c28
      refine lv_iload_n S.1 S.2.1 dX7_copy_103 rfl (lv_at hl 2 rfl) ?_
      refine lv_iload S.1 S.2.1 dX7_copy_104 (lv_at hl 4 rfl) ?_
      refine lv_icmp_ge (tgt := 119) S.1 S.2.1 dX7_copy_106 (by decide) (fun c31 => ?_) (fun c31 => ?_)
      · have h := h.1 c31
        refine lv_iload S.1 S.2.1 dX7_copy_119 (lv_at hl 6 rfl) ?_
        exact (e121 _ _ _).mp h H locs ls hW (lv_sub hl [0, 1, 2, 3, 4, 5, 6] rfl)
      · have h := h.2 c31
        refine lv_iload S.1 S.2.1 dX7_copy_109 (lv_at hl 5 rfl) ?_
        refine lv_iconst (v := 1) S.1 S.2.1 dX7_copy_111 rfl ?_
        refine lv_isub S.1 S.2.1 dX7_copy_112 ?_
        refine lv_iload S.1 S.2.1 dX7_copy_113 (lv_at hl 6 rfl) ?_
        refine lv_isub S.1 S.2.1 dX7_copy_115 ?_
        refine lv_goto (tgt := 121) S.1 S.2.1 dX7_copy_116 (by decide) ?_
        exact (e121 _ _ _).mp h H locs ls hW (lv_sub hl [0, 1, 2, 3, 4, 5, 6] rfl)
  have z121 : ∀ x6 s0 M, qX7_copy_b121 a1 a2 a3 a4 a5 post R28 R96 R121 x6 s0 M → R121 x6 s0 M := by
    intro x6 s0 M h
    refine (e121 _ _ _).mpr (fun H locs ls hW hl => ?_)
    refine lv_istore (lv' := [(7, .int s0), (0, .ref (σ 0)), (1, .int a1), (2, .int a2), (3, .int a3), (4, .int a4), (5, .int a5), (6, .int x6)]) S.1 S.2.1 dX7_copy_121 hl (by decide) rfl (fun ls hl => ?_)
    refine lv_aload_n S.1 S.2.1 dX7_copy_123 rfl (lv_at hl 1 rfl) ?_
    refine r_getR (j := 3) S hW inX7 rfl f16 rfl LM_0 (by decide) rfl dX7_copy_124 ?_
    refine lv_bipush (v := 64) S.1 S.2.1 dX7_copy_127 rfl ?_
    refine lv_iload_n S.1 S.2.1 dX7_copy_129 rfl (lv_at hl 4 rfl) ?_
    refine lv_imul S.1 S.2.1 dX7_copy_130 ?_
    refine lv_iload S.1 S.2.1 dX7_copy_131 (lv_at hl 5 rfl) ?_
    refine lv_iadd S.1 S.2.1 dX7_copy_133 ?_
    refine lv_iload S.1 S.2.1 dX7_copy_134 (lv_at hl 0 rfl) ?_
    refine lv_iadd S.1 S.2.1 dX7_copy_136 ?_
    refine lv_aload_n S.1 S.2.1 dX7_copy_137 rfl (lv_at hl 1 rfl) ?_
    refine r_getR (j := 3) S hW inX7 rfl f16 rfl LM_0 (by decide) rfl dX7_copy_138 ?_
    refine lv_bipush (v := 64) S.1 S.2.1 dX7_copy_141 rfl ?_
    refine lv_iload_n S.1 S.2.1 dX7_copy_143 rfl (lv_at hl 2 rfl) ?_
    refine lv_imul S.1 S.2.1 dX7_copy_144 ?_
    refine lv_iload_n S.1 S.2.1 dX7_copy_145 rfl (lv_at hl 3 rfl) ?_
    refine lv_iadd S.1 S.2.1 dX7_copy_146 ?_
    refine lv_iload S.1 S.2.1 dX7_copy_147 (lv_at hl 0 rfl) ?_
    refine lv_iadd S.1 S.2.1 dX7_copy_149 ?_
    have b32 := h.1
    have h := h.2
    refine r_lald S hW LM_3 b32 dX7_copy_150 ?_
    refine lv_aload_n S.1 S.2.1 dX7_copy_151 rfl (lv_at hl 1 rfl) ?_
    refine r_getR (j := 1) S hW inX7 rfl f7 rfl LM_0 (by decide) rfl dX7_copy_152 ?_
    refine lv_iload_n S.1 S.2.1 dX7_copy_155 rfl (lv_at hl 4 rfl) ?_
    have b33 := h.1
    have h := h.2
    refine r_iald S hW LM_1 b33 dX7_copy_156 ?_
    refine r_goL (r_runS (rest := [.int ((((64 : Int32) * a3) + a4) + s0), .ref (σ 3)]) S hW (mX7_cut l D T σ M (M.2 3 ((((64 : Int32) * a1) + a2) + s0).toNatClampNeg) (M.1 1 a3.toNatClampNeg) _ h) w120 rfl hl.1 rfl (Nat.le_of_ble_eq_true rfl) dX7_copy_157 ⟨Nat.zero_le _, Nat.zero_le _⟩) hW (fun r34 M35 H locs h hW => ?_)
    have b36 := h.1
    have h := h.2
    refine r_last S hW LM_3 b36 dX7_copy_160 (fun M37 H locs eM37 hW => ?_)
    have h := h M37 eM37
    obtain ⟨v38, ev38⟩ : ∃ y : Int32, y = x6 + 1 := ⟨_, rfl⟩
    have h := h v38 ev38
    refine lv_iinc (v := v38) (lv' := [(6, .int v38), (7, .int s0), (0, .ref (σ 0)), (1, .int a1), (2, .int a2), (3, .int a3), (4, .int a4), (5, .int a5)]) S.1 S.2.1 dX7_copy_161 hl (k := 7) rfl (by rw [ev38]; rfl) (by decide) rfl (fun ls hl => ?_)
    refine lv_goto (tgt := 96) S.1 S.2.1 dX7_copy_164 (by decide) ?_
    exact (e96 _ _).mp h H locs ls hW (lv_sub hl [2, 3, 4, 5, 6, 7, 0] rfl)
  have h := h z28 z96 z121
  refine lv_iload_n S.1 S.2.1 dX7_copy_0 rfl (lv_at hl 1 rfl) ?_
  refine r_goI (r_runS (rest := []) S hW (mX7_isSheet l D T σ M a1 _ h) w109 rfl hl.1 rfl (Nat.le_of_ble_eq_true rfl) dX7_copy_1 ⟨Nat.zero_le _, Nat.zero_le _⟩) hW (fun r1 M2 H locs h hW => ?_)
  refine lv_if_eq (tgt := 28) S.1 S.2.1 dX7_copy_4 (by decide) (fun c3 => ?_) (fun c3 => ?_)
  · have h := h.1 c3
    exact (e28  _).mp h H locs ls hW (lv_sub hl [0] rfl)
  · have h := h.2 c3
    refine lv_iload_n S.1 S.2.1 dX7_copy_7 rfl (lv_at hl 3 rfl) ?_
    refine r_goI (r_runS (rest := []) S hW (mX7_isSheet l D T σ M2 a3 _ h) w109 rfl hl.1 rfl (Nat.le_of_ble_eq_true rfl) dX7_copy_8 ⟨Nat.zero_le _, Nat.zero_le _⟩) hW (fun r4 M5 H locs h hW => ?_)
    refine lv_if_eq (tgt := 28) S.1 S.2.1 dX7_copy_11 (by decide) (fun c6 => ?_) (fun c6 => ?_)
    · have h := h.1 c6
      exact (e28  _).mp h H locs ls hW (lv_sub hl [0] rfl)
    · have h := h.2 c6
      refine lv_iload_n S.1 S.2.1 dX7_copy_14 rfl (lv_at hl 2 rfl) ?_
      refine lv_if_lt (tgt := 28) S.1 S.2.1 dX7_copy_15 (by decide) (fun c7 => ?_) (fun c7 => ?_)
      · have h := h.1 c7
        exact (e28  _).mp h H locs ls hW (lv_sub hl [0] rfl)
      · have h := h.2 c7
        refine lv_iload S.1 S.2.1 dX7_copy_18 (lv_at hl 4 rfl) ?_
        refine lv_if_lt (tgt := 28) S.1 S.2.1 dX7_copy_20 (by decide) (fun c8 => ?_) (fun c8 => ?_)
        · have h := h.1 c8
          exact (e28  _).mp h H locs ls hW (lv_sub hl [0] rfl)
        · have h := h.2 c8
          refine lv_iload S.1 S.2.1 dX7_copy_23 (lv_at hl 5 rfl) ?_
          refine lv_if_ge (tgt := 34) S.1 S.2.1 dX7_copy_25 (by decide) (fun c9 => ?_) (fun c9 => ?_)
          · have h := h.1 c9
            refine lv_aload_n S.1 S.2.1 dX7_copy_34 rfl (lv_at hl 0 rfl) ?_
            refine r_getR (j := 2) S hW inX7 rfl f13 rfl LM_0 (by decide) rfl dX7_copy_35 ?_
            refine lv_iload_n S.1 S.2.1 dX7_copy_38 rfl (lv_at hl 1 rfl) ?_
            have b10 := h.1
            have h := h.2
            refine r_iald S hW LM_2 b10 dX7_copy_39 ?_
            refine lv_iconst (v := -1) S.1 S.2.1 dX7_copy_40 rfl ?_
            refine lv_icmp_eq (tgt := 54) S.1 S.2.1 dX7_copy_41 (by decide) (fun c11 => ?_) (fun c11 => ?_)
            · have h := h.1 c11
              refine lv_aload_n S.1 S.2.1 dX7_copy_54 rfl (lv_at hl 0 rfl) ?_
              refine lv_iconst (v := 2) S.1 S.2.1 dX7_copy_55 rfl ?_
              refine r_goI (r_runV (rest := []) S hW (mX7_is l D T σ M5 (2 : Int32) _ h) w113 rfl LM_0 rfl hl.1 rfl (Nat.le_of_ble_eq_true rfl) dX7_copy_56 ⟨Nat.zero_le _, Nat.zero_le _⟩) hW (fun r12 M13 H locs h hW => ?_)
              exact r_zret S hr hlk hW h.1 h.2 dX7_copy_59
            · have h := h.2 c11
              refine lv_aload_n S.1 S.2.1 dX7_copy_44 rfl (lv_at hl 0 rfl) ?_
              refine r_getR (j := 2) S hW inX7 rfl f13 rfl LM_0 (by decide) rfl dX7_copy_45 ?_
              refine lv_iload_n S.1 S.2.1 dX7_copy_48 rfl (lv_at hl 3 rfl) ?_
              have b14 := h.1
              have h := h.2
              refine r_iald S hW LM_2 b14 dX7_copy_49 ?_
              refine lv_iconst (v := -1) S.1 S.2.1 dX7_copy_50 rfl ?_
              refine lv_icmp_ne (tgt := 60) S.1 S.2.1 dX7_copy_51 (by decide) (fun c15 => ?_) (fun c15 => ?_)
              · have h := h.1 c15
                refine lv_iload S.1 S.2.1 dX7_copy_60 (lv_at hl 5 rfl) ?_
                refine lv_aload_n S.1 S.2.1 dX7_copy_62 rfl (lv_at hl 0 rfl) ?_
                refine r_getR (j := 2) S hW inX7 rfl f13 rfl LM_0 (by decide) rfl dX7_copy_63 ?_
                refine lv_iload_n S.1 S.2.1 dX7_copy_66 rfl (lv_at hl 1 rfl) ?_
                have b16 := h.1
                have h := h.2
                refine r_iald S hW LM_2 b16 dX7_copy_67 ?_
                refine lv_iload_n S.1 S.2.1 dX7_copy_68 rfl (lv_at hl 2 rfl) ?_
                refine lv_isub S.1 S.2.1 dX7_copy_69 ?_
                refine lv_icmp_gt (tgt := 87) S.1 S.2.1 dX7_copy_70 (by decide) (fun c17 => ?_) (fun c17 => ?_)
                · have h := h.1 c17
                  refine lv_aload_n S.1 S.2.1 dX7_copy_87 rfl (lv_at hl 0 rfl) ?_
                  refine lv_iconst (v := 3) S.1 S.2.1 dX7_copy_88 rfl ?_
                  refine r_goI (r_runV (rest := []) S hW (mX7_is l D T σ M5 (3 : Int32) _ h) w113 rfl LM_0 rfl hl.1 rfl (Nat.le_of_ble_eq_true rfl) dX7_copy_89 ⟨Nat.zero_le _, Nat.zero_le _⟩) hW (fun r18 M19 H locs h hW => ?_)
                  exact r_zret S hr hlk hW h.1 h.2 dX7_copy_92
                · have h := h.2 c17
                  refine lv_iload S.1 S.2.1 dX7_copy_73 (lv_at hl 5 rfl) ?_
                  refine lv_aload_n S.1 S.2.1 dX7_copy_75 rfl (lv_at hl 0 rfl) ?_
                  refine r_getR (j := 2) S hW inX7 rfl f13 rfl LM_0 (by decide) rfl dX7_copy_76 ?_
                  refine lv_iload_n S.1 S.2.1 dX7_copy_79 rfl (lv_at hl 3 rfl) ?_
                  have b20 := h.1
                  have h := h.2
                  refine r_iald S hW LM_2 b20 dX7_copy_80 ?_
                  refine lv_iload S.1 S.2.1 dX7_copy_81 (lv_at hl 4 rfl) ?_
                  refine lv_isub S.1 S.2.1 dX7_copy_83 ?_
                  refine lv_icmp_le (tgt := 93) S.1 S.2.1 dX7_copy_84 (by decide) (fun c21 => ?_) (fun c21 => ?_)
                  · have h := h.1 c21
                    refine lv_iconst (v := 0) S.1 S.2.1 dX7_copy_93 rfl ?_
                    refine lv_istore (lv' := [(6, .int (0 : Int32)), (0, .ref (σ 0)), (1, .int a1), (2, .int a2), (3, .int a3), (4, .int a4), (5, .int a5)]) S.1 S.2.1 dX7_copy_94 hl (by decide) rfl (fun ls hl => ?_)
                    exact (e96 _ _).mp h H locs ls hW (lv_sub hl [1, 2, 3, 4, 5, 6, 0] rfl)
                  · have h := h.2 c21
                    refine lv_aload_n S.1 S.2.1 dX7_copy_87 rfl (lv_at hl 0 rfl) ?_
                    refine lv_iconst (v := 3) S.1 S.2.1 dX7_copy_88 rfl ?_
                    refine r_goI (r_runV (rest := []) S hW (mX7_is l D T σ M5 (3 : Int32) _ h) w113 rfl LM_0 rfl hl.1 rfl (Nat.le_of_ble_eq_true rfl) dX7_copy_89 ⟨Nat.zero_le _, Nat.zero_le _⟩) hW (fun r22 M23 H locs h hW => ?_)
                    exact r_zret S hr hlk hW h.1 h.2 dX7_copy_92
              · have h := h.2 c15
                refine lv_aload_n S.1 S.2.1 dX7_copy_54 rfl (lv_at hl 0 rfl) ?_
                refine lv_iconst (v := 2) S.1 S.2.1 dX7_copy_55 rfl ?_
                refine r_goI (r_runV (rest := []) S hW (mX7_is l D T σ M5 (2 : Int32) _ h) w113 rfl LM_0 rfl hl.1 rfl (Nat.le_of_ble_eq_true rfl) dX7_copy_56 ⟨Nat.zero_le _, Nat.zero_le _⟩) hW (fun r24 M25 H locs h hW => ?_)
                exact r_zret S hr hlk hW h.1 h.2 dX7_copy_59
          · have h := h.2 c9
            exact (e28  _).mp h H locs ls hW (lv_sub hl [0] rfl)
abbrev rmX7_drop : Room := { frames := 1, cells := 0, slots := 0, locals := 21 }
set_option maxHeartbeats 4000000 in
set_option maxRecDepth 100000 in
theorem mX7_drop (l : Launch) (D : va_G) (T : Nat → ClassId) (σ : Nat → Nat) (M : Mem) (a1 : Int32) (post : Int32 → Mem → Prop) (h : qX7_drop a1 M post) : Met l yX7_drop wsX7_drop rmX7_drop (preW D T LM σ [.ref (σ 0), .int a1] M) (postI D T LM σ post) 0 0 (fA LM σ) := by
  refine m_of (cc := cX7_drop) (maxL := 2) (ret := (some .boolean)) (own := RX7) (by decide) rfl rfl (Nat.le_of_ble_eq_true rfl) ?_
  intro p e s m args below meth c H ls locs S hr hlk hl hW
  have hl : lv_has ls 2 [(0, .ref (σ 0)), (1, .int a1)] := hl
  have w109 := va_cwS (R := rmX7_drop) (rm := rmX7_isSheet) (mc := 0) (ms := 0) 1 S.2.2.2.2 gX7_drop_X7_isSheet rfl rfl rfl (by decide +kernel) ⟨Nat.le_of_ble_eq_true rfl, Nat.le_of_ble_eq_true rfl⟩
  have inX7 : ∀ w ∈ u_ws RX7 TX7 42, w ∈ wsX7_drop := by decide +kernel
  have f13 := S.2.2.2.2 (.fieldLink RX7 13 "MachineHallModel" "many" "[I") (by decide +kernel)
  have w113 := cwV (R := rmX7_drop) (rm := rmX7_is) (mc := 0) (ms := 0) 1 S.2.2.2.2 gX7_drop_X7_is rfl rfl rfl (by decide +kernel) ⟨Nat.le_of_ble_eq_true rfl, Nat.le_of_ble_eq_true rfl⟩
  refine lv_iload_n S.1 S.2.1 dX7_drop_0 rfl (lv_at hl 1 rfl) ?_
  refine r_goI (r_runS (rest := []) S hW (mX7_isSheet l D T σ M a1 _ h) w109 rfl hl.1 rfl (Nat.le_of_ble_eq_true rfl) dX7_drop_1 ⟨Nat.zero_le _, Nat.zero_le _⟩) hW (fun r1 M2 H locs h hW => ?_)
  refine lv_if_ne (tgt := 13) S.1 S.2.1 dX7_drop_4 (by decide) (fun c3 => ?_) (fun c3 => ?_)
  · have h := h.1 c3
    refine lv_aload_n S.1 S.2.1 dX7_drop_13 rfl (lv_at hl 0 rfl) ?_
    refine r_getR (j := 2) S hW inX7 rfl f13 rfl LM_0 (by decide) rfl dX7_drop_14 ?_
    refine lv_iload_n S.1 S.2.1 dX7_drop_17 rfl (lv_at hl 1 rfl) ?_
    have b4 := h.1
    have h := h.2
    refine r_iald S hW LM_2 b4 dX7_drop_18 ?_
    refine lv_iconst (v := -1) S.1 S.2.1 dX7_drop_19 rfl ?_
    refine lv_icmp_ne (tgt := 29) S.1 S.2.1 dX7_drop_20 (by decide) (fun c5 => ?_) (fun c5 => ?_)
    · have h := h.1 c5
      refine lv_aload_n S.1 S.2.1 dX7_drop_29 rfl (lv_at hl 0 rfl) ?_
      refine r_getR (j := 2) S hW inX7 rfl f13 rfl LM_0 (by decide) rfl dX7_drop_30 ?_
      refine lv_iload_n S.1 S.2.1 dX7_drop_33 rfl (lv_at hl 1 rfl) ?_
      refine lv_iconst (v := -1) S.1 S.2.1 dX7_drop_34 rfl ?_
      have b6 := h.1
      have h := h.2
      refine r_iast S hW LM_2 b6 dX7_drop_35 (fun M7 H locs eM7 hW => ?_)
      have h := h M7 eM7
      refine lv_aload_n S.1 S.2.1 dX7_drop_36 rfl (lv_at hl 0 rfl) ?_
      refine lv_iconst (v := 0) S.1 S.2.1 dX7_drop_37 rfl ?_
      refine r_goI (r_runV (rest := []) S hW (mX7_is l D T σ M7 (0 : Int32) _ h) w113 rfl LM_0 rfl hl.1 rfl (Nat.le_of_ble_eq_true rfl) dX7_drop_38 ⟨Nat.zero_le _, Nat.zero_le _⟩) hW (fun r8 M9 H locs h hW => ?_)
      exact r_zret S hr hlk hW h.1 h.2 dX7_drop_41
    · have h := h.2 c5
      refine lv_aload_n S.1 S.2.1 dX7_drop_23 rfl (lv_at hl 0 rfl) ?_
      refine lv_iconst (v := 2) S.1 S.2.1 dX7_drop_24 rfl ?_
      refine r_goI (r_runV (rest := []) S hW (mX7_is l D T σ M2 (2 : Int32) _ h) w113 rfl LM_0 rfl hl.1 rfl (Nat.le_of_ble_eq_true rfl) dX7_drop_25 ⟨Nat.zero_le _, Nat.zero_le _⟩) hW (fun r10 M11 H locs h hW => ?_)
      exact r_zret S hr hlk hW h.1 h.2 dX7_drop_28
  · have h := h.2 c3
    refine lv_aload_n S.1 S.2.1 dX7_drop_7 rfl (lv_at hl 0 rfl) ?_
    refine lv_iconst (v := 1) S.1 S.2.1 dX7_drop_8 rfl ?_
    refine r_goI (r_runV (rest := []) S hW (mX7_is l D T σ M2 (1 : Int32) _ h) w113 rfl LM_0 rfl hl.1 rfl (Nat.le_of_ble_eq_true rfl) dX7_drop_9 ⟨Nat.zero_le _, Nat.zero_le _⟩) hW (fun r12 M13 H locs h hW => ?_)
    exact r_zret S hr hlk hW h.1 h.2 dX7_drop_12
abbrev rmX7_none : Room := { frames := 1, cells := 0, slots := 0, locals := 21 }
set_option maxHeartbeats 4000000 in
set_option maxRecDepth 100000 in
theorem mX7_none (l : Launch) (D : va_G) (T : Nat → ClassId) (σ : Nat → Nat) (M : Mem)  (post : Int32 → Mem → Prop) (h : qX7_none M post) : Met l yX7_none wsX7_none rmX7_none (preW D T LM σ [.ref (σ 0)] M) (postI D T LM σ post) 0 0 (fA LM σ) := by
  refine m_of (cc := cX7_none) (maxL := 1) (ret := (some .boolean)) (own := RX7) (by decide) rfl rfl (Nat.le_of_ble_eq_true rfl) ?_
  intro p e s m args below meth c H ls locs S hr hlk hl hW
  have hl : lv_has ls 1 [(0, .ref (σ 0))] := hl
  have w113 := cwV (R := rmX7_none) (rm := rmX7_is) (mc := 0) (ms := 0) 1 S.2.2.2.2 gX7_none_X7_is rfl rfl rfl (by decide +kernel) ⟨Nat.le_of_ble_eq_true rfl, Nat.le_of_ble_eq_true rfl⟩
  refine lv_aload_n S.1 S.2.1 dX7_none_0 rfl (lv_at hl 0 rfl) ?_
  refine lv_bipush (v := 8) S.1 S.2.1 dX7_none_1 rfl ?_
  refine r_goI (r_runV (rest := []) S hW (mX7_is l D T σ M (8 : Int32) _ h) w113 rfl LM_0 rfl hl.1 rfl (Nat.le_of_ble_eq_true rfl) dX7_none_3 ⟨Nat.zero_le _, Nat.zero_le _⟩) hW (fun r1 M2 H locs h hW => ?_)
  exact r_zret S hr hlk hW h.1 h.2 dX7_none_6
abbrev rmX7_wrongNumbers : Room := { frames := 1, cells := 0, slots := 0, locals := 20 }
set_option maxHeartbeats 4000000 in
set_option maxRecDepth 100000 in
theorem mX7_wrongNumbers (l : Launch) (D : va_G) (T : Nat → ClassId) (σ : Nat → Nat) (M : Mem) (a1 : Int32) (a2 : Int32) (a3 : Int64) (post : Int32 → Mem → Prop) (h : qX7_wrongNumbers a1 a2 a3 M post) : Met l yX7_wrongNumbers wsX7_wrongNumbers rmX7_wrongNumbers (preW D T LM σ [.ref (σ 0), .int a1, .int a2, .long a3] M) (postI D T LM σ post) 0 0 (fA LM σ) := by
  refine m_of (cc := cX7_wrongNumbers) (maxL := 6) (ret := (some .int)) (own := RX7) (by decide) rfl rfl (Nat.le_of_ble_eq_true rfl) ?_
  intro p e s m args below meth c H ls locs S hr hlk hl hW
  have hl : lv_has ls 6 [(0, .ref (σ 0)), (1, .int a1), (2, .int a2), (3, .long a3)] := hl
  have w109 := va_cwS (R := rmX7_wrongNumbers) (rm := rmX7_isSheet) (mc := 0) (ms := 0) 1 S.2.2.2.2 gX7_wrongNumbers_X7_isSheet rfl rfl rfl (by decide +kernel) ⟨Nat.le_of_ble_eq_true rfl, Nat.le_of_ble_eq_true rfl⟩
  have inX7 : ∀ w ∈ u_ws RX7 TX7 42, w ∈ wsX7_wrongNumbers := by decide +kernel
  have f13 := S.2.2.2.2 (.fieldLink RX7 13 "MachineHallModel" "many" "[I") (by decide +kernel)
  have f16 := S.2.2.2.2 (.fieldLink RX7 16 "MachineHallModel" "sheets" "[J") (by decide +kernel)
  obtain ⟨R36, e36⟩ : ∃ R : Int32 → Mem → Prop, ∀ x5 M, R x5 M ↔ WW p l e rmX7_wrongNumbers s m args below meth c D T LM σ 6 (MQ below (postI D T LM σ post) args s 0 0 (fA LM σ)) 36 [(0, .ref (σ 0)), (1, .int a1), (2, .int a2), (3, .long a3), (5, .int x5)] [] M := ⟨_, fun _ _ => Iff.rfl⟩
  have h := h R36
  have z36 : ∀ x5 M, qX7_wrongNumbers_b36 a1 a2 a3 post R36 x5 M → R36 x5 M := by
    intro x5 M h
    refine (e36 _ _).mpr (fun H locs ls hW hl => ?_)
    refine lv_iload S.1 S.2.1 dX7_wrongNumbers_36 (lv_at hl 4 rfl) ?_
    refine lv_iload_n S.1 S.2.1 dX7_wrongNumbers_38 rfl (lv_at hl 2 rfl) ?_
    refine lv_icmp_ge (tgt := 84) S.1 S.2.1 dX7_wrongNumbers_39 (by decide) (fun c8 => ?_) (fun c8 => ?_)
    · have h := h.1 c8
      refine lv_iconst (v := 0) S.1 S.2.1 dX7_wrongNumbers_84 rfl ?_
      exact r_iret S hr hlk hW h dX7_wrongNumbers_85
    · have h := h.2 c8
      refine lv_aload_n S.1 S.2.1 dX7_wrongNumbers_42 rfl (lv_at hl 0 rfl) ?_
      refine r_getR (j := 3) S hW inX7 rfl f16 rfl LM_0 (by decide) rfl dX7_wrongNumbers_43 ?_
      refine lv_bipush (v := 64) S.1 S.2.1 dX7_wrongNumbers_46 rfl ?_
      refine lv_iload_n S.1 S.2.1 dX7_wrongNumbers_48 rfl (lv_at hl 1 rfl) ?_
      refine lv_imul S.1 S.2.1 dX7_wrongNumbers_49 ?_
      refine lv_iload S.1 S.2.1 dX7_wrongNumbers_50 (lv_at hl 4 rfl) ?_
      refine lv_iadd S.1 S.2.1 dX7_wrongNumbers_52 ?_
      have b9 := h.1
      have h := h.2
      refine r_lald S hW LM_3 b9 dX7_wrongNumbers_53 ?_
      refine lv_lconst (v := 0) S.1 S.2.1 dX7_wrongNumbers_54 rfl ?_
      refine W.lcmp S.1 S.2.1 dX7_wrongNumbers_55 ?_
      refine lv_if_lt (tgt := 76) S.1 S.2.1 dX7_wrongNumbers_56 (by decide) (fun c10 => ?_) (fun c10 => ?_)
      · have h := h.1 c10
        refine lv_iconst (v := 1) S.1 S.2.1 dX7_wrongNumbers_76 rfl ?_
        exact r_iret S hr hlk hW h dX7_wrongNumbers_77
      · have h := h.2 c10
        refine lv_aload_n S.1 S.2.1 dX7_wrongNumbers_59 rfl (lv_at hl 0 rfl) ?_
        refine r_getR (j := 3) S hW inX7 rfl f16 rfl LM_0 (by decide) rfl dX7_wrongNumbers_60 ?_
        refine lv_bipush (v := 64) S.1 S.2.1 dX7_wrongNumbers_63 rfl ?_
        refine lv_iload_n S.1 S.2.1 dX7_wrongNumbers_65 rfl (lv_at hl 1 rfl) ?_
        refine lv_imul S.1 S.2.1 dX7_wrongNumbers_66 ?_
        refine lv_iload S.1 S.2.1 dX7_wrongNumbers_67 (lv_at hl 4 rfl) ?_
        refine lv_iadd S.1 S.2.1 dX7_wrongNumbers_69 ?_
        have b11 := h.1
        have h := h.2
        refine r_lald S hW LM_3 b11 dX7_wrongNumbers_70 ?_
        refine lv_lload_n S.1 S.2.1 dX7_wrongNumbers_71 rfl (lv_at hl 3 rfl) ?_
        refine W.lcmp S.1 S.2.1 dX7_wrongNumbers_72 ?_
        refine lv_if_le (tgt := 78) S.1 S.2.1 dX7_wrongNumbers_73 (by decide) (fun c12 => ?_) (fun c12 => ?_)
        · have h := h.1 c12
          obtain ⟨v13, ev13⟩ : ∃ y : Int32, y = x5 + 1 := ⟨_, rfl⟩
          have h := h v13 ev13
          refine lv_iinc (v := v13) (lv' := [(5, .int v13), (0, .ref (σ 0)), (1, .int a1), (2, .int a2), (3, .long a3)]) S.1 S.2.1 dX7_wrongNumbers_78 hl (k := 4) rfl (by rw [ev13]; rfl) (by decide) rfl (fun ls hl => ?_)
          refine lv_goto (tgt := 36) S.1 S.2.1 dX7_wrongNumbers_81 (by decide) ?_
          exact (e36 _ _).mp h H locs ls hW (lv_sub hl [1, 2, 3, 4, 0] rfl)
        · have h := h.2 c12
          refine lv_iconst (v := 1) S.1 S.2.1 dX7_wrongNumbers_76 rfl ?_
          exact r_iret S hr hlk hW h dX7_wrongNumbers_77
  have h := h z36
  refine lv_iload_n S.1 S.2.1 dX7_wrongNumbers_0 rfl (lv_at hl 1 rfl) ?_
  refine r_goI (r_runS (rest := []) S hW (mX7_isSheet l D T σ M a1 _ h) w109 rfl hl.1 rfl (Nat.le_of_ble_eq_true rfl) dX7_wrongNumbers_1 ⟨Nat.zero_le _, Nat.zero_le _⟩) hW (fun r1 M2 H locs h hW => ?_)
  refine lv_if_ne (tgt := 9) S.1 S.2.1 dX7_wrongNumbers_4 (by decide) (fun c3 => ?_) (fun c3 => ?_)
  · have h := h.1 c3
    refine lv_aload_n S.1 S.2.1 dX7_wrongNumbers_9 rfl (lv_at hl 0 rfl) ?_
    refine r_getR (j := 2) S hW inX7 rfl f13 rfl LM_0 (by decide) rfl dX7_wrongNumbers_10 ?_
    refine lv_iload_n S.1 S.2.1 dX7_wrongNumbers_13 rfl (lv_at hl 1 rfl) ?_
    have b4 := h.1
    have h := h.2
    refine r_iald S hW LM_2 b4 dX7_wrongNumbers_14 ?_
    refine lv_iconst (v := -1) S.1 S.2.1 dX7_wrongNumbers_15 rfl ?_
    refine lv_icmp_ne (tgt := 21) S.1 S.2.1 dX7_wrongNumbers_16 (by decide) (fun c5 => ?_) (fun c5 => ?_)
    · have h := h.1 c5
      refine lv_aload_n S.1 S.2.1 dX7_wrongNumbers_21 rfl (lv_at hl 0 rfl) ?_
      refine r_getR (j := 2) S hW inX7 rfl f13 rfl LM_0 (by decide) rfl dX7_wrongNumbers_22 ?_
      refine lv_iload_n S.1 S.2.1 dX7_wrongNumbers_25 rfl (lv_at hl 1 rfl) ?_
      have b6 := h.1
      have h := h.2
      refine r_iald S hW LM_2 b6 dX7_wrongNumbers_26 ?_
      refine lv_iload_n S.1 S.2.1 dX7_wrongNumbers_27 rfl (lv_at hl 2 rfl) ?_
      refine lv_icmp_ge (tgt := 33) S.1 S.2.1 dX7_wrongNumbers_28 (by decide) (fun c7 => ?_) (fun c7 => ?_)
      · have h := h.1 c7
        refine lv_iconst (v := 0) S.1 S.2.1 dX7_wrongNumbers_33 rfl ?_
        refine lv_istore (lv' := [(5, .int (0 : Int32)), (0, .ref (σ 0)), (1, .int a1), (2, .int a2), (3, .long a3)]) S.1 S.2.1 dX7_wrongNumbers_34 hl (by decide) rfl (fun ls hl => ?_)
        exact (e36 _ _).mp h H locs ls hW (lv_sub hl [1, 2, 3, 4, 0] rfl)
      · have h := h.2 c7
        refine lv_iconst (v := 3) S.1 S.2.1 dX7_wrongNumbers_31 rfl ?_
        exact r_iret S hr hlk hW h dX7_wrongNumbers_32
    · have h := h.2 c5
      refine lv_iconst (v := 2) S.1 S.2.1 dX7_wrongNumbers_19 rfl ?_
      exact r_iret S hr hlk hW h dX7_wrongNumbers_20
  · have h := h.2 c3
    refine lv_iconst (v := 1) S.1 S.2.1 dX7_wrongNumbers_7 rfl ?_
    exact r_iret S hr hlk hW h dX7_wrongNumbers_8
abbrev rmX7_machine : Room := { frames := 1, cells := 0, slots := 0, locals := 21 }
set_option maxHeartbeats 4000000 in
set_option maxRecDepth 100000 in
theorem mX7_machine (l : Launch) (D : va_G) (T : Nat → ClassId) (σ : Nat → Nat) (M : Mem) (a1 : Int32) (a2 : Int32) (post : Int32 → Mem → Prop) (h : qX7_machine a1 a2 M post) : Met l yX7_machine wsX7_machine rmX7_machine (preW D T LM σ [.ref (σ 0), .int a1, .int a2] M) (postI D T LM σ post) 0 0 (fA LM σ) := by
  refine m_of (cc := cX7_machine) (maxL := 3) (ret := (some .int)) (own := RX7) (by decide) rfl rfl (Nat.le_of_ble_eq_true rfl) ?_
  intro p e s m args below meth c H ls locs S hr hlk hl hW
  have hl : lv_has ls 3 [(0, .ref (σ 0)), (1, .int a1), (2, .int a2)] := hl
  have w126 := cwV (R := rmX7_machine) (rm := rmX7_refuse) (mc := 0) (ms := 0) 1 S.2.2.2.2 gX7_machine_X7_refuse rfl rfl rfl (by decide +kernel) ⟨Nat.le_of_ble_eq_true rfl, Nat.le_of_ble_eq_true rfl⟩
  have inX7 : ∀ w ∈ u_ws RX7 TX7 42, w ∈ wsX7_machine := by decide +kernel
  have f130 := S.2.2.2.2 (.fieldLink RX7 130 "MachineHallModel" "machines" "I") (by decide +kernel)
  have f20 := S.2.2.2.2 (.fieldLink RX7 20 "MachineHallModel" "size" "[I") (by decide +kernel)
  have f23 := S.2.2.2.2 (.fieldLink RX7 23 "MachineHallModel" "room" "[I") (by decide +kernel)
  have f26 := S.2.2.2.2 (.fieldLink RX7 26 "MachineHallModel" "isUp" "[Z") (by decide +kernel)
  have f105 := S.2.2.2.2 (.fieldLink RX7 105 "MachineHallModel" "status" "I") (by decide +kernel)
  refine lv_iload_n S.1 S.2.1 dX7_machine_0 rfl (lv_at hl 1 rfl) ?_
  refine lv_iconst (v := 1) S.1 S.2.1 dX7_machine_1 rfl ?_
  refine lv_icmp_lt (tgt := 20) S.1 S.2.1 dX7_machine_2 (by decide) (fun c1 => ?_) (fun c1 => ?_)
  · have h := h.1 c1
    refine lv_aload_n S.1 S.2.1 dX7_machine_20 rfl (lv_at hl 0 rfl) ?_
    refine lv_iconst (v := 1) S.1 S.2.1 dX7_machine_21 rfl ?_
    refine r_goI (r_runV (rest := []) S hW (mX7_refuse l D T σ M (1 : Int32) _ h) w126 rfl LM_0 rfl hl.1 rfl (Nat.le_of_ble_eq_true rfl) dX7_machine_22 ⟨Nat.zero_le _, Nat.zero_le _⟩) hW (fun r2 M3 H locs h hW => ?_)
    exact r_iret S hr hlk hW h dX7_machine_25
  · have h := h.2 c1
    refine lv_iload_n S.1 S.2.1 dX7_machine_5 rfl (lv_at hl 1 rfl) ?_
    refine lv_bipush (v := 100) S.1 S.2.1 dX7_machine_6 rfl ?_
    refine lv_icmp_gt (tgt := 20) S.1 S.2.1 dX7_machine_8 (by decide) (fun c4 => ?_) (fun c4 => ?_)
    · have h := h.1 c4
      refine lv_aload_n S.1 S.2.1 dX7_machine_20 rfl (lv_at hl 0 rfl) ?_
      refine lv_iconst (v := 1) S.1 S.2.1 dX7_machine_21 rfl ?_
      refine r_goI (r_runV (rest := []) S hW (mX7_refuse l D T σ M (1 : Int32) _ h) w126 rfl LM_0 rfl hl.1 rfl (Nat.le_of_ble_eq_true rfl) dX7_machine_22 ⟨Nat.zero_le _, Nat.zero_le _⟩) hW (fun r5 M6 H locs h hW => ?_)
      exact r_iret S hr hlk hW h dX7_machine_25
    · have h := h.2 c4
      refine lv_iload_n S.1 S.2.1 dX7_machine_11 rfl (lv_at hl 2 rfl) ?_
      refine lv_if_lt (tgt := 20) S.1 S.2.1 dX7_machine_12 (by decide) (fun c7 => ?_) (fun c7 => ?_)
      · have h := h.1 c7
        refine lv_aload_n S.1 S.2.1 dX7_machine_20 rfl (lv_at hl 0 rfl) ?_
        refine lv_iconst (v := 1) S.1 S.2.1 dX7_machine_21 rfl ?_
        refine r_goI (r_runV (rest := []) S hW (mX7_refuse l D T σ M (1 : Int32) _ h) w126 rfl LM_0 rfl hl.1 rfl (Nat.le_of_ble_eq_true rfl) dX7_machine_22 ⟨Nat.zero_le _, Nat.zero_le _⟩) hW (fun r8 M9 H locs h hW => ?_)
        exact r_iret S hr hlk hW h dX7_machine_25
      · have h := h.2 c7
        refine lv_iload_n S.1 S.2.1 dX7_machine_15 rfl (lv_at hl 2 rfl) ?_
        refine lv_iconst (v := 3) S.1 S.2.1 dX7_machine_16 rfl ?_
        refine lv_icmp_le (tgt := 26) S.1 S.2.1 dX7_machine_17 (by decide) (fun c10 => ?_) (fun c10 => ?_)
        · have h := h.1 c10
          refine lv_aload_n S.1 S.2.1 dX7_machine_26 rfl (lv_at hl 0 rfl) ?_
          refine r_getI (j := 4) S hW inX7 rfl f130 rfl LM_0 (by decide) rfl dX7_machine_27 ?_
          refine lv_bipush (v := 12) S.1 S.2.1 dX7_machine_30 rfl ?_
          refine lv_icmp_ne (tgt := 41) S.1 S.2.1 dX7_machine_32 (by decide) (fun c11 => ?_) (fun c11 => ?_)
          · have h := h.1 c11
            refine lv_aload_n S.1 S.2.1 dX7_machine_41 rfl (lv_at hl 0 rfl) ?_
            refine r_getR (j := 8) S hW inX7 rfl f20 rfl LM_0 (by decide) rfl dX7_machine_42 ?_
            refine lv_aload_n S.1 S.2.1 dX7_machine_45 rfl (lv_at hl 0 rfl) ?_
            refine r_getI (j := 4) S hW inX7 rfl f130 rfl LM_0 (by decide) rfl dX7_machine_46 ?_
            refine lv_iload_n S.1 S.2.1 dX7_machine_49 rfl (lv_at hl 1 rfl) ?_
            have b12 := h.1
            have h := h.2
            refine r_iast S hW LM_4 b12 dX7_machine_50 (fun M13 H locs eM13 hW => ?_)
            have h := h M13 eM13
            refine lv_aload_n S.1 S.2.1 dX7_machine_51 rfl (lv_at hl 0 rfl) ?_
            refine r_getR (j := 9) S hW inX7 rfl f23 rfl LM_0 (by decide) rfl dX7_machine_52 ?_
            refine lv_aload_n S.1 S.2.1 dX7_machine_55 rfl (lv_at hl 0 rfl) ?_
            refine r_getI (j := 4) S hW inX7 rfl f130 rfl LM_0 (by decide) rfl dX7_machine_56 ?_
            refine lv_iload_n S.1 S.2.1 dX7_machine_59 rfl (lv_at hl 2 rfl) ?_
            have b14 := h.1
            have h := h.2
            refine r_iast S hW LM_5 b14 dX7_machine_60 (fun M15 H locs eM15 hW => ?_)
            have h := h M15 eM15
            refine lv_aload_n S.1 S.2.1 dX7_machine_61 rfl (lv_at hl 0 rfl) ?_
            refine r_getR (j := 10) S hW inX7 rfl f26 rfl LM_0 (by decide) rfl dX7_machine_62 ?_
            refine lv_aload_n S.1 S.2.1 dX7_machine_65 rfl (lv_at hl 0 rfl) ?_
            refine r_getI (j := 4) S hW inX7 rfl f130 rfl LM_0 (by decide) rfl dX7_machine_66 ?_
            refine lv_iconst (v := 1) S.1 S.2.1 dX7_machine_69 rfl ?_
            have b16 := h.1
            have h := h.2
            refine r_zast S hW LM_6 b16 dX7_machine_70 (fun M17 H locs eM17 hW => ?_)
            have h := h M17 eM17
            refine lv_aload_n S.1 S.2.1 dX7_machine_71 rfl (lv_at hl 0 rfl) ?_
            refine lv_dup S.1 S.2.1 dX7_machine_72 rfl ?_
            refine r_getI (j := 4) S hW inX7 rfl f130 rfl LM_0 (by decide) rfl dX7_machine_73 ?_
            refine lv_iconst (v := 1) S.1 S.2.1 dX7_machine_76 rfl ?_
            refine lv_iadd S.1 S.2.1 dX7_machine_77 ?_
            refine r_putI (j := 4) S hW inX7 rfl f130 rfl LM_0 (by decide) rfl tyX7 tyX7_ok nmX7 rfl rfl rfl dX7_machine_78 (fun M18 H locs eM18 hW => ?_)
            have h := h M18 eM18
            refine lv_aload_n S.1 S.2.1 dX7_machine_81 rfl (lv_at hl 0 rfl) ?_
            refine lv_iconst (v := 0) S.1 S.2.1 dX7_machine_82 rfl ?_
            refine r_putI (j := 0) S hW inX7 rfl f105 rfl LM_0 (by decide) rfl tyX7 tyX7_ok nmX7 rfl rfl rfl dX7_machine_83 (fun M19 H locs eM19 hW => ?_)
            have h := h M19 eM19
            refine lv_aload_n S.1 S.2.1 dX7_machine_86 rfl (lv_at hl 0 rfl) ?_
            refine r_getI (j := 4) S hW inX7 rfl f130 rfl LM_0 (by decide) rfl dX7_machine_87 ?_
            refine lv_iconst (v := 1) S.1 S.2.1 dX7_machine_90 rfl ?_
            refine lv_isub S.1 S.2.1 dX7_machine_91 ?_
            exact r_iret S hr hlk hW h dX7_machine_92
          · have h := h.2 c11
            refine lv_aload_n S.1 S.2.1 dX7_machine_35 rfl (lv_at hl 0 rfl) ?_
            refine lv_iconst (v := 4) S.1 S.2.1 dX7_machine_36 rfl ?_
            refine r_goI (r_runV (rest := []) S hW (mX7_refuse l D T σ M (4 : Int32) _ h) w126 rfl LM_0 rfl hl.1 rfl (Nat.le_of_ble_eq_true rfl) dX7_machine_37 ⟨Nat.zero_le _, Nat.zero_le _⟩) hW (fun r20 M21 H locs h hW => ?_)
            exact r_iret S hr hlk hW h dX7_machine_40
        · have h := h.2 c10
          refine lv_aload_n S.1 S.2.1 dX7_machine_20 rfl (lv_at hl 0 rfl) ?_
          refine lv_iconst (v := 1) S.1 S.2.1 dX7_machine_21 rfl ?_
          refine r_goI (r_runV (rest := []) S hW (mX7_refuse l D T σ M (1 : Int32) _ h) w126 rfl LM_0 rfl hl.1 rfl (Nat.le_of_ble_eq_true rfl) dX7_machine_22 ⟨Nat.zero_le _, Nat.zero_le _⟩) hW (fun r22 M23 H locs h hW => ?_)
          exact r_iret S hr hlk hW h dX7_machine_25
abbrev rmX7_up : Room := { frames := 1, cells := 0, slots := 0, locals := 21 }
set_option maxHeartbeats 4000000 in
set_option maxRecDepth 100000 in
theorem mX7_up (l : Launch) (D : va_G) (T : Nat → ClassId) (σ : Nat → Nat) (M : Mem) (a1 : Int32) (a2 : Int32) (post : Int32 → Mem → Prop) (h : qX7_up a1 a2 M post) : Met l yX7_up wsX7_up rmX7_up (preW D T LM σ [.ref (σ 0), .int a1, .int a2] M) (postI D T LM σ post) 0 0 (fA LM σ) := by
  refine m_of (cc := cX7_up) (maxL := 3) (ret := (some .boolean)) (own := RX7) (by decide) rfl rfl (Nat.le_of_ble_eq_true rfl) ?_
  intro p e s m args below meth c H ls locs S hr hlk hl hW
  have hl : lv_has ls 3 [(0, .ref (σ 0)), (1, .int a1), (2, .int a2)] := hl
  have w113 := cwV (R := rmX7_up) (rm := rmX7_is) (mc := 0) (ms := 0) 1 S.2.2.2.2 gX7_up_X7_is rfl rfl rfl (by decide +kernel) ⟨Nat.le_of_ble_eq_true rfl, Nat.le_of_ble_eq_true rfl⟩
  have inX7 : ∀ w ∈ u_ws RX7 TX7 42, w ∈ wsX7_up := by decide +kernel
  have f130 := S.2.2.2.2 (.fieldLink RX7 130 "MachineHallModel" "machines" "I") (by decide +kernel)
  have f26 := S.2.2.2.2 (.fieldLink RX7 26 "MachineHallModel" "isUp" "[Z") (by decide +kernel)
  refine lv_iload_n S.1 S.2.1 dX7_up_0 rfl (lv_at hl 1 rfl) ?_
  refine lv_if_lt (tgt := 12) S.1 S.2.1 dX7_up_1 (by decide) (fun c1 => ?_) (fun c1 => ?_)
  · have h := h.1 c1
    refine lv_aload_n S.1 S.2.1 dX7_up_12 rfl (lv_at hl 0 rfl) ?_
    refine lv_iconst (v := 1) S.1 S.2.1 dX7_up_13 rfl ?_
    refine r_goI (r_runV (rest := []) S hW (mX7_is l D T σ M (1 : Int32) _ h) w113 rfl LM_0 rfl hl.1 rfl (Nat.le_of_ble_eq_true rfl) dX7_up_14 ⟨Nat.zero_le _, Nat.zero_le _⟩) hW (fun r2 M3 H locs h hW => ?_)
    exact r_zret S hr hlk hW h.1 h.2 dX7_up_17
  · have h := h.2 c1
    refine lv_iload_n S.1 S.2.1 dX7_up_4 rfl (lv_at hl 1 rfl) ?_
    refine lv_aload_n S.1 S.2.1 dX7_up_5 rfl (lv_at hl 0 rfl) ?_
    refine r_getI (j := 4) S hW inX7 rfl f130 rfl LM_0 (by decide) rfl dX7_up_6 ?_
    refine lv_icmp_lt (tgt := 18) S.1 S.2.1 dX7_up_9 (by decide) (fun c4 => ?_) (fun c4 => ?_)
    · have h := h.1 c4
      refine lv_aload_n S.1 S.2.1 dX7_up_18 rfl (lv_at hl 0 rfl) ?_
      refine r_getR (j := 10) S hW inX7 rfl f26 rfl LM_0 (by decide) rfl dX7_up_19 ?_
      refine lv_iload_n S.1 S.2.1 dX7_up_22 rfl (lv_at hl 1 rfl) ?_
      have b5 := h.1
      have h := h.2
      refine r_zald S hW LM_6 b5 dX7_up_23 ?_
      refine lv_iload_n S.1 S.2.1 dX7_up_24 rfl (lv_at hl 2 rfl) ?_
      refine lv_icmp_ne (tgt := 34) S.1 S.2.1 dX7_up_25 (by decide) (fun c6 => ?_) (fun c6 => ?_)
      · have h := h.1 c6
        refine lv_aload_n S.1 S.2.1 dX7_up_34 rfl (lv_at hl 0 rfl) ?_
        refine r_getR (j := 10) S hW inX7 rfl f26 rfl LM_0 (by decide) rfl dX7_up_35 ?_
        refine lv_iload_n S.1 S.2.1 dX7_up_38 rfl (lv_at hl 1 rfl) ?_
        refine lv_iload_n S.1 S.2.1 dX7_up_39 rfl (lv_at hl 2 rfl) ?_
        have b7 := h.1
        have h := h.2
        refine r_zast S hW LM_6 b7 dX7_up_40 (fun M8 H locs eM8 hW => ?_)
        have h := h M8 eM8
        refine lv_aload_n S.1 S.2.1 dX7_up_41 rfl (lv_at hl 0 rfl) ?_
        refine lv_iconst (v := 0) S.1 S.2.1 dX7_up_42 rfl ?_
        refine r_goI (r_runV (rest := []) S hW (mX7_is l D T σ M8 (0 : Int32) _ h) w113 rfl LM_0 rfl hl.1 rfl (Nat.le_of_ble_eq_true rfl) dX7_up_43 ⟨Nat.zero_le _, Nat.zero_le _⟩) hW (fun r9 M10 H locs h hW => ?_)
        exact r_zret S hr hlk hW h.1 h.2 dX7_up_46
      · have h := h.2 c6
        refine lv_aload_n S.1 S.2.1 dX7_up_28 rfl (lv_at hl 0 rfl) ?_
        refine lv_iconst (v := 5) S.1 S.2.1 dX7_up_29 rfl ?_
        refine r_goI (r_runV (rest := []) S hW (mX7_is l D T σ M (5 : Int32) _ h) w113 rfl LM_0 rfl hl.1 rfl (Nat.le_of_ble_eq_true rfl) dX7_up_30 ⟨Nat.zero_le _, Nat.zero_le _⟩) hW (fun r11 M12 H locs h hW => ?_)
        exact r_zret S hr hlk hW h.1 h.2 dX7_up_33
    · have h := h.2 c4
      refine lv_aload_n S.1 S.2.1 dX7_up_12 rfl (lv_at hl 0 rfl) ?_
      refine lv_iconst (v := 1) S.1 S.2.1 dX7_up_13 rfl ?_
      refine r_goI (r_runV (rest := []) S hW (mX7_is l D T σ M (1 : Int32) _ h) w113 rfl LM_0 rfl hl.1 rfl (Nat.le_of_ble_eq_true rfl) dX7_up_14 ⟨Nat.zero_le _, Nat.zero_le _⟩) hW (fun r13 M14 H locs h hW => ?_)
      exact r_zret S hr hlk hW h.1 h.2 dX7_up_17
abbrev rmX7_isAsk : Room := { frames := 0, cells := 0, slots := 0, locals := 0 }
set_option maxHeartbeats 4000000 in
set_option maxRecDepth 100000 in
theorem mX7_isAsk (l : Launch) (D : va_G) (T : Nat → ClassId) (σ : Nat → Nat) (M : Mem) (a1 : Int32) (post : Int32 → Mem → Prop) (h : qX7_isAsk a1 M post) : Met l yX7_isAsk wsX7_isAsk rmX7_isAsk (preW D T LM σ [.ref (σ 0), .int a1] M) (postI D T LM σ post) 0 0 (fA LM σ) := by
  refine m_of (cc := cX7_isAsk) (maxL := 2) (ret := (some .boolean)) (own := RX7) (by decide) rfl rfl (Nat.le_of_ble_eq_true rfl) ?_
  intro p e s m args below meth c H ls locs S hr hlk hl hW
  have hl : lv_has ls 2 [(0, .ref (σ 0)), (1, .int a1)] := hl
  have inX7 : ∀ w ∈ u_ws RX7 TX7 42, w ∈ wsX7_isAsk := by decide +kernel
  have f133 := S.2.2.2.2 (.fieldLink RX7 133 "MachineHallModel" "asks" "I") (by decide +kernel)
  refine lv_iload_n S.1 S.2.1 dX7_isAsk_0 rfl (lv_at hl 1 rfl) ?_
  refine lv_if_lt (tgt := 16) S.1 S.2.1 dX7_isAsk_1 (by decide) (fun c1 => ?_) (fun c1 => ?_)
  · have h := h.1 c1
    refine lv_iconst (v := 0) S.1 S.2.1 dX7_isAsk_16 rfl ?_
    exact r_zret S hr hlk hW rfl h dX7_isAsk_17
  · have h := h.2 c1
    refine lv_iload_n S.1 S.2.1 dX7_isAsk_4 rfl (lv_at hl 1 rfl) ?_
    refine lv_aload_n S.1 S.2.1 dX7_isAsk_5 rfl (lv_at hl 0 rfl) ?_
    refine r_getI (j := 5) S hW inX7 rfl f133 rfl LM_0 (by decide) rfl dX7_isAsk_6 ?_
    refine lv_icmp_ge (tgt := 16) S.1 S.2.1 dX7_isAsk_9 (by decide) (fun c2 => ?_) (fun c2 => ?_)
    · have h := h.1 c2
      refine lv_iconst (v := 0) S.1 S.2.1 dX7_isAsk_16 rfl ?_
      exact r_zret S hr hlk hW rfl h dX7_isAsk_17
    · have h := h.2 c2
      refine lv_iconst (v := 1) S.1 S.2.1 dX7_isAsk_12 rfl ?_
      refine lv_goto (tgt := 17) S.1 S.2.1 dX7_isAsk_13 (by decide) ?_
      exact r_zret S hr hlk hW rfl h dX7_isAsk_17
abbrev rmX7_ask : Room := { frames := 1, cells := 0, slots := 0, locals := 21 }
set_option maxHeartbeats 4000000 in
set_option maxRecDepth 100000 in
theorem mX7_ask (l : Launch) (D : va_G) (T : Nat → ClassId) (σ : Nat → Nat) (M : Mem) (a1 : Int32) (a2 : Int32) (a3 : Int32) (post : Int32 → Mem → Prop) (h : qX7_ask a1 a2 a3 M post) : Met l yX7_ask wsX7_ask rmX7_ask (preW D T LM σ [.ref (σ 0), .int a1, .int a2, .int a3] M) (postI D T LM σ post) 0 0 (fA LM σ) := by
  refine m_of (cc := cX7_ask) (maxL := 4) (ret := (some .int)) (own := RX7) (by decide) rfl rfl (Nat.le_of_ble_eq_true rfl) ?_
  intro p e s m args below meth c H ls locs S hr hlk hl hW
  have hl : lv_has ls 4 [(0, .ref (σ 0)), (1, .int a1), (2, .int a2), (3, .int a3)] := hl
  have inX7 : ∀ w ∈ u_ws RX7 TX7 42, w ∈ wsX7_ask := by decide +kernel
  have f133 := S.2.2.2.2 (.fieldLink RX7 133 "MachineHallModel" "asks" "I") (by decide +kernel)
  have f30 := S.2.2.2.2 (.fieldLink RX7 30 "MachineHallModel" "need" "[I") (by decide +kernel)
  have f33 := S.2.2.2.2 (.fieldLink RX7 33 "MachineHallModel" "first" "[I") (by decide +kernel)
  have f36 := S.2.2.2.2 (.fieldLink RX7 36 "MachineHallModel" "last" "[I") (by decide +kernel)
  have f39 := S.2.2.2.2 (.fieldLink RX7 39 "MachineHallModel" "apart" "[I") (by decide +kernel)
  have f105 := S.2.2.2.2 (.fieldLink RX7 105 "MachineHallModel" "status" "I") (by decide +kernel)
  have w126 := cwV (R := rmX7_ask) (rm := rmX7_refuse) (mc := 0) (ms := 0) 1 S.2.2.2.2 gX7_ask_X7_refuse rfl rfl rfl (by decide +kernel) ⟨Nat.le_of_ble_eq_true rfl, Nat.le_of_ble_eq_true rfl⟩
  obtain ⟨R26, e26⟩ : ∃ R : Mem → Prop, ∀ M, R M ↔ WW p l e rmX7_ask s m args below meth c D T LM σ 4 (MQ below (postI D T LM σ post) args s 0 0 (fA LM σ)) 26 [(0, .ref (σ 0))] [] M := ⟨_, fun _ => Iff.rfl⟩
  have h := h R26
  have z26 : ∀ M, qX7_ask_b26 a1 a2 a3 post R26 M → R26 M := by
    intro M h
    refine (e26 _).mpr (fun H locs ls hW hl => ?_)
    refine lv_aload_n S.1 S.2.1 dX7_ask_26 rfl (lv_at hl 0 rfl) ?_
    refine lv_iconst (v := 1) S.1 S.2.1 dX7_ask_27 rfl ?_
    refine r_goI (r_runV (rest := []) S hW (mX7_refuse l D T σ M (1 : Int32) _ h) w126 rfl LM_0 rfl hl.1 rfl (Nat.le_of_ble_eq_true rfl) dX7_ask_28 ⟨Nat.zero_le _, Nat.zero_le _⟩) hW (fun r19 M20 H locs h hW => ?_)
    exact r_iret S hr hlk hW h dX7_ask_31
  have h := h z26
  refine lv_iload_n S.1 S.2.1 dX7_ask_0 rfl (lv_at hl 1 rfl) ?_
  refine lv_iconst (v := 1) S.1 S.2.1 dX7_ask_1 rfl ?_
  refine lv_icmp_lt (tgt := 26) S.1 S.2.1 dX7_ask_2 (by decide) (fun c1 => ?_) (fun c1 => ?_)
  · have h := h.1 c1
    exact (e26  _).mp h H locs ls hW (lv_sub hl [0] rfl)
  · have h := h.2 c1
    refine lv_iload_n S.1 S.2.1 dX7_ask_5 rfl (lv_at hl 1 rfl) ?_
    refine lv_bipush (v := 100) S.1 S.2.1 dX7_ask_6 rfl ?_
    refine lv_icmp_gt (tgt := 26) S.1 S.2.1 dX7_ask_8 (by decide) (fun c2 => ?_) (fun c2 => ?_)
    · have h := h.1 c2
      exact (e26  _).mp h H locs ls hW (lv_sub hl [0] rfl)
    · have h := h.2 c2
      refine lv_iload_n S.1 S.2.1 dX7_ask_11 rfl (lv_at hl 2 rfl) ?_
      refine lv_if_lt (tgt := 26) S.1 S.2.1 dX7_ask_12 (by decide) (fun c3 => ?_) (fun c3 => ?_)
      · have h := h.1 c3
        exact (e26  _).mp h H locs ls hW (lv_sub hl [0] rfl)
      · have h := h.2 c3
        refine lv_iload_n S.1 S.2.1 dX7_ask_15 rfl (lv_at hl 3 rfl) ?_
        refine lv_bipush (v := 24) S.1 S.2.1 dX7_ask_16 rfl ?_
        refine lv_icmp_ge (tgt := 26) S.1 S.2.1 dX7_ask_18 (by decide) (fun c4 => ?_) (fun c4 => ?_)
        · have h := h.1 c4
          exact (e26  _).mp h H locs ls hW (lv_sub hl [0] rfl)
        · have h := h.2 c4
          refine lv_iload_n S.1 S.2.1 dX7_ask_21 rfl (lv_at hl 2 rfl) ?_
          refine lv_iload_n S.1 S.2.1 dX7_ask_22 rfl (lv_at hl 3 rfl) ?_
          refine lv_icmp_le (tgt := 32) S.1 S.2.1 dX7_ask_23 (by decide) (fun c5 => ?_) (fun c5 => ?_)
          · have h := h.1 c5
            refine lv_aload_n S.1 S.2.1 dX7_ask_32 rfl (lv_at hl 0 rfl) ?_
            refine r_getI (j := 5) S hW inX7 rfl f133 rfl LM_0 (by decide) rfl dX7_ask_33 ?_
            refine lv_bipush (v := 10) S.1 S.2.1 dX7_ask_36 rfl ?_
            refine lv_icmp_ne (tgt := 47) S.1 S.2.1 dX7_ask_38 (by decide) (fun c6 => ?_) (fun c6 => ?_)
            · have h := h.1 c6
              refine lv_aload_n S.1 S.2.1 dX7_ask_47 rfl (lv_at hl 0 rfl) ?_
              refine r_getR (j := 11) S hW inX7 rfl f30 rfl LM_0 (by decide) rfl dX7_ask_48 ?_
              refine lv_aload_n S.1 S.2.1 dX7_ask_51 rfl (lv_at hl 0 rfl) ?_
              refine r_getI (j := 5) S hW inX7 rfl f133 rfl LM_0 (by decide) rfl dX7_ask_52 ?_
              refine lv_iload_n S.1 S.2.1 dX7_ask_55 rfl (lv_at hl 1 rfl) ?_
              have b7 := h.1
              have h := h.2
              refine r_iast S hW LM_7 b7 dX7_ask_56 (fun M8 H locs eM8 hW => ?_)
              have h := h M8 eM8
              refine lv_aload_n S.1 S.2.1 dX7_ask_57 rfl (lv_at hl 0 rfl) ?_
              refine r_getR (j := 12) S hW inX7 rfl f33 rfl LM_0 (by decide) rfl dX7_ask_58 ?_
              refine lv_aload_n S.1 S.2.1 dX7_ask_61 rfl (lv_at hl 0 rfl) ?_
              refine r_getI (j := 5) S hW inX7 rfl f133 rfl LM_0 (by decide) rfl dX7_ask_62 ?_
              refine lv_iload_n S.1 S.2.1 dX7_ask_65 rfl (lv_at hl 2 rfl) ?_
              have b9 := h.1
              have h := h.2
              refine r_iast S hW LM_8 b9 dX7_ask_66 (fun M10 H locs eM10 hW => ?_)
              have h := h M10 eM10
              refine lv_aload_n S.1 S.2.1 dX7_ask_67 rfl (lv_at hl 0 rfl) ?_
              refine r_getR (j := 13) S hW inX7 rfl f36 rfl LM_0 (by decide) rfl dX7_ask_68 ?_
              refine lv_aload_n S.1 S.2.1 dX7_ask_71 rfl (lv_at hl 0 rfl) ?_
              refine r_getI (j := 5) S hW inX7 rfl f133 rfl LM_0 (by decide) rfl dX7_ask_72 ?_
              refine lv_iload_n S.1 S.2.1 dX7_ask_75 rfl (lv_at hl 3 rfl) ?_
              have b11 := h.1
              have h := h.2
              refine r_iast S hW LM_9 b11 dX7_ask_76 (fun M12 H locs eM12 hW => ?_)
              have h := h M12 eM12
              refine lv_aload_n S.1 S.2.1 dX7_ask_77 rfl (lv_at hl 0 rfl) ?_
              refine r_getR (j := 14) S hW inX7 rfl f39 rfl LM_0 (by decide) rfl dX7_ask_78 ?_
              refine lv_aload_n S.1 S.2.1 dX7_ask_81 rfl (lv_at hl 0 rfl) ?_
              refine r_getI (j := 5) S hW inX7 rfl f133 rfl LM_0 (by decide) rfl dX7_ask_82 ?_
              refine lv_iconst (v := 0) S.1 S.2.1 dX7_ask_85 rfl ?_
              have b13 := h.1
              have h := h.2
              refine r_iast S hW LM_10 b13 dX7_ask_86 (fun M14 H locs eM14 hW => ?_)
              have h := h M14 eM14
              refine lv_aload_n S.1 S.2.1 dX7_ask_87 rfl (lv_at hl 0 rfl) ?_
              refine lv_dup S.1 S.2.1 dX7_ask_88 rfl ?_
              refine r_getI (j := 5) S hW inX7 rfl f133 rfl LM_0 (by decide) rfl dX7_ask_89 ?_
              refine lv_iconst (v := 1) S.1 S.2.1 dX7_ask_92 rfl ?_
              refine lv_iadd S.1 S.2.1 dX7_ask_93 ?_
              refine r_putI (j := 5) S hW inX7 rfl f133 rfl LM_0 (by decide) rfl tyX7 tyX7_ok nmX7 rfl rfl rfl dX7_ask_94 (fun M15 H locs eM15 hW => ?_)
              have h := h M15 eM15
              refine lv_aload_n S.1 S.2.1 dX7_ask_97 rfl (lv_at hl 0 rfl) ?_
              refine lv_iconst (v := 0) S.1 S.2.1 dX7_ask_98 rfl ?_
              refine r_putI (j := 0) S hW inX7 rfl f105 rfl LM_0 (by decide) rfl tyX7 tyX7_ok nmX7 rfl rfl rfl dX7_ask_99 (fun M16 H locs eM16 hW => ?_)
              have h := h M16 eM16
              refine lv_aload_n S.1 S.2.1 dX7_ask_102 rfl (lv_at hl 0 rfl) ?_
              refine r_getI (j := 5) S hW inX7 rfl f133 rfl LM_0 (by decide) rfl dX7_ask_103 ?_
              refine lv_iconst (v := 1) S.1 S.2.1 dX7_ask_106 rfl ?_
              refine lv_isub S.1 S.2.1 dX7_ask_107 ?_
              exact r_iret S hr hlk hW h dX7_ask_108
            · have h := h.2 c6
              refine lv_aload_n S.1 S.2.1 dX7_ask_41 rfl (lv_at hl 0 rfl) ?_
              refine lv_iconst (v := 4) S.1 S.2.1 dX7_ask_42 rfl ?_
              refine r_goI (r_runV (rest := []) S hW (mX7_refuse l D T σ M (4 : Int32) _ h) w126 rfl LM_0 rfl hl.1 rfl (Nat.le_of_ble_eq_true rfl) dX7_ask_43 ⟨Nat.zero_le _, Nat.zero_le _⟩) hW (fun r17 M18 H locs h hW => ?_)
              exact r_iret S hr hlk hW h dX7_ask_46
          · have h := h.2 c5
            exact (e26  _).mp h H locs ls hW (lv_sub hl [0] rfl)
abbrev rmX7_apart : Room := { frames := 1, cells := 0, slots := 0, locals := 21 }
set_option maxHeartbeats 4000000 in
set_option maxRecDepth 100000 in
theorem mX7_apart (l : Launch) (D : va_G) (T : Nat → ClassId) (σ : Nat → Nat) (M : Mem) (a1 : Int32) (a2 : Int32) (a3 : Int32) (post : Int32 → Mem → Prop) (h : qX7_apart a1 a2 a3 M post) : Met l yX7_apart wsX7_apart rmX7_apart (preW D T LM σ [.ref (σ 0), .int a1, .int a2, .int a3] M) (postI D T LM σ post) 0 0 (fA LM σ) := by
  refine m_of (cc := cX7_apart) (maxL := 4) (ret := (some .boolean)) (own := RX7) (by decide) rfl rfl (Nat.le_of_ble_eq_true rfl) ?_
  intro p e s m args below meth c H ls locs S hr hlk hl hW
  have hl : lv_has ls 4 [(0, .ref (σ 0)), (1, .int a1), (2, .int a2), (3, .int a3)] := hl
  have w136 := cwV (R := rmX7_apart) (rm := rmX7_isAsk) (mc := 0) (ms := 0) 1 S.2.2.2.2 gX7_apart_X7_isAsk rfl rfl rfl (by decide +kernel) ⟨Nat.le_of_ble_eq_true rfl, Nat.le_of_ble_eq_true rfl⟩
  have w113 := cwV (R := rmX7_apart) (rm := rmX7_is) (mc := 0) (ms := 0) 1 S.2.2.2.2 gX7_apart_X7_is rfl rfl rfl (by decide +kernel) ⟨Nat.le_of_ble_eq_true rfl, Nat.le_of_ble_eq_true rfl⟩
  have inX7 : ∀ w ∈ u_ws RX7 TX7 42, w ∈ wsX7_apart := by decide +kernel
  have f39 := S.2.2.2.2 (.fieldLink RX7 39 "MachineHallModel" "apart" "[I") (by decide +kernel)
  obtain ⟨R46, e46⟩ : ∃ R : Int32 → Mem → Prop, ∀ s0 M, R s0 M ↔ WW p l e rmX7_apart s m args below meth c D T LM σ 4 (MQ below (postI D T LM σ post) args s 0 0 (fA LM σ)) 46 [(0, .ref (σ 0)), (1, .int a1), (2, .int a2), (3, .int a3)] [.int s0] M := ⟨_, fun _ _ => Iff.rfl⟩
  have h := h R46
  have z46 : ∀ s0 M, qX7_apart_b46 a1 a2 a3 post R46 s0 M → R46 s0 M := by
    intro s0 M h
    refine (e46 _ _).mpr (fun H locs ls hW hl => ?_)
    refine lv_iload_n S.1 S.2.1 dX7_apart_46 rfl (lv_at hl 3 rfl) ?_
    refine lv_icmp_ne (tgt := 56) S.1 S.2.1 dX7_apart_47 (by decide) (fun c16 => ?_) (fun c16 => ?_)
    · have h := h.1 c16
      refine lv_aload_n S.1 S.2.1 dX7_apart_56 rfl (lv_at hl 0 rfl) ?_
      refine r_getR (j := 14) S hW inX7 rfl f39 rfl LM_0 (by decide) rfl dX7_apart_57 ?_
      refine lv_iload_n S.1 S.2.1 dX7_apart_60 rfl (lv_at hl 1 rfl) ?_
      refine lv_dup2_11 S.1 S.2.1 dX7_apart_61 rfl rfl ?_
      have b17 := h.1
      have h := h.2
      refine r_iald S hW LM_10 b17 dX7_apart_62 ?_
      refine lv_iconst (v := 1) S.1 S.2.1 dX7_apart_63 rfl ?_
      refine lv_iload_n S.1 S.2.1 dX7_apart_64 rfl (lv_at hl 2 rfl) ?_
      refine lv_ishl S.1 S.2.1 dX7_apart_65 ?_
      refine lv_ixor S.1 S.2.1 dX7_apart_66 ?_
      have b18 := h.1
      have h := h.2
      refine r_iast S hW LM_10 b18 dX7_apart_67 (fun M19 H locs eM19 hW => ?_)
      have h := h M19 eM19
      refine lv_aload_n S.1 S.2.1 dX7_apart_68 rfl (lv_at hl 0 rfl) ?_
      refine r_getR (j := 14) S hW inX7 rfl f39 rfl LM_0 (by decide) rfl dX7_apart_69 ?_
      refine lv_iload_n S.1 S.2.1 dX7_apart_72 rfl (lv_at hl 2 rfl) ?_
      refine lv_dup2_11 S.1 S.2.1 dX7_apart_73 rfl rfl ?_
      have b20 := h.1
      have h := h.2
      refine r_iald S hW LM_10 b20 dX7_apart_74 ?_
      refine lv_iconst (v := 1) S.1 S.2.1 dX7_apart_75 rfl ?_
      refine lv_iload_n S.1 S.2.1 dX7_apart_76 rfl (lv_at hl 1 rfl) ?_
      refine lv_ishl S.1 S.2.1 dX7_apart_77 ?_
      refine lv_ixor S.1 S.2.1 dX7_apart_78 ?_
      have b21 := h.1
      have h := h.2
      refine r_iast S hW LM_10 b21 dX7_apart_79 (fun M22 H locs eM22 hW => ?_)
      have h := h M22 eM22
      refine lv_aload_n S.1 S.2.1 dX7_apart_80 rfl (lv_at hl 0 rfl) ?_
      refine lv_iconst (v := 0) S.1 S.2.1 dX7_apart_81 rfl ?_
      refine r_goI (r_runV (rest := []) S hW (mX7_is l D T σ M22 (0 : Int32) _ h) w113 rfl LM_0 rfl hl.1 rfl (Nat.le_of_ble_eq_true rfl) dX7_apart_82 ⟨Nat.zero_le _, Nat.zero_le _⟩) hW (fun r23 M24 H locs h hW => ?_)
      exact r_zret S hr hlk hW h.1 h.2 dX7_apart_85
    · have h := h.2 c16
      refine lv_aload_n S.1 S.2.1 dX7_apart_50 rfl (lv_at hl 0 rfl) ?_
      refine lv_iconst (v := 5) S.1 S.2.1 dX7_apart_51 rfl ?_
      refine r_goI (r_runV (rest := []) S hW (mX7_is l D T σ M (5 : Int32) _ h) w113 rfl LM_0 rfl hl.1 rfl (Nat.le_of_ble_eq_true rfl) dX7_apart_52 ⟨Nat.zero_le _, Nat.zero_le _⟩) hW (fun r25 M26 H locs h hW => ?_)
      exact r_zret S hr hlk hW h.1 h.2 dX7_apart_55
  have h := h z46
  refine lv_aload_n S.1 S.2.1 dX7_apart_0 rfl (lv_at hl 0 rfl) ?_
  refine lv_iload_n S.1 S.2.1 dX7_apart_1 rfl (lv_at hl 1 rfl) ?_
  refine r_goI (r_runV (rest := []) S hW (mX7_isAsk l D T σ M a1 _ h) w136 rfl LM_0 rfl hl.1 rfl (Nat.le_of_ble_eq_true rfl) dX7_apart_2 ⟨Nat.zero_le _, Nat.zero_le _⟩) hW (fun r1 M2 H locs h hW => ?_)
  refine lv_if_eq (tgt := 21) S.1 S.2.1 dX7_apart_5 (by decide) (fun c3 => ?_) (fun c3 => ?_)
  · have h := h.1 c3
    refine lv_aload_n S.1 S.2.1 dX7_apart_21 rfl (lv_at hl 0 rfl) ?_
    refine lv_iconst (v := 1) S.1 S.2.1 dX7_apart_22 rfl ?_
    refine r_goI (r_runV (rest := []) S hW (mX7_is l D T σ M2 (1 : Int32) _ h) w113 rfl LM_0 rfl hl.1 rfl (Nat.le_of_ble_eq_true rfl) dX7_apart_23 ⟨Nat.zero_le _, Nat.zero_le _⟩) hW (fun r4 M5 H locs h hW => ?_)
    exact r_zret S hr hlk hW h.1 h.2 dX7_apart_26
  · have h := h.2 c3
    refine lv_aload_n S.1 S.2.1 dX7_apart_8 rfl (lv_at hl 0 rfl) ?_
    refine lv_iload_n S.1 S.2.1 dX7_apart_9 rfl (lv_at hl 2 rfl) ?_
    refine r_goI (r_runV (rest := []) S hW (mX7_isAsk l D T σ M2 a2 _ h) w136 rfl LM_0 rfl hl.1 rfl (Nat.le_of_ble_eq_true rfl) dX7_apart_10 ⟨Nat.zero_le _, Nat.zero_le _⟩) hW (fun r6 M7 H locs h hW => ?_)
    refine lv_if_eq (tgt := 21) S.1 S.2.1 dX7_apart_13 (by decide) (fun c8 => ?_) (fun c8 => ?_)
    · have h := h.1 c8
      refine lv_aload_n S.1 S.2.1 dX7_apart_21 rfl (lv_at hl 0 rfl) ?_
      refine lv_iconst (v := 1) S.1 S.2.1 dX7_apart_22 rfl ?_
      refine r_goI (r_runV (rest := []) S hW (mX7_is l D T σ M7 (1 : Int32) _ h) w113 rfl LM_0 rfl hl.1 rfl (Nat.le_of_ble_eq_true rfl) dX7_apart_23 ⟨Nat.zero_le _, Nat.zero_le _⟩) hW (fun r9 M10 H locs h hW => ?_)
      exact r_zret S hr hlk hW h.1 h.2 dX7_apart_26
    · have h := h.2 c8
      refine lv_iload_n S.1 S.2.1 dX7_apart_16 rfl (lv_at hl 1 rfl) ?_
      refine lv_iload_n S.1 S.2.1 dX7_apart_17 rfl (lv_at hl 2 rfl) ?_
      refine lv_icmp_ne (tgt := 27) S.1 S.2.1 dX7_apart_18 (by decide) (fun c11 => ?_) (fun c11 => ?_)
      · have h := h.1 c11
        refine lv_aload_n S.1 S.2.1 dX7_apart_27 rfl (lv_at hl 0 rfl) ?_
        refine r_getR (j := 14) S hW inX7 rfl f39 rfl LM_0 (by decide) rfl dX7_apart_28 ?_
        refine lv_iload_n S.1 S.2.1 dX7_apart_31 rfl (lv_at hl 1 rfl) ?_
        have b12 := h.1
        have h := h.2
        refine r_iald S hW LM_10 b12 dX7_apart_32 ?_
        refine lv_iload_n S.1 S.2.1 dX7_apart_33 rfl (lv_at hl 2 rfl) ?_
        refine lv_ishr S.1 S.2.1 dX7_apart_34 ?_
        refine lv_iconst (v := 1) S.1 S.2.1 dX7_apart_35 rfl ?_
        refine lv_iand S.1 S.2.1 dX7_apart_36 ?_
        refine lv_iconst (v := 1) S.1 S.2.1 dX7_apart_37 rfl ?_
        refine lv_icmp_ne (tgt := 45) S.1 S.2.1 dX7_apart_38 (by decide) (fun c13 => ?_) (fun c13 => ?_)
        · have h := h.1 c13
          refine lv_iconst (v := 0) S.1 S.2.1 dX7_apart_45 rfl ?_
          exact (e46 _ _).mp h H locs ls hW (lv_sub hl [0, 1, 2, 3] rfl)
        · have h := h.2 c13
          refine lv_iconst (v := 1) S.1 S.2.1 dX7_apart_41 rfl ?_
          refine lv_goto (tgt := 46) S.1 S.2.1 dX7_apart_42 (by decide) ?_
          exact (e46 _ _).mp h H locs ls hW (lv_sub hl [0, 1, 2, 3] rfl)
      · have h := h.2 c11
        refine lv_aload_n S.1 S.2.1 dX7_apart_21 rfl (lv_at hl 0 rfl) ?_
        refine lv_iconst (v := 1) S.1 S.2.1 dX7_apart_22 rfl ?_
        refine r_goI (r_runV (rest := []) S hW (mX7_is l D T σ M7 (1 : Int32) _ h) w113 rfl LM_0 rfl hl.1 rfl (Nat.le_of_ble_eq_true rfl) dX7_apart_23 ⟨Nat.zero_le _, Nat.zero_le _⟩) hW (fun r14 M15 H locs h hW => ?_)
        exact r_zret S hr hlk hW h.1 h.2 dX7_apart_26
abbrev rmX7_isHour : Room := { frames := 0, cells := 0, slots := 0, locals := 0 }
set_option maxHeartbeats 4000000 in
set_option maxRecDepth 100000 in
theorem mX7_isHour (l : Launch) (D : va_G) (T : Nat → ClassId) (σ : Nat → Nat) (M : Mem) (a0 : Int32) (post : Int32 → Mem → Prop) (h : qX7_isHour a0 M post) : Met l yX7_isHour wsX7_isHour rmX7_isHour (preW D T LM σ [.int a0] M) (postI D T LM σ post) 0 0 (fA LM σ) := by
  refine m_of (cc := cX7_isHour) (maxL := 1) (ret := (some .boolean)) (own := RX7) (by decide) rfl rfl (Nat.le_of_ble_eq_true rfl) ?_
  intro p e s m args below meth c H ls locs S hr hlk hl hW
  have hl : lv_has ls 1 [(0, .int a0)] := hl
  refine lv_iload_n S.1 S.2.1 dX7_isHour_0 rfl (lv_at hl 0 rfl) ?_
  refine lv_if_lt (tgt := 14) S.1 S.2.1 dX7_isHour_1 (by decide) (fun c1 => ?_) (fun c1 => ?_)
  · have h := h.1 c1
    refine lv_iconst (v := 0) S.1 S.2.1 dX7_isHour_14 rfl ?_
    exact r_zret S hr hlk hW rfl h dX7_isHour_15
  · have h := h.2 c1
    refine lv_iload_n S.1 S.2.1 dX7_isHour_4 rfl (lv_at hl 0 rfl) ?_
    refine lv_bipush (v := 24) S.1 S.2.1 dX7_isHour_5 rfl ?_
    refine lv_icmp_ge (tgt := 14) S.1 S.2.1 dX7_isHour_7 (by decide) (fun c2 => ?_) (fun c2 => ?_)
    · have h := h.1 c2
      refine lv_iconst (v := 0) S.1 S.2.1 dX7_isHour_14 rfl ?_
      exact r_zret S hr hlk hW rfl h dX7_isHour_15
    · have h := h.2 c2
      refine lv_iconst (v := 1) S.1 S.2.1 dX7_isHour_10 rfl ?_
      refine lv_goto (tgt := 15) S.1 S.2.1 dX7_isHour_11 (by decide) ?_
      exact r_zret S hr hlk hW rfl h dX7_isHour_15
abbrev rmX7_isFall : Room := { frames := 0, cells := 0, slots := 0, locals := 0 }
set_option maxHeartbeats 4000000 in
set_option maxRecDepth 100000 in
theorem mX7_isFall (l : Launch) (D : va_G) (T : Nat → ClassId) (σ : Nat → Nat) (M : Mem) (a0 : Int32) (post : Int32 → Mem → Prop) (h : qX7_isFall a0 M post) : Met l yX7_isFall wsX7_isFall rmX7_isFall (preW D T LM σ [.int a0] M) (postI D T LM σ post) 0 0 (fA LM σ) := by
  refine m_of (cc := cX7_isFall) (maxL := 1) (ret := (some .boolean)) (own := RX7) (by decide) rfl rfl (Nat.le_of_ble_eq_true rfl) ?_
  intro p e s m args below meth c H ls locs S hr hlk hl hW
  have hl : lv_has ls 1 [(0, .int a0)] := hl
  refine lv_iload_n S.1 S.2.1 dX7_isFall_0 rfl (lv_at hl 0 rfl) ?_
  refine lv_if_lt (tgt := 14) S.1 S.2.1 dX7_isFall_1 (by decide) (fun c1 => ?_) (fun c1 => ?_)
  · have h := h.1 c1
    refine lv_iconst (v := 0) S.1 S.2.1 dX7_isFall_14 rfl ?_
    exact r_zret S hr hlk hW rfl h dX7_isFall_15
  · have h := h.2 c1
    refine lv_iload_n S.1 S.2.1 dX7_isFall_4 rfl (lv_at hl 0 rfl) ?_
    refine lv_bipush (v := 17) S.1 S.2.1 dX7_isFall_5 rfl ?_
    refine lv_icmp_ge (tgt := 14) S.1 S.2.1 dX7_isFall_7 (by decide) (fun c2 => ?_) (fun c2 => ?_)
    · have h := h.1 c2
      refine lv_iconst (v := 0) S.1 S.2.1 dX7_isFall_14 rfl ?_
      exact r_zret S hr hlk hW rfl h dX7_isFall_15
    · have h := h.2 c2
      refine lv_iconst (v := 1) S.1 S.2.1 dX7_isFall_10 rfl ?_
      refine lv_goto (tgt := 15) S.1 S.2.1 dX7_isFall_11 (by decide) ?_
      exact r_zret S hr hlk hW rfl h dX7_isFall_15
abbrev rmX7_stands : Room := { frames := 0, cells := 0, slots := 0, locals := 0 }
set_option maxHeartbeats 4000000 in
set_option maxRecDepth 100000 in
theorem mX7_stands (l : Launch) (D : va_G) (T : Nat → ClassId) (σ : Nat → Nat) (M : Mem) (a1 : Int32) (a2 : Int32) (post : Int32 → Mem → Prop) (h : qX7_stands a1 a2 M post) : Met l yX7_stands wsX7_stands rmX7_stands (preW D T LM σ [.ref (σ 0), .int a1, .int a2] M) (postI D T LM σ post) 0 0 (fA LM σ) := by
  refine m_of (cc := cX7_stands) (maxL := 3) (ret := (some .boolean)) (own := RX7) (by decide) rfl rfl (Nat.le_of_ble_eq_true rfl) ?_
  intro p e s m args below meth c H ls locs S hr hlk hl hW
  have hl : lv_has ls 3 [(0, .ref (σ 0)), (1, .int a1), (2, .int a2)] := hl
  have inX7 : ∀ w ∈ u_ws RX7 TX7 42, w ∈ wsX7_stands := by decide +kernel
  have f26 := S.2.2.2.2 (.fieldLink RX7 26 "MachineHallModel" "isUp" "[Z") (by decide +kernel)
  have f23 := S.2.2.2.2 (.fieldLink RX7 23 "MachineHallModel" "room" "[I") (by decide +kernel)
  obtain ⟨R27, e27⟩ : ∃ R : Mem → Prop, ∀ M, R M ↔ WW p l e rmX7_stands s m args below meth c D T LM σ 3 (MQ below (postI D T LM σ post) args s 0 0 (fA LM σ)) 27 [(0, .ref (σ 0)), (1, .int a1), (2, .int a2)] [] M := ⟨_, fun _ => Iff.rfl⟩
  have h := h R27
  have z27 : ∀ M, qX7_stands_b27 a1 a2 post R27 M → R27 M := by
    intro M h
    refine (e27 _).mpr (fun H locs ls hW hl => ?_)
    refine lv_iload_n S.1 S.2.1 dX7_stands_27 rfl (lv_at hl 2 rfl) ?_
    refine lv_bipush (v := 13) S.1 S.2.1 dX7_stands_28 rfl ?_
    refine lv_icmp_lt (tgt := 46) S.1 S.2.1 dX7_stands_30 (by decide) (fun c6 => ?_) (fun c6 => ?_)
    · have h := h.1 c6
      refine lv_iconst (v := 1) S.1 S.2.1 dX7_stands_46 rfl ?_
      refine lv_goto (tgt := 51) S.1 S.2.1 dX7_stands_47 (by decide) ?_
      exact r_zret S hr hlk hW rfl h dX7_stands_51
    · have h := h.2 c6
      refine lv_iload_n S.1 S.2.1 dX7_stands_33 rfl (lv_at hl 2 rfl) ?_
      refine lv_bipush (v := 13) S.1 S.2.1 dX7_stands_34 rfl ?_
      refine lv_isub S.1 S.2.1 dX7_stands_36 ?_
      refine lv_aload_n S.1 S.2.1 dX7_stands_37 rfl (lv_at hl 0 rfl) ?_
      refine r_getR (j := 9) S hW inX7 rfl f23 rfl LM_0 (by decide) rfl dX7_stands_38 ?_
      refine lv_iload_n S.1 S.2.1 dX7_stands_41 rfl (lv_at hl 1 rfl) ?_
      have b7 := h.1
      have h := h.2
      refine r_iald S hW LM_5 b7 dX7_stands_42 ?_
      refine lv_icmp_eq (tgt := 50) S.1 S.2.1 dX7_stands_43 (by decide) (fun c8 => ?_) (fun c8 => ?_)
      · have h := h.1 c8
        refine lv_iconst (v := 0) S.1 S.2.1 dX7_stands_50 rfl ?_
        exact r_zret S hr hlk hW rfl h dX7_stands_51
      · have h := h.2 c8
        refine lv_iconst (v := 1) S.1 S.2.1 dX7_stands_46 rfl ?_
        refine lv_goto (tgt := 51) S.1 S.2.1 dX7_stands_47 (by decide) ?_
        exact r_zret S hr hlk hW rfl h dX7_stands_51
  have h := h z27
  refine lv_aload_n S.1 S.2.1 dX7_stands_0 rfl (lv_at hl 0 rfl) ?_
  refine r_getR (j := 10) S hW inX7 rfl f26 rfl LM_0 (by decide) rfl dX7_stands_1 ?_
  refine lv_iload_n S.1 S.2.1 dX7_stands_4 rfl (lv_at hl 1 rfl) ?_
  have b1 := h.1
  have h := h.2
  refine r_zald S hW LM_6 b1 dX7_stands_5 ?_
  refine lv_if_eq (tgt := 50) S.1 S.2.1 dX7_stands_6 (by decide) (fun c2 => ?_) (fun c2 => ?_)
  · have h := h.1 c2
    refine lv_iconst (v := 0) S.1 S.2.1 dX7_stands_50 rfl ?_
    exact r_zret S hr hlk hW rfl h dX7_stands_51
  · have h := h.2 c2
    refine lv_iload_n S.1 S.2.1 dX7_stands_9 rfl (lv_at hl 2 rfl) ?_
    refine lv_iconst (v := 1) S.1 S.2.1 dX7_stands_10 rfl ?_
    refine lv_icmp_lt (tgt := 27) S.1 S.2.1 dX7_stands_11 (by decide) (fun c3 => ?_) (fun c3 => ?_)
    · have h := h.1 c3
      exact (e27  _).mp h H locs ls hW (lv_sub hl [0, 1, 2] rfl)
    · have h := h.2 c3
      refine lv_iload_n S.1 S.2.1 dX7_stands_14 rfl (lv_at hl 2 rfl) ?_
      refine lv_bipush (v := 12) S.1 S.2.1 dX7_stands_15 rfl ?_
      refine lv_icmp_gt (tgt := 27) S.1 S.2.1 dX7_stands_17 (by decide) (fun c4 => ?_) (fun c4 => ?_)
      · have h := h.1 c4
        exact (e27  _).mp h H locs ls hW (lv_sub hl [0, 1, 2] rfl)
      · have h := h.2 c4
        refine lv_iload_n S.1 S.2.1 dX7_stands_20 rfl (lv_at hl 2 rfl) ?_
        refine lv_iconst (v := 1) S.1 S.2.1 dX7_stands_21 rfl ?_
        refine lv_isub S.1 S.2.1 dX7_stands_22 ?_
        refine lv_iload_n S.1 S.2.1 dX7_stands_23 rfl (lv_at hl 1 rfl) ?_
        refine lv_icmp_eq (tgt := 50) S.1 S.2.1 dX7_stands_24 (by decide) (fun c5 => ?_) (fun c5 => ?_)
        · have h := h.1 c5
          refine lv_iconst (v := 0) S.1 S.2.1 dX7_stands_50 rfl ?_
          exact r_zret S hr hlk hW rfl h dX7_stands_51
        · have h := h.2 c5
          exact (e27  _).mp h H locs ls hW (lv_sub hl [0, 1, 2] rfl)
abbrev rmX7_sizes : Room := { frames := 1, cells := 0, slots := 0, locals := 22 }
set_option maxHeartbeats 4000000 in
set_option maxRecDepth 100000 in
theorem mX7_sizes (l : Launch) (D : va_G) (T : Nat → ClassId) (σ : Nat → Nat) (M : Mem) (a1 : Int32) (post : Int32 → Mem → Prop) (h : qX7_sizes a1 M post) : Met l yX7_sizes wsX7_sizes rmX7_sizes (preW D T LM σ [.ref (σ 0), .int a1] M) (postI D T LM σ post) 0 0 (fA LM σ) := by
  refine m_of (cc := cX7_sizes) (maxL := 4) (ret := (some .int)) (own := RX7) (by decide) rfl rfl (Nat.le_of_ble_eq_true rfl) ?_
  intro p e s m args below meth c H ls locs S hr hlk hl hW
  have hl : lv_has ls 4 [(0, .ref (σ 0)), (1, .int a1)] := hl
  have inX7 : ∀ w ∈ u_ws RX7 TX7 42, w ∈ wsX7_sizes := by decide +kernel
  have f130 := S.2.2.2.2 (.fieldLink RX7 130 "MachineHallModel" "machines" "I") (by decide +kernel)
  have w139 := cwV (R := rmX7_sizes) (rm := rmX7_stands) (mc := 0) (ms := 0) 2 S.2.2.2.2 gX7_sizes_X7_stands rfl rfl rfl (by decide +kernel) ⟨Nat.le_of_ble_eq_true rfl, Nat.le_of_ble_eq_true rfl⟩
  have f20 := S.2.2.2.2 (.fieldLink RX7 20 "MachineHallModel" "size" "[I") (by decide +kernel)
  obtain ⟨R4, e4⟩ : ∃ R : Int32 → Int32 → Mem → Prop, ∀ x2 x3 M, R x2 x3 M ↔ WW p l e rmX7_sizes s m args below meth c D T LM σ 4 (MQ below (postI D T LM σ post) args s 0 0 (fA LM σ)) 4 [(0, .ref (σ 0)), (1, .int a1), (2, .int x2), (3, .int x3)] [] M := ⟨_, fun _ _ _ => Iff.rfl⟩
  have h := h R4
  have z4 : ∀ x2 x3 M, qX7_sizes_b4 a1 post R4 x2 x3 M → R4 x2 x3 M := by
    intro x2 x3 M h
    refine (e4 _ _ _).mpr (fun H locs ls hW hl => ?_)
    refine lv_iload_n S.1 S.2.1 dX7_sizes_4 rfl (lv_at hl 3 rfl) ?_
    refine lv_aload_n S.1 S.2.1 dX7_sizes_5 rfl (lv_at hl 0 rfl) ?_
    refine r_getI (j := 4) S hW inX7 rfl f130 rfl LM_0 (by decide) rfl dX7_sizes_6 ?_
    refine lv_icmp_ge (tgt := 40) S.1 S.2.1 dX7_sizes_9 (by decide) (fun c1 => ?_) (fun c1 => ?_)
    · have h := h.1 c1
      refine lv_iload_n S.1 S.2.1 dX7_sizes_40 rfl (lv_at hl 2 rfl) ?_
      exact r_iret S hr hlk hW h dX7_sizes_41
    · have h := h.2 c1
      refine lv_iload_n S.1 S.2.1 dX7_sizes_12 rfl (lv_at hl 2 rfl) ?_
      refine lv_aload_n S.1 S.2.1 dX7_sizes_13 rfl (lv_at hl 0 rfl) ?_
      refine lv_iload_n S.1 S.2.1 dX7_sizes_14 rfl (lv_at hl 3 rfl) ?_
      refine lv_iload_n S.1 S.2.1 dX7_sizes_15 rfl (lv_at hl 1 rfl) ?_
      refine r_goI (r_runV (rest := [.int x2]) S hW (mX7_stands l D T σ M x3 a1 _ h) w139 rfl LM_0 rfl hl.1 rfl (Nat.le_of_ble_eq_true rfl) dX7_sizes_16 ⟨Nat.zero_le _, Nat.zero_le _⟩) hW (fun r2 M3 H locs h hW => ?_)
      refine lv_if_eq (tgt := 31) S.1 S.2.1 dX7_sizes_19 (by decide) (fun c4 => ?_) (fun c4 => ?_)
      · have h := h.1 c4
        refine lv_iconst (v := 0) S.1 S.2.1 dX7_sizes_31 rfl ?_
        refine lv_iadd S.1 S.2.1 dX7_sizes_32 ?_
        refine lv_topi (fun v5 ev5 => ?_)
        have h := h v5 ev5
        refine lv_istore_n (lv' := [(2, .int v5), (0, .ref (σ 0)), (1, .int a1), (3, .int x3)]) S.1 S.2.1 dX7_sizes_33 rfl hl (by decide) rfl (fun ls hl => ?_)
        obtain ⟨v6, ev6⟩ : ∃ y : Int32, y = x3 + 1 := ⟨_, rfl⟩
        have h := h v6 ev6
        refine lv_iinc (v := v6) (lv' := [(3, .int v6), (2, .int v5), (0, .ref (σ 0)), (1, .int a1)]) S.1 S.2.1 dX7_sizes_34 hl (k := 3) rfl (by rw [ev6]; rfl) (by decide) rfl (fun ls hl => ?_)
        refine lv_goto (tgt := 4) S.1 S.2.1 dX7_sizes_37 (by decide) ?_
        exact (e4 _ _ _).mp h H locs ls hW (lv_sub hl [2, 3, 1, 0] rfl)
      · have h := h.2 c4
        refine lv_aload_n S.1 S.2.1 dX7_sizes_22 rfl (lv_at hl 0 rfl) ?_
        refine r_getR (j := 8) S hW inX7 rfl f20 rfl LM_0 (by decide) rfl dX7_sizes_23 ?_
        refine lv_iload_n S.1 S.2.1 dX7_sizes_26 rfl (lv_at hl 3 rfl) ?_
        have b7 := h.1
        have h := h.2
        refine r_iald S hW LM_4 b7 dX7_sizes_27 ?_
        refine lv_goto (tgt := 32) S.1 S.2.1 dX7_sizes_28 (by decide) ?_
        refine lv_iadd S.1 S.2.1 dX7_sizes_32 ?_
        refine lv_topi (fun v8 ev8 => ?_)
        have h := h v8 ev8
        refine lv_istore_n (lv' := [(2, .int v8), (0, .ref (σ 0)), (1, .int a1), (3, .int x3)]) S.1 S.2.1 dX7_sizes_33 rfl hl (by decide) rfl (fun ls hl => ?_)
        obtain ⟨v9, ev9⟩ : ∃ y : Int32, y = x3 + 1 := ⟨_, rfl⟩
        have h := h v9 ev9
        refine lv_iinc (v := v9) (lv' := [(3, .int v9), (2, .int v8), (0, .ref (σ 0)), (1, .int a1)]) S.1 S.2.1 dX7_sizes_34 hl (k := 3) rfl (by rw [ev9]; rfl) (by decide) rfl (fun ls hl => ?_)
        refine lv_goto (tgt := 4) S.1 S.2.1 dX7_sizes_37 (by decide) ?_
        exact (e4 _ _ _).mp h H locs ls hW (lv_sub hl [2, 3, 1, 0] rfl)
  have h := h z4
  refine lv_iconst (v := 0) S.1 S.2.1 dX7_sizes_0 rfl ?_
  refine lv_istore_n (lv' := [(2, .int (0 : Int32)), (0, .ref (σ 0)), (1, .int a1)]) S.1 S.2.1 dX7_sizes_1 rfl hl (by decide) rfl (fun ls hl => ?_)
  refine lv_iconst (v := 0) S.1 S.2.1 dX7_sizes_2 rfl ?_
  refine lv_istore_n (lv' := [(3, .int (0 : Int32)), (2, .int (0 : Int32)), (0, .ref (σ 0)), (1, .int a1)]) S.1 S.2.1 dX7_sizes_3 rfl hl (by decide) rfl (fun ls hl => ?_)
  exact (e4 _ _ _).mp h H locs ls hW (lv_sub hl [2, 3, 1, 0] rfl)
abbrev rmX7_count : Room := { frames := 2, cells := 0, slots := 0, locals := 45 }
set_option maxHeartbeats 4000000 in
set_option maxRecDepth 100000 in
theorem mX7_count (l : Launch) (D : va_G) (T : Nat → ClassId) (σ : Nat → Nat) (M : Mem) (a1 : Int32) (post : Int32 → Mem → Prop) (h : qX7_count a1 M post) : Met l yX7_count wsX7_count rmX7_count (preW D T LM σ [.ref (σ 0), .int a1] M) (postI D T LM σ post) 0 0 (fA LM σ) := by
  refine m_of (cc := cX7_count) (maxL := 2) (ret := (some .int)) (own := RX7) (by decide) rfl rfl (Nat.le_of_ble_eq_true rfl) ?_
  intro p e s m args below meth c H ls locs S hr hlk hl hW
  have hl : lv_has ls 2 [(0, .ref (σ 0)), (1, .int a1)] := hl
  have w126 := cwV (R := rmX7_count) (rm := rmX7_refuse) (mc := 0) (ms := 0) 1 S.2.2.2.2 gX7_count_X7_refuse rfl rfl rfl (by decide +kernel) ⟨Nat.le_of_ble_eq_true rfl, Nat.le_of_ble_eq_true rfl⟩
  have inX7 : ∀ w ∈ u_ws RX7 TX7 42, w ∈ wsX7_count := by decide +kernel
  have f105 := S.2.2.2.2 (.fieldLink RX7 105 "MachineHallModel" "status" "I") (by decide +kernel)
  have w149 := cwV (R := rmX7_count) (rm := rmX7_sizes) (mc := 0) (ms := 0) 1 S.2.2.2.2 gX7_count_X7_sizes rfl rfl rfl (by decide +kernel) ⟨Nat.le_of_ble_eq_true rfl, Nat.le_of_ble_eq_true rfl⟩
  have f146 := S.2.2.2.2 (.fieldLink RX7 146 "MachineHallModel" "types" "I") (by decide +kernel)
  have f143 := S.2.2.2.2 (.fieldLink RX7 143 "MachineHallModel" "batches" "I") (by decide +kernel)
  have f133 := S.2.2.2.2 (.fieldLink RX7 133 "MachineHallModel" "asks" "I") (by decide +kernel)
  have f130 := S.2.2.2.2 (.fieldLink RX7 130 "MachineHallModel" "machines" "I") (by decide +kernel)
  refine lv_iload_n S.1 S.2.1 dX7_count_0 rfl (lv_at hl 1 rfl) ?_
  refine lv_if_lt (tgt := 9) S.1 S.2.1 dX7_count_1 (by decide) (fun c1 => ?_) (fun c1 => ?_)
  · have h := h.1 c1
    refine lv_aload_n S.1 S.2.1 dX7_count_9 rfl (lv_at hl 0 rfl) ?_
    refine lv_iconst (v := 1) S.1 S.2.1 dX7_count_10 rfl ?_
    refine r_goI (r_runV (rest := []) S hW (mX7_refuse l D T σ M (1 : Int32) _ h) w126 rfl LM_0 rfl hl.1 rfl (Nat.le_of_ble_eq_true rfl) dX7_count_11 ⟨Nat.zero_le _, Nat.zero_le _⟩) hW (fun r2 M3 H locs h hW => ?_)
    exact r_iret S hr hlk hW h dX7_count_14
  · have h := h.2 c1
    refine lv_iload_n S.1 S.2.1 dX7_count_4 rfl (lv_at hl 1 rfl) ?_
    refine lv_iconst (v := 4) S.1 S.2.1 dX7_count_5 rfl ?_
    refine lv_icmp_le (tgt := 15) S.1 S.2.1 dX7_count_6 (by decide) (fun c4 => ?_) (fun c4 => ?_)
    · have h := h.1 c4
      refine lv_aload_n S.1 S.2.1 dX7_count_15 rfl (lv_at hl 0 rfl) ?_
      refine lv_iconst (v := 0) S.1 S.2.1 dX7_count_16 rfl ?_
      refine r_putI (j := 0) S hW inX7 rfl f105 rfl LM_0 (by decide) rfl tyX7 tyX7_ok nmX7 rfl rfl rfl dX7_count_17 (fun M5 H locs eM5 hW => ?_)
      have h := h M5 eM5
      refine lv_iload_n S.1 S.2.1 dX7_count_20 rfl (lv_at hl 1 rfl) ?_
      refine lv_if_ne (tgt := 31) S.1 S.2.1 dX7_count_21 (by decide) (fun c6 => ?_) (fun c6 => ?_)
      · have h := h.1 c6
        refine lv_iload_n S.1 S.2.1 dX7_count_31 rfl (lv_at hl 1 rfl) ?_
        refine lv_iconst (v := 1) S.1 S.2.1 dX7_count_32 rfl ?_
        refine lv_icmp_ne (tgt := 43) S.1 S.2.1 dX7_count_33 (by decide) (fun c7 => ?_) (fun c7 => ?_)
        · have h := h.1 c7
          refine lv_iload_n S.1 S.2.1 dX7_count_43 rfl (lv_at hl 1 rfl) ?_
          refine lv_iconst (v := 2) S.1 S.2.1 dX7_count_44 rfl ?_
          refine lv_icmp_ne (tgt := 55) S.1 S.2.1 dX7_count_45 (by decide) (fun c8 => ?_) (fun c8 => ?_)
          · have h := h.1 c8
            refine lv_iload_n S.1 S.2.1 dX7_count_55 rfl (lv_at hl 1 rfl) ?_
            refine lv_iconst (v := 3) S.1 S.2.1 dX7_count_56 rfl ?_
            refine lv_icmp_ne (tgt := 67) S.1 S.2.1 dX7_count_57 (by decide) (fun c9 => ?_) (fun c9 => ?_)
            · have h := h.1 c9
              refine lv_aload_n S.1 S.2.1 dX7_count_67 rfl (lv_at hl 0 rfl) ?_
              refine lv_iconst (v := 0) S.1 S.2.1 dX7_count_68 rfl ?_
              refine r_goI (r_runV (rest := []) S hW (mX7_sizes l D T σ M5 (0 : Int32) _ h) w149 rfl LM_0 rfl hl.1 rfl (Nat.le_of_ble_eq_true rfl) dX7_count_69 ⟨Nat.zero_le _, Nat.zero_le _⟩) hW (fun r10 M11 H locs h hW => ?_)
              exact r_iret S hr hlk hW h dX7_count_72
            · have h := h.2 c9
              refine lv_aload_n S.1 S.2.1 dX7_count_60 rfl (lv_at hl 0 rfl) ?_
              refine r_getI (j := 7) S hW inX7 rfl f146 rfl LM_0 (by decide) rfl dX7_count_61 ?_
              refine lv_goto (tgt := 72) S.1 S.2.1 dX7_count_64 (by decide) ?_
              exact r_iret S hr hlk hW h dX7_count_72
          · have h := h.2 c8
            refine lv_aload_n S.1 S.2.1 dX7_count_48 rfl (lv_at hl 0 rfl) ?_
            refine r_getI (j := 6) S hW inX7 rfl f143 rfl LM_0 (by decide) rfl dX7_count_49 ?_
            refine lv_goto (tgt := 72) S.1 S.2.1 dX7_count_52 (by decide) ?_
            exact r_iret S hr hlk hW h dX7_count_72
        · have h := h.2 c7
          refine lv_aload_n S.1 S.2.1 dX7_count_36 rfl (lv_at hl 0 rfl) ?_
          refine r_getI (j := 5) S hW inX7 rfl f133 rfl LM_0 (by decide) rfl dX7_count_37 ?_
          refine lv_goto (tgt := 72) S.1 S.2.1 dX7_count_40 (by decide) ?_
          exact r_iret S hr hlk hW h dX7_count_72
      · have h := h.2 c6
        refine lv_aload_n S.1 S.2.1 dX7_count_24 rfl (lv_at hl 0 rfl) ?_
        refine r_getI (j := 4) S hW inX7 rfl f130 rfl LM_0 (by decide) rfl dX7_count_25 ?_
        refine lv_goto (tgt := 72) S.1 S.2.1 dX7_count_28 (by decide) ?_
        exact r_iret S hr hlk hW h dX7_count_72
    · have h := h.2 c4
      refine lv_aload_n S.1 S.2.1 dX7_count_9 rfl (lv_at hl 0 rfl) ?_
      refine lv_iconst (v := 1) S.1 S.2.1 dX7_count_10 rfl ?_
      refine r_goI (r_runV (rest := []) S hW (mX7_refuse l D T σ M (1 : Int32) _ h) w126 rfl LM_0 rfl hl.1 rfl (Nat.le_of_ble_eq_true rfl) dX7_count_11 ⟨Nat.zero_le _, Nat.zero_le _⟩) hW (fun r12 M13 H locs h hW => ?_)
      exact r_iret S hr hlk hW h dX7_count_14
abbrev rmX7_look : Room := { frames := 1, cells := 0, slots := 0, locals := 22 }
set_option maxHeartbeats 4000000 in
set_option maxRecDepth 100000 in
theorem mX7_look (l : Launch) (D : va_G) (T : Nat → ClassId) (σ : Nat → Nat) (M : Mem) (a1 : Int32) (post : Mem → Prop) (h : qX7_look a1 M post) : Met l yX7_look wsX7_look rmX7_look (preW D T LM σ [.ref (σ 0), .int a1] M) (postV D T LM σ post) 0 0 (fA LM σ) := by
  refine m_of (cc := cX7_look) (maxL := 7) (ret := none) (own := RX7) (by decide) rfl rfl (Nat.le_of_ble_eq_true rfl) ?_
  intro p e s m args below meth c H ls locs S hr hlk hl hW
  have hl : lv_has ls 7 [(0, .ref (σ 0)), (1, .int a1)] := hl
  have inX7 : ∀ w ∈ u_ws RX7 TX7 42, w ∈ wsX7_look := by decide +kernel
  have f133 := S.2.2.2.2 (.fieldLink RX7 133 "MachineHallModel" "asks" "I") (by decide +kernel)
  have f130 := S.2.2.2.2 (.fieldLink RX7 130 "MachineHallModel" "machines" "I") (by decide +kernel)
  have f42 := S.2.2.2.2 (.fieldLink RX7 42 "MachineHallModel" "needs" "[I") (by decide +kernel)
  have f45 := S.2.2.2.2 (.fieldLink RX7 45 "MachineHallModel" "may" "[Z") (by decide +kernel)
  have f48 := S.2.2.2.2 (.fieldLink RX7 48 "MachineHallModel" "can" "[Z") (by decide +kernel)
  have f30 := S.2.2.2.2 (.fieldLink RX7 30 "MachineHallModel" "need" "[I") (by decide +kernel)
  have f39 := S.2.2.2.2 (.fieldLink RX7 39 "MachineHallModel" "apart" "[I") (by decide +kernel)
  have w139 := cwV (R := rmX7_look) (rm := rmX7_stands) (mc := 0) (ms := 0) 2 S.2.2.2.2 gX7_look_X7_stands rfl rfl rfl (by decide +kernel) ⟨Nat.le_of_ble_eq_true rfl, Nat.le_of_ble_eq_true rfl⟩
  have f20 := S.2.2.2.2 (.fieldLink RX7 20 "MachineHallModel" "size" "[I") (by decide +kernel)
  obtain ⟨R9, e9⟩ : ∃ R : Int32 → Int32 → Mem → Prop, ∀ x2 x3 M, R x2 x3 M ↔ WW p l e rmX7_look s m args below meth c D T LM σ 7 (MQ below (postV D T LM σ post) args s 0 0 (fA LM σ)) 9 [(0, .ref (σ 0)), (1, .int a1), (2, .int x2), (3, .int x3)] [] M := ⟨_, fun _ _ _ => Iff.rfl⟩
  obtain ⟨R31, e31⟩ : ∃ R : Int32 → Int32 → Int32 → Mem → Prop, ∀ x2 x3 x4 M, R x2 x3 x4 M ↔ WW p l e rmX7_look s m args below meth c D T LM σ 7 (MQ below (postV D T LM σ post) args s 0 0 (fA LM σ)) 31 [(0, .ref (σ 0)), (1, .int a1), (2, .int x2), (3, .int x3), (4, .int x4)] [] M := ⟨_, fun _ _ _ _ => Iff.rfl⟩
  obtain ⟨R143, e143⟩ : ∃ R : Int32 → Int32 → Mem → Prop, ∀ x2 x3 M, R x2 x3 M ↔ WW p l e rmX7_look s m args below meth c D T LM σ 7 (MQ below (postV D T LM σ post) args s 0 0 (fA LM σ)) 143 [(0, .ref (σ 0)), (1, .int a1), (2, .int x2), (3, .int x3)] [] M := ⟨_, fun _ _ _ => Iff.rfl⟩
  obtain ⟨R150, e150⟩ : ∃ R : Int32 → Int32 → Int32 → Mem → Prop, ∀ x2 x3 x4 M, R x2 x3 x4 M ↔ WW p l e rmX7_look s m args below meth c D T LM σ 7 (MQ below (postV D T LM σ post) args s 0 0 (fA LM σ)) 150 [(0, .ref (σ 0)), (1, .int a1), (2, .int x2), (3, .int x3), (4, .int x4)] [] M := ⟨_, fun _ _ _ _ => Iff.rfl⟩
  obtain ⟨R177, e177⟩ : ∃ R : Int32 → Int32 → Int32 → Int32 → Int32 → Mem → Prop, ∀ x2 x3 x4 x5 x6 M, R x2 x3 x4 x5 x6 M ↔ WW p l e rmX7_look s m args below meth c D T LM σ 7 (MQ below (postV D T LM σ post) args s 0 0 (fA LM σ)) 177 [(0, .ref (σ 0)), (1, .int a1), (2, .int x2), (3, .int x3), (4, .int x4), (5, .int x5), (6, .int x6)] [] M := ⟨_, fun _ _ _ _ _ _ => Iff.rfl⟩
  obtain ⟨R247, e247⟩ : ∃ R : Int32 → Int32 → Int32 → Int32 → Mem → Prop, ∀ x2 x3 x4 x6 M, R x2 x3 x4 x6 M ↔ WW p l e rmX7_look s m args below meth c D T LM σ 7 (MQ below (postV D T LM σ post) args s 0 0 (fA LM σ)) 247 [(0, .ref (σ 0)), (1, .int a1), (2, .int x2), (3, .int x3), (4, .int x4), (6, .int x6)] [] M := ⟨_, fun _ _ _ _ _ => Iff.rfl⟩
  obtain ⟨R262, e262⟩ : ∃ R : Int32 → Int32 → Int32 → Int32 → Mem → Prop, ∀ x2 x3 x4 x5 M, R x2 x3 x4 x5 M ↔ WW p l e rmX7_look s m args below meth c D T LM σ 7 (MQ below (postV D T LM σ post) args s 0 0 (fA LM σ)) 262 [(0, .ref (σ 0)), (1, .int a1), (2, .int x2), (3, .int x3), (4, .int x4), (5, .int x5)] [] M := ⟨_, fun _ _ _ _ _ => Iff.rfl⟩
  have h := h R9 R31 R143 R150 R177 R247 R262
  have z9 : ∀ x2 x3 M, qX7_look_b9 a1 post R9 R31 R143 R150 R177 R247 R262 x2 x3 M → R9 x2 x3 M := by
    intro x2 x3 M h
    refine (e9 _ _ _).mpr (fun H locs ls hW hl => ?_)
    refine lv_iload_n S.1 S.2.1 dX7_look_9 rfl (lv_at hl 3 rfl) ?_
    refine lv_iload_n S.1 S.2.1 dX7_look_10 rfl (lv_at hl 2 rfl) ?_
    refine lv_icmp_ge (tgt := 136) S.1 S.2.1 dX7_look_11 (by decide) (fun c2 => ?_) (fun c2 => ?_)
    · have h := h.1 c2
      refine lv_aload_n S.1 S.2.1 dX7_look_136 rfl (lv_at hl 0 rfl) ?_
      refine r_getI (j := 4) S hW inX7 rfl f130 rfl LM_0 (by decide) rfl dX7_look_137 ?_
      refine lv_iconst (v := 1) S.1 S.2.1 dX7_look_140 rfl ?_
      refine lv_isub S.1 S.2.1 dX7_look_141 ?_
      refine lv_topi (fun v3 ev3 => ?_)
      have h := h v3 ev3
      refine lv_istore_n (lv' := [(3, .int v3), (0, .ref (σ 0)), (1, .int a1), (2, .int x2)]) S.1 S.2.1 dX7_look_142 rfl hl (by decide) rfl (fun ls hl => ?_)
      exact (e143 _ _ _).mp h H locs ls hW (lv_sub hl [1, 2, 3, 0] rfl)
    · have h := h.2 c2
      refine lv_aload_n S.1 S.2.1 dX7_look_14 rfl (lv_at hl 0 rfl) ?_
      refine r_getR (j := 15) S hW inX7 rfl f42 rfl LM_0 (by decide) rfl dX7_look_15 ?_
      refine lv_iload_n S.1 S.2.1 dX7_look_18 rfl (lv_at hl 3 rfl) ?_
      refine lv_iconst (v := 0) S.1 S.2.1 dX7_look_19 rfl ?_
      have b4 := h.1
      have h := h.2
      refine r_iast S hW LM_11 b4 dX7_look_20 (fun M5 H locs eM5 hW => ?_)
      have h := h M5 eM5
      refine lv_aload_n S.1 S.2.1 dX7_look_21 rfl (lv_at hl 0 rfl) ?_
      refine r_getR (j := 16) S hW inX7 rfl f45 rfl LM_0 (by decide) rfl dX7_look_22 ?_
      refine lv_iload_n S.1 S.2.1 dX7_look_25 rfl (lv_at hl 3 rfl) ?_
      refine lv_iconst (v := 1) S.1 S.2.1 dX7_look_26 rfl ?_
      have b6 := h.1
      have h := h.2
      refine r_zast S hW LM_12 b6 dX7_look_27 (fun M7 H locs eM7 hW => ?_)
      have h := h M7 eM7
      refine lv_iconst (v := 0) S.1 S.2.1 dX7_look_28 rfl ?_
      refine lv_istore (lv' := [(4, .int (0 : Int32)), (0, .ref (σ 0)), (1, .int a1), (2, .int x2), (3, .int x3)]) S.1 S.2.1 dX7_look_29 hl (by decide) rfl (fun ls hl => ?_)
      exact (e31 _ _ _ _).mp h H locs ls hW (lv_sub hl [1, 2, 3, 4, 0] rfl)
  have z31 : ∀ x2 x3 x4 M, qX7_look_b31 a1 post R9 R31 R143 R150 R177 R247 R262 x2 x3 x4 M → R31 x2 x3 x4 M := by
    intro x2 x3 x4 M h
    refine (e31 _ _ _ _).mpr (fun H locs ls hW hl => ?_)
    refine lv_iload S.1 S.2.1 dX7_look_31 (lv_at hl 4 rfl) ?_
    refine lv_aload_n S.1 S.2.1 dX7_look_33 rfl (lv_at hl 0 rfl) ?_
    refine r_getI (j := 5) S hW inX7 rfl f133 rfl LM_0 (by decide) rfl dX7_look_34 ?_
    refine lv_icmp_ge (tgt := 106) S.1 S.2.1 dX7_look_37 (by decide) (fun c8 => ?_) (fun c8 => ?_)
    · have h := h.1 c8
      refine lv_aload_n S.1 S.2.1 dX7_look_106 rfl (lv_at hl 0 rfl) ?_
      refine r_getR (j := 17) S hW inX7 rfl f48 rfl LM_0 (by decide) rfl dX7_look_107 ?_
      refine lv_sipush (v := 1024) S.1 S.2.1 dX7_look_110 rfl ?_
      refine lv_aload_n S.1 S.2.1 dX7_look_113 rfl (lv_at hl 0 rfl) ?_
      refine r_getI (j := 4) S hW inX7 rfl f130 rfl LM_0 (by decide) rfl dX7_look_114 ?_
      refine lv_imul S.1 S.2.1 dX7_look_117 ?_
      refine lv_iload_n S.1 S.2.1 dX7_look_118 rfl (lv_at hl 3 rfl) ?_
      refine lv_iadd S.1 S.2.1 dX7_look_119 ?_
      refine lv_iload_n S.1 S.2.1 dX7_look_120 rfl (lv_at hl 3 rfl) ?_
      refine lv_if_ne (tgt := 128) S.1 S.2.1 dX7_look_121 (by decide) (fun c9 => ?_) (fun c9 => ?_)
      · have h := h.1 c9
        refine lv_iconst (v := 0) S.1 S.2.1 dX7_look_128 rfl ?_
        have b10 := h.1
        have h := h.2
        refine r_zast S hW LM_13 b10 dX7_look_129 (fun M11 H locs eM11 hW => ?_)
        have h := h M11 eM11
        obtain ⟨v12, ev12⟩ : ∃ y : Int32, y = x3 + 1 := ⟨_, rfl⟩
        have h := h v12 ev12
        refine lv_iinc (v := v12) (lv' := [(3, .int v12), (0, .ref (σ 0)), (1, .int a1), (2, .int x2), (4, .int x4)]) S.1 S.2.1 dX7_look_130 hl (k := 3) rfl (by rw [ev12]; rfl) (by decide) rfl (fun ls hl => ?_)
        refine lv_goto (tgt := 9) S.1 S.2.1 dX7_look_133 (by decide) ?_
        exact (e9 _ _ _).mp h H locs ls hW (lv_sub hl [1, 2, 3, 0] rfl)
      · have h := h.2 c9
        refine lv_iconst (v := 1) S.1 S.2.1 dX7_look_124 rfl ?_
        refine lv_goto (tgt := 129) S.1 S.2.1 dX7_look_125 (by decide) ?_
        have b13 := h.1
        have h := h.2
        refine r_zast S hW LM_13 b13 dX7_look_129 (fun M14 H locs eM14 hW => ?_)
        have h := h M14 eM14
        obtain ⟨v15, ev15⟩ : ∃ y : Int32, y = x3 + 1 := ⟨_, rfl⟩
        have h := h v15 ev15
        refine lv_iinc (v := v15) (lv' := [(3, .int v15), (0, .ref (σ 0)), (1, .int a1), (2, .int x2), (4, .int x4)]) S.1 S.2.1 dX7_look_130 hl (k := 3) rfl (by rw [ev15]; rfl) (by decide) rfl (fun ls hl => ?_)
        refine lv_goto (tgt := 9) S.1 S.2.1 dX7_look_133 (by decide) ?_
        exact (e9 _ _ _).mp h H locs ls hW (lv_sub hl [1, 2, 3, 0] rfl)
    · have h := h.2 c8
      refine lv_iload_n S.1 S.2.1 dX7_look_40 rfl (lv_at hl 3 rfl) ?_
      refine lv_iload S.1 S.2.1 dX7_look_41 (lv_at hl 4 rfl) ?_
      refine lv_ishr S.1 S.2.1 dX7_look_43 ?_
      refine lv_iconst (v := 1) S.1 S.2.1 dX7_look_44 rfl ?_
      refine lv_iand S.1 S.2.1 dX7_look_45 ?_
      refine lv_if_ne (tgt := 52) S.1 S.2.1 dX7_look_46 (by decide) (fun c16 => ?_) (fun c16 => ?_)
      · have h := h.1 c16
        refine lv_aload_n S.1 S.2.1 dX7_look_52 rfl (lv_at hl 0 rfl) ?_
        refine r_getR (j := 15) S hW inX7 rfl f42 rfl LM_0 (by decide) rfl dX7_look_53 ?_
        refine lv_iload_n S.1 S.2.1 dX7_look_56 rfl (lv_at hl 3 rfl) ?_
        refine lv_dup2_11 S.1 S.2.1 dX7_look_57 rfl rfl ?_
        have b17 := h.1
        have h := h.2
        refine r_iald S hW LM_11 b17 dX7_look_58 ?_
        refine lv_aload_n S.1 S.2.1 dX7_look_59 rfl (lv_at hl 0 rfl) ?_
        refine r_getR (j := 11) S hW inX7 rfl f30 rfl LM_0 (by decide) rfl dX7_look_60 ?_
        refine lv_iload S.1 S.2.1 dX7_look_63 (lv_at hl 4 rfl) ?_
        have b18 := h.1
        have h := h.2
        refine r_iald S hW LM_7 b18 dX7_look_65 ?_
        refine lv_iadd S.1 S.2.1 dX7_look_66 ?_
        have b19 := h.1
        have h := h.2
        refine r_iast S hW LM_11 b19 dX7_look_67 (fun M20 H locs eM20 hW => ?_)
        have h := h M20 eM20
        refine lv_aload_n S.1 S.2.1 dX7_look_68 rfl (lv_at hl 0 rfl) ?_
        refine r_getR (j := 16) S hW inX7 rfl f45 rfl LM_0 (by decide) rfl dX7_look_69 ?_
        refine lv_iload_n S.1 S.2.1 dX7_look_72 rfl (lv_at hl 3 rfl) ?_
        refine lv_aload_n S.1 S.2.1 dX7_look_73 rfl (lv_at hl 0 rfl) ?_
        refine r_getR (j := 16) S hW inX7 rfl f45 rfl LM_0 (by decide) rfl dX7_look_74 ?_
        refine lv_iload_n S.1 S.2.1 dX7_look_77 rfl (lv_at hl 3 rfl) ?_
        have b21 := h.1
        have h := h.2
        refine r_zald S hW LM_12 b21 dX7_look_78 ?_
        refine lv_if_eq (tgt := 98) S.1 S.2.1 dX7_look_79 (by decide) (fun c22 => ?_) (fun c22 => ?_)
        · have h := h.1 c22
          refine lv_iconst (v := 0) S.1 S.2.1 dX7_look_98 rfl ?_
          have b23 := h.1
          have h := h.2
          refine r_zast S hW LM_12 b23 dX7_look_99 (fun M24 H locs eM24 hW => ?_)
          have h := h M24 eM24
          obtain ⟨v25, ev25⟩ : ∃ y : Int32, y = x4 + 1 := ⟨_, rfl⟩
          have h := h v25 ev25
          refine lv_iinc (v := v25) (lv' := [(4, .int v25), (0, .ref (σ 0)), (1, .int a1), (2, .int x2), (3, .int x3)]) S.1 S.2.1 dX7_look_100 hl (k := 4) rfl (by rw [ev25]; rfl) (by decide) rfl (fun ls hl => ?_)
          refine lv_goto (tgt := 31) S.1 S.2.1 dX7_look_103 (by decide) ?_
          exact (e31 _ _ _ _).mp h H locs ls hW (lv_sub hl [1, 2, 3, 4, 0] rfl)
        · have h := h.2 c22
          refine lv_iload_n S.1 S.2.1 dX7_look_82 rfl (lv_at hl 3 rfl) ?_
          refine lv_aload_n S.1 S.2.1 dX7_look_83 rfl (lv_at hl 0 rfl) ?_
          refine r_getR (j := 14) S hW inX7 rfl f39 rfl LM_0 (by decide) rfl dX7_look_84 ?_
          refine lv_iload S.1 S.2.1 dX7_look_87 (lv_at hl 4 rfl) ?_
          have b26 := h.1
          have h := h.2
          refine r_iald S hW LM_10 b26 dX7_look_89 ?_
          refine lv_iand S.1 S.2.1 dX7_look_90 ?_
          refine lv_if_ne (tgt := 98) S.1 S.2.1 dX7_look_91 (by decide) (fun c27 => ?_) (fun c27 => ?_)
          · have h := h.1 c27
            refine lv_iconst (v := 0) S.1 S.2.1 dX7_look_98 rfl ?_
            have b28 := h.1
            have h := h.2
            refine r_zast S hW LM_12 b28 dX7_look_99 (fun M29 H locs eM29 hW => ?_)
            have h := h M29 eM29
            obtain ⟨v30, ev30⟩ : ∃ y : Int32, y = x4 + 1 := ⟨_, rfl⟩
            have h := h v30 ev30
            refine lv_iinc (v := v30) (lv' := [(4, .int v30), (0, .ref (σ 0)), (1, .int a1), (2, .int x2), (3, .int x3)]) S.1 S.2.1 dX7_look_100 hl (k := 4) rfl (by rw [ev30]; rfl) (by decide) rfl (fun ls hl => ?_)
            refine lv_goto (tgt := 31) S.1 S.2.1 dX7_look_103 (by decide) ?_
            exact (e31 _ _ _ _).mp h H locs ls hW (lv_sub hl [1, 2, 3, 4, 0] rfl)
          · have h := h.2 c27
            refine lv_iconst (v := 1) S.1 S.2.1 dX7_look_94 rfl ?_
            refine lv_goto (tgt := 99) S.1 S.2.1 dX7_look_95 (by decide) ?_
            have b31 := h.1
            have h := h.2
            refine r_zast S hW LM_12 b31 dX7_look_99 (fun M32 H locs eM32 hW => ?_)
            have h := h M32 eM32
            obtain ⟨v33, ev33⟩ : ∃ y : Int32, y = x4 + 1 := ⟨_, rfl⟩
            have h := h v33 ev33
            refine lv_iinc (v := v33) (lv' := [(4, .int v33), (0, .ref (σ 0)), (1, .int a1), (2, .int x2), (3, .int x3)]) S.1 S.2.1 dX7_look_100 hl (k := 4) rfl (by rw [ev33]; rfl) (by decide) rfl (fun ls hl => ?_)
            refine lv_goto (tgt := 31) S.1 S.2.1 dX7_look_103 (by decide) ?_
            exact (e31 _ _ _ _).mp h H locs ls hW (lv_sub hl [1, 2, 3, 4, 0] rfl)
      · have h := h.2 c16
        refine lv_goto (tgt := 100) S.1 S.2.1 dX7_look_49 (by decide) ?_
        obtain ⟨v34, ev34⟩ : ∃ y : Int32, y = x4 + 1 := ⟨_, rfl⟩
        have h := h v34 ev34
        refine lv_iinc (v := v34) (lv' := [(4, .int v34), (0, .ref (σ 0)), (1, .int a1), (2, .int x2), (3, .int x3)]) S.1 S.2.1 dX7_look_100 hl (k := 4) rfl (by rw [ev34]; rfl) (by decide) rfl (fun ls hl => ?_)
        refine lv_goto (tgt := 31) S.1 S.2.1 dX7_look_103 (by decide) ?_
        exact (e31 _ _ _ _).mp h H locs ls hW (lv_sub hl [1, 2, 3, 4, 0] rfl)
  have z143 : ∀ x2 x3 M, qX7_look_b143 a1 post R9 R31 R143 R150 R177 R247 R262 x2 x3 M → R143 x2 x3 M := by
    intro x2 x3 M h
    refine (e143 _ _ _).mpr (fun H locs ls hW hl => ?_)
    refine lv_iload_n S.1 S.2.1 dX7_look_143 rfl (lv_at hl 3 rfl) ?_
    refine lv_if_lt (tgt := 289) S.1 S.2.1 dX7_look_144 (by decide) (fun c35 => ?_) (fun c35 => ?_)
    · have h := h.1 c35
      exact r_vret S hr hlk hW h dX7_look_289
    · have h := h.2 c35
      refine lv_iconst (v := 0) S.1 S.2.1 dX7_look_147 rfl ?_
      refine lv_istore (lv' := [(4, .int (0 : Int32)), (0, .ref (σ 0)), (1, .int a1), (2, .int x2), (3, .int x3)]) S.1 S.2.1 dX7_look_148 hl (by decide) rfl (fun ls hl => ?_)
      exact (e150 _ _ _ _).mp h H locs ls hW (lv_sub hl [1, 2, 3, 4, 0] rfl)
  have z150 : ∀ x2 x3 x4 M, qX7_look_b150 a1 post R9 R31 R143 R150 R177 R247 R262 x2 x3 x4 M → R150 x2 x3 x4 M := by
    intro x2 x3 x4 M h
    refine (e150 _ _ _ _).mpr (fun H locs ls hW hl => ?_)
    refine lv_iload S.1 S.2.1 dX7_look_150 (lv_at hl 4 rfl) ?_
    refine lv_iload_n S.1 S.2.1 dX7_look_152 rfl (lv_at hl 2 rfl) ?_
    refine lv_icmp_ge (tgt := 283) S.1 S.2.1 dX7_look_153 (by decide) (fun c36 => ?_) (fun c36 => ?_)
    · have h := h.1 c36
      obtain ⟨v37, ev37⟩ : ∃ y : Int32, y = x3 + (-1) := ⟨_, rfl⟩
      have h := h v37 ev37
      refine lv_iinc (v := v37) (lv' := [(3, .int v37), (0, .ref (σ 0)), (1, .int a1), (2, .int x2), (4, .int x4)]) S.1 S.2.1 dX7_look_283 hl (k := 3) rfl (by rw [ev37]; rfl) (by decide) rfl (fun ls hl => ?_)
      refine lv_goto (tgt := 143) S.1 S.2.1 dX7_look_286 (by decide) ?_
      exact (e143 _ _ _).mp h H locs ls hW (lv_sub hl [1, 2, 3, 0] rfl)
    · have h := h.2 c36
      refine lv_aload_n S.1 S.2.1 dX7_look_156 rfl (lv_at hl 0 rfl) ?_
      refine r_getR (j := 17) S hW inX7 rfl f48 rfl LM_0 (by decide) rfl dX7_look_157 ?_
      refine lv_sipush (v := 1024) S.1 S.2.1 dX7_look_160 rfl ?_
      refine lv_iload_n S.1 S.2.1 dX7_look_163 rfl (lv_at hl 3 rfl) ?_
      refine lv_iconst (v := 1) S.1 S.2.1 dX7_look_164 rfl ?_
      refine lv_iadd S.1 S.2.1 dX7_look_165 ?_
      refine lv_imul S.1 S.2.1 dX7_look_166 ?_
      refine lv_iload S.1 S.2.1 dX7_look_167 (lv_at hl 4 rfl) ?_
      refine lv_iadd S.1 S.2.1 dX7_look_169 ?_
      have b38 := h.1
      have h := h.2
      refine r_zald S hW LM_13 b38 dX7_look_170 ?_
      refine lv_topi (fun v39 ev39 => ?_)
      have h := h v39 ev39
      refine lv_istore (lv' := [(5, .int v39), (0, .ref (σ 0)), (1, .int a1), (2, .int x2), (3, .int x3), (4, .int x4)]) S.1 S.2.1 dX7_look_171 hl (by decide) rfl (fun ls hl => ?_)
      refine lv_iload S.1 S.2.1 dX7_look_173 (lv_at hl 5 rfl) ?_
      refine lv_istore (lv' := [(6, .int x4), (5, .int v39), (0, .ref (σ 0)), (1, .int a1), (2, .int x2), (3, .int x3), (4, .int x4)]) S.1 S.2.1 dX7_look_175 hl (by decide) rfl (fun ls hl => ?_)
      exact (e177 _ _ _ _ _ _).mp h H locs ls hW (lv_sub hl [2, 3, 4, 5, 6, 1, 0] rfl)
  have z177 : ∀ x2 x3 x4 x5 x6 M, qX7_look_b177 a1 post R9 R31 R143 R150 R177 R247 R262 x2 x3 x4 x5 x6 M → R177 x2 x3 x4 x5 x6 M := by
    intro x2 x3 x4 x5 x6 M h
    refine (e177 _ _ _ _ _ _).mpr (fun H locs ls hW hl => ?_)
    refine lv_iload S.1 S.2.1 dX7_look_177 (lv_at hl 6 rfl) ?_
    refine lv_if_le (tgt := 262) S.1 S.2.1 dX7_look_179 (by decide) (fun c40 => ?_) (fun c40 => ?_)
    · have h := h.1 c40
      exact (e262 _ _ _ _ _).mp h H locs ls hW (lv_sub hl [0, 1, 2, 3, 4, 5] rfl)
    · have h := h.2 c40
      refine lv_iload S.1 S.2.1 dX7_look_182 (lv_at hl 5 rfl) ?_
      refine lv_if_ne (tgt := 262) S.1 S.2.1 dX7_look_184 (by decide) (fun c41 => ?_) (fun c41 => ?_)
      · have h := h.1 c41
        exact (e262 _ _ _ _ _).mp h H locs ls hW (lv_sub hl [0, 1, 2, 3, 4, 5] rfl)
      · have h := h.2 c41
        refine lv_aload_n S.1 S.2.1 dX7_look_187 rfl (lv_at hl 0 rfl) ?_
        refine lv_iload_n S.1 S.2.1 dX7_look_188 rfl (lv_at hl 3 rfl) ?_
        refine lv_iload_n S.1 S.2.1 dX7_look_189 rfl (lv_at hl 1 rfl) ?_
        refine r_goI (r_runV (rest := []) S hW (mX7_stands l D T σ M x3 a1 _ h) w139 rfl LM_0 rfl hl.1 rfl (Nat.le_of_ble_eq_true rfl) dX7_look_190 ⟨Nat.zero_le _, Nat.zero_le _⟩) hW (fun r42 M43 H locs h hW => ?_)
        refine lv_if_eq (tgt := 262) S.1 S.2.1 dX7_look_193 (by decide) (fun c44 => ?_) (fun c44 => ?_)
        · have h := h.1 c44
          exact (e262 _ _ _ _ _).mp h H locs ls hW (lv_sub hl [0, 1, 2, 3, 4, 5] rfl)
        · have h := h.2 c44
          refine lv_aload_n S.1 S.2.1 dX7_look_196 rfl (lv_at hl 0 rfl) ?_
          refine r_getR (j := 16) S hW inX7 rfl f45 rfl LM_0 (by decide) rfl dX7_look_197 ?_
          refine lv_iload S.1 S.2.1 dX7_look_200 (lv_at hl 6 rfl) ?_
          have b45 := h.1
          have h := h.2
          refine r_zald S hW LM_12 b45 dX7_look_202 ?_
          refine lv_if_eq (tgt := 247) S.1 S.2.1 dX7_look_203 (by decide) (fun c46 => ?_) (fun c46 => ?_)
          · have h := h.1 c46
            exact (e247 _ _ _ _ _).mp h H locs ls hW (lv_sub hl [0, 1, 2, 3, 4, 6] rfl)
          · have h := h.2 c46
            refine lv_aload_n S.1 S.2.1 dX7_look_206 rfl (lv_at hl 0 rfl) ?_
            refine r_getR (j := 15) S hW inX7 rfl f42 rfl LM_0 (by decide) rfl dX7_look_207 ?_
            refine lv_iload S.1 S.2.1 dX7_look_210 (lv_at hl 6 rfl) ?_
            have b47 := h.1
            have h := h.2
            refine r_iald S hW LM_11 b47 dX7_look_212 ?_
            refine lv_aload_n S.1 S.2.1 dX7_look_213 rfl (lv_at hl 0 rfl) ?_
            refine r_getR (j := 8) S hW inX7 rfl f20 rfl LM_0 (by decide) rfl dX7_look_214 ?_
            refine lv_iload_n S.1 S.2.1 dX7_look_217 rfl (lv_at hl 3 rfl) ?_
            have b48 := h.1
            have h := h.2
            refine r_iald S hW LM_4 b48 dX7_look_218 ?_
            refine lv_icmp_gt (tgt := 247) S.1 S.2.1 dX7_look_219 (by decide) (fun c49 => ?_) (fun c49 => ?_)
            · have h := h.1 c49
              exact (e247 _ _ _ _ _).mp h H locs ls hW (lv_sub hl [0, 1, 2, 3, 4, 6] rfl)
            · have h := h.2 c49
              refine lv_aload_n S.1 S.2.1 dX7_look_222 rfl (lv_at hl 0 rfl) ?_
              refine r_getR (j := 17) S hW inX7 rfl f48 rfl LM_0 (by decide) rfl dX7_look_223 ?_
              refine lv_sipush (v := 1024) S.1 S.2.1 dX7_look_226 rfl ?_
              refine lv_iload_n S.1 S.2.1 dX7_look_229 rfl (lv_at hl 3 rfl) ?_
              refine lv_iconst (v := 1) S.1 S.2.1 dX7_look_230 rfl ?_
              refine lv_iadd S.1 S.2.1 dX7_look_231 ?_
              refine lv_imul S.1 S.2.1 dX7_look_232 ?_
              refine lv_iload S.1 S.2.1 dX7_look_233 (lv_at hl 4 rfl) ?_
              refine lv_iload S.1 S.2.1 dX7_look_235 (lv_at hl 6 rfl) ?_
              refine lv_ixor S.1 S.2.1 dX7_look_237 ?_
              refine lv_iadd S.1 S.2.1 dX7_look_238 ?_
              have b50 := h.1
              have h := h.2
              refine r_zald S hW LM_13 b50 dX7_look_239 ?_
              refine lv_if_eq (tgt := 247) S.1 S.2.1 dX7_look_240 (by decide) (fun c51 => ?_) (fun c51 => ?_)
              · have h := h.1 c51
                exact (e247 _ _ _ _ _).mp h H locs ls hW (lv_sub hl [0, 1, 2, 3, 4, 6] rfl)
              · have h := h.2 c51
                refine lv_iconst (v := 1) S.1 S.2.1 dX7_look_243 rfl ?_
                refine lv_goto (tgt := 248) S.1 S.2.1 dX7_look_244 (by decide) ?_
                refine lv_istore (lv' := [(5, .int (1 : Int32)), (0, .ref (σ 0)), (1, .int a1), (2, .int x2), (3, .int x3), (4, .int x4), (6, .int x6)]) S.1 S.2.1 dX7_look_248 hl (by decide) rfl (fun ls hl => ?_)
                refine lv_iload S.1 S.2.1 dX7_look_250 (lv_at hl 6 rfl) ?_
                refine lv_iconst (v := 1) S.1 S.2.1 dX7_look_252 rfl ?_
                refine lv_isub S.1 S.2.1 dX7_look_253 ?_
                refine lv_iload S.1 S.2.1 dX7_look_254 (lv_at hl 5 rfl) ?_
                refine lv_iand S.1 S.2.1 dX7_look_256 ?_
                refine lv_topi (fun v52 ev52 => ?_)
                have h := h v52 ev52
                refine lv_istore (lv' := [(6, .int v52), (5, .int (1 : Int32)), (0, .ref (σ 0)), (1, .int a1), (2, .int x2), (3, .int x3), (4, .int x4)]) S.1 S.2.1 dX7_look_257 hl (by decide) rfl (fun ls hl => ?_)
                refine lv_goto (tgt := 177) S.1 S.2.1 dX7_look_259 (by decide) ?_
                exact (e177 _ _ _ _ _ _).mp h H locs ls hW (lv_sub hl [2, 3, 4, 5, 6, 1, 0] rfl)
  have z247 : ∀ x2 x3 x4 x6 M, qX7_look_b247 a1 post R9 R31 R143 R150 R177 R247 R262 x2 x3 x4 x6 M → R247 x2 x3 x4 x6 M := by
    intro x2 x3 x4 x6 M h
    refine (e247 _ _ _ _ _).mpr (fun H locs ls hW hl => ?_)
    refine lv_iconst (v := 0) S.1 S.2.1 dX7_look_247 rfl ?_
    refine lv_istore (lv' := [(5, .int (0 : Int32)), (0, .ref (σ 0)), (1, .int a1), (2, .int x2), (3, .int x3), (4, .int x4), (6, .int x6)]) S.1 S.2.1 dX7_look_248 hl (by decide) rfl (fun ls hl => ?_)
    refine lv_iload S.1 S.2.1 dX7_look_250 (lv_at hl 6 rfl) ?_
    refine lv_iconst (v := 1) S.1 S.2.1 dX7_look_252 rfl ?_
    refine lv_isub S.1 S.2.1 dX7_look_253 ?_
    refine lv_iload S.1 S.2.1 dX7_look_254 (lv_at hl 5 rfl) ?_
    refine lv_iand S.1 S.2.1 dX7_look_256 ?_
    refine lv_topi (fun v53 ev53 => ?_)
    have h := h v53 ev53
    refine lv_istore (lv' := [(6, .int v53), (5, .int (0 : Int32)), (0, .ref (σ 0)), (1, .int a1), (2, .int x2), (3, .int x3), (4, .int x4)]) S.1 S.2.1 dX7_look_257 hl (by decide) rfl (fun ls hl => ?_)
    refine lv_goto (tgt := 177) S.1 S.2.1 dX7_look_259 (by decide) ?_
    exact (e177 _ _ _ _ _ _).mp h H locs ls hW (lv_sub hl [2, 3, 4, 5, 6, 1, 0] rfl)
  have z262 : ∀ x2 x3 x4 x5 M, qX7_look_b262 a1 post R9 R31 R143 R150 R177 R247 R262 x2 x3 x4 x5 M → R262 x2 x3 x4 x5 M := by
    intro x2 x3 x4 x5 M h
    refine (e262 _ _ _ _ _).mpr (fun H locs ls hW hl => ?_)
    refine lv_aload_n S.1 S.2.1 dX7_look_262 rfl (lv_at hl 0 rfl) ?_
    refine r_getR (j := 17) S hW inX7 rfl f48 rfl LM_0 (by decide) rfl dX7_look_263 ?_
    refine lv_sipush (v := 1024) S.1 S.2.1 dX7_look_266 rfl ?_
    refine lv_iload_n S.1 S.2.1 dX7_look_269 rfl (lv_at hl 3 rfl) ?_
    refine lv_imul S.1 S.2.1 dX7_look_270 ?_
    refine lv_iload S.1 S.2.1 dX7_look_271 (lv_at hl 4 rfl) ?_
    refine lv_iadd S.1 S.2.1 dX7_look_273 ?_
    refine lv_iload S.1 S.2.1 dX7_look_274 (lv_at hl 5 rfl) ?_
    have b54 := h.1
    have h := h.2
    refine r_zast S hW LM_13 b54 dX7_look_276 (fun M55 H locs eM55 hW => ?_)
    have h := h M55 eM55
    obtain ⟨v56, ev56⟩ : ∃ y : Int32, y = x4 + 1 := ⟨_, rfl⟩
    have h := h v56 ev56
    refine lv_iinc (v := v56) (lv' := [(4, .int v56), (0, .ref (σ 0)), (1, .int a1), (2, .int x2), (3, .int x3), (5, .int x5)]) S.1 S.2.1 dX7_look_277 hl (k := 4) rfl (by rw [ev56]; rfl) (by decide) rfl (fun ls hl => ?_)
    refine lv_goto (tgt := 150) S.1 S.2.1 dX7_look_280 (by decide) ?_
    exact (e150 _ _ _ _).mp h H locs ls hW (lv_sub hl [1, 2, 3, 4, 0] rfl)
  have h := h z9 z31 z143 z150 z177 z247 z262
  refine lv_iconst (v := 1) S.1 S.2.1 dX7_look_0 rfl ?_
  refine lv_aload_n S.1 S.2.1 dX7_look_1 rfl (lv_at hl 0 rfl) ?_
  refine r_getI (j := 5) S hW inX7 rfl f133 rfl LM_0 (by decide) rfl dX7_look_2 ?_
  refine lv_ishl S.1 S.2.1 dX7_look_5 ?_
  refine lv_topi (fun v1 ev1 => ?_)
  have h := h v1 ev1
  refine lv_istore_n (lv' := [(2, .int v1), (0, .ref (σ 0)), (1, .int a1)]) S.1 S.2.1 dX7_look_6 rfl hl (by decide) rfl (fun ls hl => ?_)
  refine lv_iconst (v := 0) S.1 S.2.1 dX7_look_7 rfl ?_
  refine lv_istore_n (lv' := [(3, .int (0 : Int32)), (2, .int v1), (0, .ref (σ 0)), (1, .int a1)]) S.1 S.2.1 dX7_look_8 rfl hl (by decide) rfl (fun ls hl => ?_)
  exact (e9 _ _ _).mp h H locs ls hW (lv_sub hl [2, 3, 1, 0] rfl)
abbrev rmX7_setOf : Room := { frames := 0, cells := 0, slots := 0, locals := 0 }
set_option maxHeartbeats 4000000 in
set_option maxRecDepth 100000 in
theorem mX7_setOf (l : Launch) (D : va_G) (T : Nat → ClassId) (σ : Nat → Nat) (M : Mem) (a1 : Int32) (post : Int32 → Mem → Prop) (h : qX7_setOf a1 M post) : Met l yX7_setOf wsX7_setOf rmX7_setOf (preW D T LM σ [.ref (σ 0), .int a1] M) (postI D T LM σ post) 0 0 (fA LM σ) := by
  refine m_of (cc := cX7_setOf) (maxL := 4) (ret := (some .int)) (own := RX7) (by decide) rfl rfl (Nat.le_of_ble_eq_true rfl) ?_
  intro p e s m args below meth c H ls locs S hr hlk hl hW
  have hl : lv_has ls 4 [(0, .ref (σ 0)), (1, .int a1)] := hl
  have inX7 : ∀ w ∈ u_ws RX7 TX7 42, w ∈ wsX7_setOf := by decide +kernel
  have f133 := S.2.2.2.2 (.fieldLink RX7 133 "MachineHallModel" "asks" "I") (by decide +kernel)
  have f33 := S.2.2.2.2 (.fieldLink RX7 33 "MachineHallModel" "first" "[I") (by decide +kernel)
  have f36 := S.2.2.2.2 (.fieldLink RX7 36 "MachineHallModel" "last" "[I") (by decide +kernel)
  obtain ⟨R4, e4⟩ : ∃ R : Int32 → Int32 → Mem → Prop, ∀ x2 x3 M, R x2 x3 M ↔ WW p l e rmX7_setOf s m args below meth c D T LM σ 4 (MQ below (postI D T LM σ post) args s 0 0 (fA LM σ)) 4 [(0, .ref (σ 0)), (1, .int a1), (2, .int x2), (3, .int x3)] [] M := ⟨_, fun _ _ _ => Iff.rfl⟩
  have h := h R4
  have z4 : ∀ x2 x3 M, qX7_setOf_b4 a1 post R4 x2 x3 M → R4 x2 x3 M := by
    intro x2 x3 M h
    refine (e4 _ _ _).mpr (fun H locs ls hW hl => ?_)
    refine lv_iload_n S.1 S.2.1 dX7_setOf_4 rfl (lv_at hl 3 rfl) ?_
    refine lv_aload_n S.1 S.2.1 dX7_setOf_5 rfl (lv_at hl 0 rfl) ?_
    refine r_getI (j := 5) S hW inX7 rfl f133 rfl LM_0 (by decide) rfl dX7_setOf_6 ?_
    refine lv_icmp_ge (tgt := 44) S.1 S.2.1 dX7_setOf_9 (by decide) (fun c1 => ?_) (fun c1 => ?_)
    · have h := h.1 c1
      refine lv_iload_n S.1 S.2.1 dX7_setOf_44 rfl (lv_at hl 2 rfl) ?_
      exact r_iret S hr hlk hW h dX7_setOf_45
    · have h := h.2 c1
      refine lv_aload_n S.1 S.2.1 dX7_setOf_12 rfl (lv_at hl 0 rfl) ?_
      refine r_getR (j := 12) S hW inX7 rfl f33 rfl LM_0 (by decide) rfl dX7_setOf_13 ?_
      refine lv_iload_n S.1 S.2.1 dX7_setOf_16 rfl (lv_at hl 3 rfl) ?_
      have b2 := h.1
      have h := h.2
      refine r_iald S hW LM_8 b2 dX7_setOf_17 ?_
      refine lv_iload_n S.1 S.2.1 dX7_setOf_18 rfl (lv_at hl 1 rfl) ?_
      refine lv_icmp_gt (tgt := 38) S.1 S.2.1 dX7_setOf_19 (by decide) (fun c3 => ?_) (fun c3 => ?_)
      · have h := h.1 c3
        obtain ⟨v4, ev4⟩ : ∃ y : Int32, y = x3 + 1 := ⟨_, rfl⟩
        have h := h v4 ev4
        refine lv_iinc (v := v4) (lv' := [(3, .int v4), (0, .ref (σ 0)), (1, .int a1), (2, .int x2)]) S.1 S.2.1 dX7_setOf_38 hl (k := 3) rfl (by rw [ev4]; rfl) (by decide) rfl (fun ls hl => ?_)
        refine lv_goto (tgt := 4) S.1 S.2.1 dX7_setOf_41 (by decide) ?_
        exact (e4 _ _ _).mp h H locs ls hW (lv_sub hl [1, 2, 3, 0] rfl)
      · have h := h.2 c3
        refine lv_iload_n S.1 S.2.1 dX7_setOf_22 rfl (lv_at hl 1 rfl) ?_
        refine lv_aload_n S.1 S.2.1 dX7_setOf_23 rfl (lv_at hl 0 rfl) ?_
        refine r_getR (j := 13) S hW inX7 rfl f36 rfl LM_0 (by decide) rfl dX7_setOf_24 ?_
        refine lv_iload_n S.1 S.2.1 dX7_setOf_27 rfl (lv_at hl 3 rfl) ?_
        have b5 := h.1
        have h := h.2
        refine r_iald S hW LM_9 b5 dX7_setOf_28 ?_
        refine lv_icmp_gt (tgt := 38) S.1 S.2.1 dX7_setOf_29 (by decide) (fun c6 => ?_) (fun c6 => ?_)
        · have h := h.1 c6
          obtain ⟨v7, ev7⟩ : ∃ y : Int32, y = x3 + 1 := ⟨_, rfl⟩
          have h := h v7 ev7
          refine lv_iinc (v := v7) (lv' := [(3, .int v7), (0, .ref (σ 0)), (1, .int a1), (2, .int x2)]) S.1 S.2.1 dX7_setOf_38 hl (k := 3) rfl (by rw [ev7]; rfl) (by decide) rfl (fun ls hl => ?_)
          refine lv_goto (tgt := 4) S.1 S.2.1 dX7_setOf_41 (by decide) ?_
          exact (e4 _ _ _).mp h H locs ls hW (lv_sub hl [1, 2, 3, 0] rfl)
        · have h := h.2 c6
          refine lv_iload_n S.1 S.2.1 dX7_setOf_32 rfl (lv_at hl 2 rfl) ?_
          refine lv_iconst (v := 1) S.1 S.2.1 dX7_setOf_33 rfl ?_
          refine lv_iload_n S.1 S.2.1 dX7_setOf_34 rfl (lv_at hl 3 rfl) ?_
          refine lv_ishl S.1 S.2.1 dX7_setOf_35 ?_
          refine lv_ior S.1 S.2.1 dX7_setOf_36 ?_
          refine lv_topi (fun v8 ev8 => ?_)
          have h := h v8 ev8
          refine lv_istore_n (lv' := [(2, .int v8), (0, .ref (σ 0)), (1, .int a1), (3, .int x3)]) S.1 S.2.1 dX7_setOf_37 rfl hl (by decide) rfl (fun ls hl => ?_)
          obtain ⟨v9, ev9⟩ : ∃ y : Int32, y = x3 + 1 := ⟨_, rfl⟩
          have h := h v9 ev9
          refine lv_iinc (v := v9) (lv' := [(3, .int v9), (2, .int v8), (0, .ref (σ 0)), (1, .int a1)]) S.1 S.2.1 dX7_setOf_38 hl (k := 3) rfl (by rw [ev9]; rfl) (by decide) rfl (fun ls hl => ?_)
          refine lv_goto (tgt := 4) S.1 S.2.1 dX7_setOf_41 (by decide) ?_
          exact (e4 _ _ _).mp h H locs ls hW (lv_sub hl [2, 3, 1, 0] rfl)
  have h := h z4
  refine lv_iconst (v := 0) S.1 S.2.1 dX7_setOf_0 rfl ?_
  refine lv_istore_n (lv' := [(2, .int (0 : Int32)), (0, .ref (σ 0)), (1, .int a1)]) S.1 S.2.1 dX7_setOf_1 rfl hl (by decide) rfl (fun ls hl => ?_)
  refine lv_iconst (v := 0) S.1 S.2.1 dX7_setOf_2 rfl ?_
  refine lv_istore_n (lv' := [(3, .int (0 : Int32)), (2, .int (0 : Int32)), (0, .ref (σ 0)), (1, .int a1)]) S.1 S.2.1 dX7_setOf_3 rfl hl (by decide) rfl (fun ls hl => ?_)
  exact (e4 _ _ _).mp h H locs ls hW (lv_sub hl [2, 3, 1, 0] rfl)
abbrev rmX7_fits : Room := { frames := 2, cells := 0, slots := 0, locals := 48 }
set_option maxHeartbeats 4000000 in
set_option maxRecDepth 100000 in
theorem mX7_fits (l : Launch) (D : va_G) (T : Nat → ClassId) (σ : Nat → Nat) (M : Mem) (a1 : Int32) (a2 : Int32) (post : Int32 → Mem → Prop) (h : qX7_fits a1 a2 M post) : Met l yX7_fits wsX7_fits rmX7_fits (preW D T LM σ [.ref (σ 0), .int a1, .int a2] M) (postI D T LM σ post) 0 0 (fA LM σ) := by
  refine m_of (cc := cX7_fits) (maxL := 3) (ret := (some .int)) (own := RX7) (by decide) rfl rfl (Nat.le_of_ble_eq_true rfl) ?_
  intro p e s m args below meth c H ls locs S hr hlk hl hW
  have hl : lv_has ls 3 [(0, .ref (σ 0)), (1, .int a1), (2, .int a2)] := hl
  have w152 := va_cwS (R := rmX7_fits) (rm := rmX7_isHour) (mc := 0) (ms := 0) 1 S.2.2.2.2 gX7_fits_X7_isHour rfl rfl rfl (by decide +kernel) ⟨Nat.le_of_ble_eq_true rfl, Nat.le_of_ble_eq_true rfl⟩
  have w126 := cwV (R := rmX7_fits) (rm := rmX7_refuse) (mc := 0) (ms := 0) 1 S.2.2.2.2 gX7_fits_X7_refuse rfl rfl rfl (by decide +kernel) ⟨Nat.le_of_ble_eq_true rfl, Nat.le_of_ble_eq_true rfl⟩
  have w155 := va_cwS (R := rmX7_fits) (rm := rmX7_isFall) (mc := 0) (ms := 0) 1 S.2.2.2.2 gX7_fits_X7_isFall rfl rfl rfl (by decide +kernel) ⟨Nat.le_of_ble_eq_true rfl, Nat.le_of_ble_eq_true rfl⟩
  have w158 := cwV (R := rmX7_fits) (rm := rmX7_look) (mc := 0) (ms := 0) 1 S.2.2.2.2 gX7_fits_X7_look rfl rfl rfl (by decide +kernel) ⟨Nat.le_of_ble_eq_true rfl, Nat.le_of_ble_eq_true rfl⟩
  have inX7 : ∀ w ∈ u_ws RX7 TX7 42, w ∈ wsX7_fits := by decide +kernel
  have f105 := S.2.2.2.2 (.fieldLink RX7 105 "MachineHallModel" "status" "I") (by decide +kernel)
  have f48 := S.2.2.2.2 (.fieldLink RX7 48 "MachineHallModel" "can" "[Z") (by decide +kernel)
  have w162 := cwV (R := rmX7_fits) (rm := rmX7_setOf) (mc := 0) (ms := 0) 1 S.2.2.2.2 gX7_fits_X7_setOf rfl rfl rfl (by decide +kernel) ⟨Nat.le_of_ble_eq_true rfl, Nat.le_of_ble_eq_true rfl⟩
  refine lv_iload_n S.1 S.2.1 dX7_fits_0 rfl (lv_at hl 1 rfl) ?_
  refine r_goI (r_runS (rest := []) S hW (mX7_isHour l D T σ M a1 _ h) w152 rfl hl.1 rfl (Nat.le_of_ble_eq_true rfl) dX7_fits_1 ⟨Nat.zero_le _, Nat.zero_le _⟩) hW (fun r1 M2 H locs h hW => ?_)
  refine lv_if_eq (tgt := 14) S.1 S.2.1 dX7_fits_4 (by decide) (fun c3 => ?_) (fun c3 => ?_)
  · have h := h.1 c3
    refine lv_aload_n S.1 S.2.1 dX7_fits_14 rfl (lv_at hl 0 rfl) ?_
    refine lv_iconst (v := 1) S.1 S.2.1 dX7_fits_15 rfl ?_
    refine r_goI (r_runV (rest := []) S hW (mX7_refuse l D T σ M2 (1 : Int32) _ h) w126 rfl LM_0 rfl hl.1 rfl (Nat.le_of_ble_eq_true rfl) dX7_fits_16 ⟨Nat.zero_le _, Nat.zero_le _⟩) hW (fun r4 M5 H locs h hW => ?_)
    exact r_iret S hr hlk hW h dX7_fits_19
  · have h := h.2 c3
    refine lv_iload_n S.1 S.2.1 dX7_fits_7 rfl (lv_at hl 2 rfl) ?_
    refine r_goI (r_runS (rest := []) S hW (mX7_isFall l D T σ M2 a2 _ h) w155 rfl hl.1 rfl (Nat.le_of_ble_eq_true rfl) dX7_fits_8 ⟨Nat.zero_le _, Nat.zero_le _⟩) hW (fun r6 M7 H locs h hW => ?_)
    refine lv_if_ne (tgt := 20) S.1 S.2.1 dX7_fits_11 (by decide) (fun c8 => ?_) (fun c8 => ?_)
    · have h := h.1 c8
      refine lv_aload_n S.1 S.2.1 dX7_fits_20 rfl (lv_at hl 0 rfl) ?_
      refine lv_iload_n S.1 S.2.1 dX7_fits_21 rfl (lv_at hl 2 rfl) ?_
      refine r_goV (r_runV (rest := []) S hW (mX7_look l D T σ M7 a2 _ h) w158 rfl LM_0 rfl hl.1 rfl (Nat.le_of_ble_eq_true rfl) dX7_fits_22 ⟨Nat.zero_le _, Nat.zero_le _⟩) hW (fun M10 H locs h hW => ?_)
      refine lv_aload_n S.1 S.2.1 dX7_fits_25 rfl (lv_at hl 0 rfl) ?_
      refine lv_iconst (v := 0) S.1 S.2.1 dX7_fits_26 rfl ?_
      refine r_putI (j := 0) S hW inX7 rfl f105 rfl LM_0 (by decide) rfl tyX7 tyX7_ok nmX7 rfl rfl rfl dX7_fits_27 (fun M11 H locs eM11 hW => ?_)
      have h := h M11 eM11
      refine lv_aload_n S.1 S.2.1 dX7_fits_30 rfl (lv_at hl 0 rfl) ?_
      refine r_getR (j := 17) S hW inX7 rfl f48 rfl LM_0 (by decide) rfl dX7_fits_31 ?_
      refine lv_aload_n S.1 S.2.1 dX7_fits_34 rfl (lv_at hl 0 rfl) ?_
      refine lv_iload_n S.1 S.2.1 dX7_fits_35 rfl (lv_at hl 1 rfl) ?_
      refine r_goI (r_runV (rest := [.ref (σ 13)]) S hW (mX7_setOf l D T σ M11 a1 _ h) w162 rfl LM_0 rfl hl.1 rfl (Nat.le_of_ble_eq_true rfl) dX7_fits_36 ⟨Nat.zero_le _, Nat.zero_le _⟩) hW (fun r12 M13 H locs h hW => ?_)
      have b14 := h.1
      have h := h.2
      refine r_zald S hW LM_13 b14 dX7_fits_39 ?_
      refine lv_if_eq (tgt := 47) S.1 S.2.1 dX7_fits_40 (by decide) (fun c15 => ?_) (fun c15 => ?_)
      · have h := h.1 c15
        refine lv_iconst (v := 0) S.1 S.2.1 dX7_fits_47 rfl ?_
        exact r_iret S hr hlk hW h dX7_fits_48
      · have h := h.2 c15
        refine lv_iconst (v := 1) S.1 S.2.1 dX7_fits_43 rfl ?_
        refine lv_goto (tgt := 48) S.1 S.2.1 dX7_fits_44 (by decide) ?_
        exact r_iret S hr hlk hW h dX7_fits_48
    · have h := h.2 c8
      refine lv_aload_n S.1 S.2.1 dX7_fits_14 rfl (lv_at hl 0 rfl) ?_
      refine lv_iconst (v := 1) S.1 S.2.1 dX7_fits_15 rfl ?_
      refine r_goI (r_runV (rest := []) S hW (mX7_refuse l D T σ M7 (1 : Int32) _ h) w126 rfl LM_0 rfl hl.1 rfl (Nat.le_of_ble_eq_true rfl) dX7_fits_16 ⟨Nat.zero_le _, Nat.zero_le _⟩) hW (fun r16 M17 H locs h hW => ?_)
      exact r_iret S hr hlk hW h dX7_fits_19
abbrev rmX7_on : Room := { frames := 2, cells := 0, slots := 0, locals := 48 }
set_option maxHeartbeats 4000000 in
set_option maxRecDepth 100000 in
theorem mX7_on (l : Launch) (D : va_G) (T : Nat → ClassId) (σ : Nat → Nat) (M : Mem) (a1 : Int32) (a2 : Int32) (a3 : Int32) (post : Int32 → Mem → Prop) (h : qX7_on a1 a2 a3 M post) : Met l yX7_on wsX7_on rmX7_on (preW D T LM σ [.ref (σ 0), .int a1, .int a2, .int a3] M) (postI D T LM σ post) 0 0 (fA LM σ) := by
  refine m_of (cc := cX7_on) (maxL := 7) (ret := (some .int)) (own := RX7) (by decide) rfl rfl (Nat.le_of_ble_eq_true rfl) ?_
  intro p e s m args below meth c H ls locs S hr hlk hl hW
  have hl : lv_has ls 7 [(0, .ref (σ 0)), (1, .int a1), (2, .int a2), (3, .int a3)] := hl
  have w152 := va_cwS (R := rmX7_on) (rm := rmX7_isHour) (mc := 0) (ms := 0) 1 S.2.2.2.2 gX7_on_X7_isHour rfl rfl rfl (by decide +kernel) ⟨Nat.le_of_ble_eq_true rfl, Nat.le_of_ble_eq_true rfl⟩
  have w126 := cwV (R := rmX7_on) (rm := rmX7_refuse) (mc := 0) (ms := 0) 1 S.2.2.2.2 gX7_on_X7_refuse rfl rfl rfl (by decide +kernel) ⟨Nat.le_of_ble_eq_true rfl, Nat.le_of_ble_eq_true rfl⟩
  have w155 := va_cwS (R := rmX7_on) (rm := rmX7_isFall) (mc := 0) (ms := 0) 1 S.2.2.2.2 gX7_on_X7_isFall rfl rfl rfl (by decide +kernel) ⟨Nat.le_of_ble_eq_true rfl, Nat.le_of_ble_eq_true rfl⟩
  have w136 := cwV (R := rmX7_on) (rm := rmX7_isAsk) (mc := 0) (ms := 0) 1 S.2.2.2.2 gX7_on_X7_isAsk rfl rfl rfl (by decide +kernel) ⟨Nat.le_of_ble_eq_true rfl, Nat.le_of_ble_eq_true rfl⟩
  have w162 := cwV (R := rmX7_on) (rm := rmX7_setOf) (mc := 0) (ms := 0) 1 S.2.2.2.2 gX7_on_X7_setOf rfl rfl rfl (by decide +kernel) ⟨Nat.le_of_ble_eq_true rfl, Nat.le_of_ble_eq_true rfl⟩
  have w158 := cwV (R := rmX7_on) (rm := rmX7_look) (mc := 0) (ms := 0) 1 S.2.2.2.2 gX7_on_X7_look rfl rfl rfl (by decide +kernel) ⟨Nat.le_of_ble_eq_true rfl, Nat.le_of_ble_eq_true rfl⟩
  have inX7 : ∀ w ∈ u_ws RX7 TX7 42, w ∈ wsX7_on := by decide +kernel
  have f48 := S.2.2.2.2 (.fieldLink RX7 48 "MachineHallModel" "can" "[Z") (by decide +kernel)
  have f105 := S.2.2.2.2 (.fieldLink RX7 105 "MachineHallModel" "status" "I") (by decide +kernel)
  have f130 := S.2.2.2.2 (.fieldLink RX7 130 "MachineHallModel" "machines" "I") (by decide +kernel)
  have w139 := cwV (R := rmX7_on) (rm := rmX7_stands) (mc := 0) (ms := 0) 2 S.2.2.2.2 gX7_on_X7_stands rfl rfl rfl (by decide +kernel) ⟨Nat.le_of_ble_eq_true rfl, Nat.le_of_ble_eq_true rfl⟩
  have f45 := S.2.2.2.2 (.fieldLink RX7 45 "MachineHallModel" "may" "[Z") (by decide +kernel)
  have f42 := S.2.2.2.2 (.fieldLink RX7 42 "MachineHallModel" "needs" "[I") (by decide +kernel)
  have f20 := S.2.2.2.2 (.fieldLink RX7 20 "MachineHallModel" "size" "[I") (by decide +kernel)
  obtain ⟨R77, e77⟩ : ∃ R : Int32 → Int32 → Mem → Prop, ∀ x4 x5 M, R x4 x5 M ↔ WW p l e rmX7_on s m args below meth c D T LM σ 7 (MQ below (postI D T LM σ post) args s 0 0 (fA LM σ)) 77 [(0, .ref (σ 0)), (2, .int a2), (3, .int a3), (4, .int x4), (5, .int x5)] [] M := ⟨_, fun _ _ _ => Iff.rfl⟩
  obtain ⟨R103, e103⟩ : ∃ R : Int32 → Int32 → Int32 → Mem → Prop, ∀ x4 x5 x6 M, R x4 x5 x6 M ↔ WW p l e rmX7_on s m args below meth c D T LM σ 7 (MQ below (postI D T LM σ post) args s 0 0 (fA LM σ)) 103 [(0, .ref (σ 0)), (2, .int a2), (3, .int a3), (4, .int x4), (5, .int x5), (6, .int x6)] [] M := ⟨_, fun _ _ _ _ => Iff.rfl⟩
  obtain ⟨R157, e157⟩ : ∃ R : Int32 → Int32 → Int32 → Mem → Prop, ∀ x4 x5 x6 M, R x4 x5 x6 M ↔ WW p l e rmX7_on s m args below meth c D T LM σ 7 (MQ below (postI D T LM σ post) args s 0 0 (fA LM σ)) 157 [(0, .ref (σ 0)), (2, .int a2), (3, .int a3), (4, .int x4), (5, .int x5), (6, .int x6)] [] M := ⟨_, fun _ _ _ _ => Iff.rfl⟩
  obtain ⟨R169, e169⟩ : ∃ R : Int32 → Int32 → Int32 → Mem → Prop, ∀ x4 x5 x6 M, R x4 x5 x6 M ↔ WW p l e rmX7_on s m args below meth c D T LM σ 7 (MQ below (postI D T LM σ post) args s 0 0 (fA LM σ)) 169 [(0, .ref (σ 0)), (2, .int a2), (3, .int a3), (4, .int x4), (5, .int x5), (6, .int x6)] [] M := ⟨_, fun _ _ _ _ => Iff.rfl⟩
  have h := h R77 R103 R157 R169
  have z77 : ∀ x4 x5 M, qX7_on_b77 a1 a2 a3 post R77 R103 R157 R169 x4 x5 M → R77 x4 x5 M := by
    intro x4 x5 M h
    refine (e77 _ _ _).mpr (fun H locs ls hW hl => ?_)
    refine lv_iload S.1 S.2.1 dX7_on_77 (lv_at hl 4 rfl) ?_
    refine lv_aload_n S.1 S.2.1 dX7_on_79 rfl (lv_at hl 0 rfl) ?_
    refine r_getI (j := 4) S hW inX7 rfl f130 rfl LM_0 (by decide) rfl dX7_on_80 ?_
    refine lv_icmp_ge (tgt := 195) S.1 S.2.1 dX7_on_83 (by decide) (fun c30 => ?_) (fun c30 => ?_)
    · have h := h.1 c30
      refine lv_iconst (v := -1) S.1 S.2.1 dX7_on_195 rfl ?_
      exact r_iret S hr hlk hW h dX7_on_196
    · have h := h.2 c30
      refine lv_iload S.1 S.2.1 dX7_on_86 (lv_at hl 3 rfl) ?_
      refine lv_istore (lv' := [(6, .int x4), (0, .ref (σ 0)), (2, .int a2), (3, .int a3), (4, .int x4), (5, .int x5)]) S.1 S.2.1 dX7_on_88 hl (by decide) rfl (fun ls hl => ?_)
      refine lv_aload_n S.1 S.2.1 dX7_on_90 rfl (lv_at hl 1 rfl) ?_
      refine lv_iload S.1 S.2.1 dX7_on_91 (lv_at hl 5 rfl) ?_
      refine lv_iload_n S.1 S.2.1 dX7_on_93 rfl (lv_at hl 2 rfl) ?_
      refine r_goI (r_runV (rest := []) S hW (mX7_stands l D T σ M x5 a2 _ h) w139 rfl LM_0 rfl hl.1 rfl (Nat.le_of_ble_eq_true rfl) dX7_on_94 ⟨Nat.zero_le _, Nat.zero_le _⟩) hW (fun r31 M32 H locs h hW => ?_)
      refine lv_if_ne (tgt := 103) S.1 S.2.1 dX7_on_97 (by decide) (fun c33 => ?_) (fun c33 => ?_)
      · have h := h.1 c33
        exact (e103 _ _ _ _).mp h H locs ls hW (lv_sub hl [1, 2, 3, 4, 5, 0] rfl)
      · have h := h.2 c33
        refine lv_iconst (v := 0) S.1 S.2.1 dX7_on_100 rfl ?_
        refine lv_istore (lv' := [(6, .int (0 : Int32)), (0, .ref (σ 0)), (2, .int a2), (3, .int a3), (4, .int x4), (5, .int x5)]) S.1 S.2.1 dX7_on_101 hl (by decide) rfl (fun ls hl => ?_)
        exact (e103 _ _ _ _).mp h H locs ls hW (lv_sub hl [1, 2, 3, 4, 5, 0] rfl)
  have z103 : ∀ x4 x5 x6 M, qX7_on_b103 a1 a2 a3 post R77 R103 R157 R169 x4 x5 x6 M → R103 x4 x5 x6 M := by
    intro x4 x5 x6 M h
    refine (e103 _ _ _ _).mpr (fun H locs ls hW hl => ?_)
    refine lv_iload S.1 S.2.1 dX7_on_103 (lv_at hl 5 rfl) ?_
    refine lv_if_le (tgt := 169) S.1 S.2.1 dX7_on_105 (by decide) (fun c34 => ?_) (fun c34 => ?_)
    · have h := h.1 c34
      exact (e169 _ _ _ _).mp h H locs ls hW (lv_sub hl [0, 1, 2, 3, 4, 5] rfl)
    · have h := h.2 c34
      refine lv_aload_n S.1 S.2.1 dX7_on_108 rfl (lv_at hl 0 rfl) ?_
      refine r_getR (j := 16) S hW inX7 rfl f45 rfl LM_0 (by decide) rfl dX7_on_109 ?_
      refine lv_iload S.1 S.2.1 dX7_on_112 (lv_at hl 5 rfl) ?_
      have b35 := h.1
      have h := h.2
      refine r_zald S hW LM_12 b35 dX7_on_114 ?_
      refine lv_if_eq (tgt := 157) S.1 S.2.1 dX7_on_115 (by decide) (fun c36 => ?_) (fun c36 => ?_)
      · have h := h.1 c36
        exact (e157 _ _ _ _).mp h H locs ls hW (lv_sub hl [0, 1, 2, 3, 4, 5] rfl)
      · have h := h.2 c36
        refine lv_aload_n S.1 S.2.1 dX7_on_118 rfl (lv_at hl 0 rfl) ?_
        refine r_getR (j := 15) S hW inX7 rfl f42 rfl LM_0 (by decide) rfl dX7_on_119 ?_
        refine lv_iload S.1 S.2.1 dX7_on_122 (lv_at hl 5 rfl) ?_
        have b37 := h.1
        have h := h.2
        refine r_iald S hW LM_11 b37 dX7_on_124 ?_
        refine lv_aload_n S.1 S.2.1 dX7_on_125 rfl (lv_at hl 0 rfl) ?_
        refine r_getR (j := 8) S hW inX7 rfl f20 rfl LM_0 (by decide) rfl dX7_on_126 ?_
        refine lv_iload S.1 S.2.1 dX7_on_129 (lv_at hl 4 rfl) ?_
        have b38 := h.1
        have h := h.2
        refine r_iald S hW LM_4 b38 dX7_on_131 ?_
        refine lv_icmp_gt (tgt := 157) S.1 S.2.1 dX7_on_132 (by decide) (fun c39 => ?_) (fun c39 => ?_)
        · have h := h.1 c39
          exact (e157 _ _ _ _).mp h H locs ls hW (lv_sub hl [0, 1, 2, 3, 4, 5] rfl)
        · have h := h.2 c39
          refine lv_aload_n S.1 S.2.1 dX7_on_135 rfl (lv_at hl 0 rfl) ?_
          refine r_getR (j := 17) S hW inX7 rfl f48 rfl LM_0 (by decide) rfl dX7_on_136 ?_
          refine lv_sipush (v := 1024) S.1 S.2.1 dX7_on_139 rfl ?_
          refine lv_iload S.1 S.2.1 dX7_on_142 (lv_at hl 4 rfl) ?_
          refine lv_iconst (v := 1) S.1 S.2.1 dX7_on_144 rfl ?_
          refine lv_iadd S.1 S.2.1 dX7_on_145 ?_
          refine lv_imul S.1 S.2.1 dX7_on_146 ?_
          refine lv_iload S.1 S.2.1 dX7_on_147 (lv_at hl 3 rfl) ?_
          refine lv_iload S.1 S.2.1 dX7_on_149 (lv_at hl 5 rfl) ?_
          refine lv_ixor S.1 S.2.1 dX7_on_151 ?_
          refine lv_iadd S.1 S.2.1 dX7_on_152 ?_
          have b40 := h.1
          have h := h.2
          refine r_zald S hW LM_13 b40 dX7_on_153 ?_
          refine lv_if_ne (tgt := 169) S.1 S.2.1 dX7_on_154 (by decide) (fun c41 => ?_) (fun c41 => ?_)
          · have h := h.1 c41
            exact (e169 _ _ _ _).mp h H locs ls hW (lv_sub hl [0, 1, 2, 3, 4, 5] rfl)
          · have h := h.2 c41
            exact (e157 _ _ _ _).mp h H locs ls hW (lv_sub hl [0, 1, 2, 3, 4, 5] rfl)
  have z157 : ∀ x4 x5 x6 M, qX7_on_b157 a1 a2 a3 post R77 R103 R157 R169 x4 x5 x6 M → R157 x4 x5 x6 M := by
    intro x4 x5 x6 M h
    refine (e157 _ _ _ _).mpr (fun H locs ls hW hl => ?_)
    refine lv_iload S.1 S.2.1 dX7_on_157 (lv_at hl 5 rfl) ?_
    refine lv_iconst (v := 1) S.1 S.2.1 dX7_on_159 rfl ?_
    refine lv_isub S.1 S.2.1 dX7_on_160 ?_
    refine lv_iload S.1 S.2.1 dX7_on_161 (lv_at hl 3 rfl) ?_
    refine lv_iand S.1 S.2.1 dX7_on_163 ?_
    refine lv_topi (fun v42 ev42 => ?_)
    have h := h v42 ev42
    refine lv_istore (lv' := [(6, .int v42), (0, .ref (σ 0)), (2, .int a2), (3, .int a3), (4, .int x4), (5, .int x5)]) S.1 S.2.1 dX7_on_164 hl (by decide) rfl (fun ls hl => ?_)
    refine lv_goto (tgt := 103) S.1 S.2.1 dX7_on_166 (by decide) ?_
    exact (e103 _ _ _ _).mp h H locs ls hW (lv_sub hl [1, 2, 3, 4, 5, 0] rfl)
  have z169 : ∀ x4 x5 x6 M, qX7_on_b169 a1 a2 a3 post R77 R103 R157 R169 x4 x5 x6 M → R169 x4 x5 x6 M := by
    intro x4 x5 x6 M h
    refine (e169 _ _ _ _).mpr (fun H locs ls hW hl => ?_)
    refine lv_iload S.1 S.2.1 dX7_on_169 (lv_at hl 5 rfl) ?_
    refine lv_iload_n S.1 S.2.1 dX7_on_171 rfl (lv_at hl 2 rfl) ?_
    refine lv_ishr S.1 S.2.1 dX7_on_172 ?_
    refine lv_iconst (v := 1) S.1 S.2.1 dX7_on_173 rfl ?_
    refine lv_iand S.1 S.2.1 dX7_on_174 ?_
    refine lv_iconst (v := 1) S.1 S.2.1 dX7_on_175 rfl ?_
    refine lv_icmp_ne (tgt := 182) S.1 S.2.1 dX7_on_176 (by decide) (fun c43 => ?_) (fun c43 => ?_)
    · have h := h.1 c43
      refine lv_iload S.1 S.2.1 dX7_on_182 (lv_at hl 3 rfl) ?_
      refine lv_iload S.1 S.2.1 dX7_on_184 (lv_at hl 5 rfl) ?_
      refine lv_ixor S.1 S.2.1 dX7_on_186 ?_
      refine lv_topi (fun v44 ev44 => ?_)
      have h := h v44 ev44
      refine lv_istore (lv' := [(4, .int v44), (0, .ref (σ 0)), (2, .int a2), (3, .int a3), (5, .int x5), (6, .int x6)]) S.1 S.2.1 dX7_on_187 hl (by decide) rfl (fun ls hl => ?_)
      obtain ⟨v45, ev45⟩ : ∃ y : Int32, y = x5 + 1 := ⟨_, rfl⟩
      have h := h v45 ev45
      refine lv_iinc (v := v45) (lv' := [(5, .int v45), (4, .int v44), (0, .ref (σ 0)), (2, .int a2), (3, .int a3), (6, .int x6)]) S.1 S.2.1 dX7_on_189 hl (k := 4) rfl (by rw [ev45]; rfl) (by decide) rfl (fun ls hl => ?_)
      refine lv_goto (tgt := 77) S.1 S.2.1 dX7_on_192 (by decide) ?_
      exact (e77 _ _ _).mp h H locs ls hW (lv_sub hl [2, 3, 4, 1, 0] rfl)
    · have h := h.2 c43
      refine lv_iload S.1 S.2.1 dX7_on_179 (lv_at hl 4 rfl) ?_
      exact r_iret S hr hlk hW h dX7_on_181
  have h := h z77 z103 z157 z169
  refine lv_iload_n S.1 S.2.1 dX7_on_0 rfl (lv_at hl 1 rfl) ?_
  refine r_goI (r_runS (rest := []) S hW (mX7_isHour l D T σ M a1 _ h) w152 rfl hl.1 rfl (Nat.le_of_ble_eq_true rfl) dX7_on_1 ⟨Nat.zero_le _, Nat.zero_le _⟩) hW (fun r1 M2 H locs h hW => ?_)
  refine lv_if_eq (tgt := 34) S.1 S.2.1 dX7_on_4 (by decide) (fun c3 => ?_) (fun c3 => ?_)
  · have h := h.1 c3
    refine lv_aload_n S.1 S.2.1 dX7_on_34 rfl (lv_at hl 0 rfl) ?_
    refine lv_iconst (v := 1) S.1 S.2.1 dX7_on_35 rfl ?_
    refine r_goI (r_runV (rest := []) S hW (mX7_refuse l D T σ M2 (1 : Int32) _ h) w126 rfl LM_0 rfl hl.1 rfl (Nat.le_of_ble_eq_true rfl) dX7_on_36 ⟨Nat.zero_le _, Nat.zero_le _⟩) hW (fun r4 M5 H locs h hW => ?_)
    exact r_iret S hr hlk hW h dX7_on_39
  · have h := h.2 c3
    refine lv_iload_n S.1 S.2.1 dX7_on_7 rfl (lv_at hl 2 rfl) ?_
    refine r_goI (r_runS (rest := []) S hW (mX7_isFall l D T σ M2 a2 _ h) w155 rfl hl.1 rfl (Nat.le_of_ble_eq_true rfl) dX7_on_8 ⟨Nat.zero_le _, Nat.zero_le _⟩) hW (fun r6 M7 H locs h hW => ?_)
    refine lv_if_eq (tgt := 34) S.1 S.2.1 dX7_on_11 (by decide) (fun c8 => ?_) (fun c8 => ?_)
    · have h := h.1 c8
      refine lv_aload_n S.1 S.2.1 dX7_on_34 rfl (lv_at hl 0 rfl) ?_
      refine lv_iconst (v := 1) S.1 S.2.1 dX7_on_35 rfl ?_
      refine r_goI (r_runV (rest := []) S hW (mX7_refuse l D T σ M7 (1 : Int32) _ h) w126 rfl LM_0 rfl hl.1 rfl (Nat.le_of_ble_eq_true rfl) dX7_on_36 ⟨Nat.zero_le _, Nat.zero_le _⟩) hW (fun r9 M10 H locs h hW => ?_)
      exact r_iret S hr hlk hW h dX7_on_39
    · have h := h.2 c8
      refine lv_aload_n S.1 S.2.1 dX7_on_14 rfl (lv_at hl 0 rfl) ?_
      refine lv_iload_n S.1 S.2.1 dX7_on_15 rfl (lv_at hl 3 rfl) ?_
      refine r_goI (r_runV (rest := []) S hW (mX7_isAsk l D T σ M7 a3 _ h) w136 rfl LM_0 rfl hl.1 rfl (Nat.le_of_ble_eq_true rfl) dX7_on_16 ⟨Nat.zero_le _, Nat.zero_le _⟩) hW (fun r11 M12 H locs h hW => ?_)
      refine lv_if_eq (tgt := 34) S.1 S.2.1 dX7_on_19 (by decide) (fun c13 => ?_) (fun c13 => ?_)
      · have h := h.1 c13
        refine lv_aload_n S.1 S.2.1 dX7_on_34 rfl (lv_at hl 0 rfl) ?_
        refine lv_iconst (v := 1) S.1 S.2.1 dX7_on_35 rfl ?_
        refine r_goI (r_runV (rest := []) S hW (mX7_refuse l D T σ M12 (1 : Int32) _ h) w126 rfl LM_0 rfl hl.1 rfl (Nat.le_of_ble_eq_true rfl) dX7_on_36 ⟨Nat.zero_le _, Nat.zero_le _⟩) hW (fun r14 M15 H locs h hW => ?_)
        exact r_iret S hr hlk hW h dX7_on_39
      · have h := h.2 c13
        refine lv_aload_n S.1 S.2.1 dX7_on_22 rfl (lv_at hl 0 rfl) ?_
        refine lv_iload_n S.1 S.2.1 dX7_on_23 rfl (lv_at hl 1 rfl) ?_
        refine r_goI (r_runV (rest := []) S hW (mX7_setOf l D T σ M12 a1 _ h) w162 rfl LM_0 rfl hl.1 rfl (Nat.le_of_ble_eq_true rfl) dX7_on_24 ⟨Nat.zero_le _, Nat.zero_le _⟩) hW (fun r16 M17 H locs h hW => ?_)
        refine lv_iload_n S.1 S.2.1 dX7_on_27 rfl (lv_at hl 3 rfl) ?_
        refine lv_ishr S.1 S.2.1 dX7_on_28 ?_
        refine lv_iconst (v := 1) S.1 S.2.1 dX7_on_29 rfl ?_
        refine lv_iand S.1 S.2.1 dX7_on_30 ?_
        refine lv_if_ne (tgt := 40) S.1 S.2.1 dX7_on_31 (by decide) (fun c18 => ?_) (fun c18 => ?_)
        · have h := h.1 c18
          refine lv_aload_n S.1 S.2.1 dX7_on_40 rfl (lv_at hl 0 rfl) ?_
          refine lv_iload_n S.1 S.2.1 dX7_on_41 rfl (lv_at hl 2 rfl) ?_
          refine r_goV (r_runV (rest := []) S hW (mX7_look l D T σ M17 a2 _ h) w158 rfl LM_0 rfl hl.1 rfl (Nat.le_of_ble_eq_true rfl) dX7_on_42 ⟨Nat.zero_le _, Nat.zero_le _⟩) hW (fun M20 H locs h hW => ?_)
          refine lv_aload_n S.1 S.2.1 dX7_on_45 rfl (lv_at hl 0 rfl) ?_
          refine lv_iload_n S.1 S.2.1 dX7_on_46 rfl (lv_at hl 1 rfl) ?_
          refine r_goI (r_runV (rest := []) S hW (mX7_setOf l D T σ M20 a1 _ h) w162 rfl LM_0 rfl hl.1 rfl (Nat.le_of_ble_eq_true rfl) dX7_on_47 ⟨Nat.zero_le _, Nat.zero_le _⟩) hW (fun r21 M22 H locs h hW => ?_)
          refine lv_istore (lv' := [(4, .int r21), (0, .ref (σ 0)), (1, .int a1), (2, .int a2), (3, .int a3)]) S.1 S.2.1 dX7_on_50 hl (by decide) rfl (fun ls hl => ?_)
          refine lv_aload_n S.1 S.2.1 dX7_on_52 rfl (lv_at hl 1 rfl) ?_
          refine r_getR (j := 17) S hW inX7 rfl f48 rfl LM_0 (by decide) rfl dX7_on_53 ?_
          refine lv_iload S.1 S.2.1 dX7_on_56 (lv_at hl 0 rfl) ?_
          have b23 := h.1
          have h := h.2
          refine r_zald S hW LM_13 b23 dX7_on_58 ?_
          refine lv_if_ne (tgt := 69) S.1 S.2.1 dX7_on_59 (by decide) (fun c24 => ?_) (fun c24 => ?_)
          · have h := h.1 c24
            refine lv_aload_n S.1 S.2.1 dX7_on_69 rfl (lv_at hl 1 rfl) ?_
            refine lv_iconst (v := 0) S.1 S.2.1 dX7_on_70 rfl ?_
            refine r_putI (j := 0) S hW inX7 rfl f105 rfl LM_0 (by decide) rfl tyX7 tyX7_ok nmX7 rfl rfl rfl dX7_on_71 (fun M25 H locs eM25 hW => ?_)
            have h := h M25 eM25
            refine lv_iconst (v := 0) S.1 S.2.1 dX7_on_74 rfl ?_
            refine lv_istore (lv' := [(5, .int (0 : Int32)), (4, .int r21), (0, .ref (σ 0)), (1, .int a1), (2, .int a2), (3, .int a3)]) S.1 S.2.1 dX7_on_75 hl (by decide) rfl (fun ls hl => ?_)
            exact (e77 _ _ _).mp h H locs ls hW (lv_sub hl [2, 4, 5, 1, 0] rfl)
          · have h := h.2 c24
            refine lv_aload_n S.1 S.2.1 dX7_on_62 rfl (lv_at hl 1 rfl) ?_
            refine lv_bipush (v := 6) S.1 S.2.1 dX7_on_63 rfl ?_
            refine r_goI (r_runV (rest := []) S hW (mX7_refuse l D T σ M22 (6 : Int32) _ h) w126 rfl LM_0 rfl hl.1 rfl (Nat.le_of_ble_eq_true rfl) dX7_on_65 ⟨Nat.zero_le _, Nat.zero_le _⟩) hW (fun r26 M27 H locs h hW => ?_)
            exact r_iret S hr hlk hW h dX7_on_68
        · have h := h.2 c18
          refine lv_aload_n S.1 S.2.1 dX7_on_34 rfl (lv_at hl 0 rfl) ?_
          refine lv_iconst (v := 1) S.1 S.2.1 dX7_on_35 rfl ?_
          refine r_goI (r_runV (rest := []) S hW (mX7_refuse l D T σ M17 (1 : Int32) _ h) w126 rfl LM_0 rfl hl.1 rfl (Nat.le_of_ble_eq_true rfl) dX7_on_36 ⟨Nat.zero_le _, Nat.zero_le _⟩) hW (fun r28 M29 H locs h hW => ?_)
          exact r_iret S hr hlk hW h dX7_on_39
abbrev rmX7_lack : Room := { frames := 2, cells := 0, slots := 0, locals := 48 }
set_option maxHeartbeats 4000000 in
set_option maxRecDepth 100000 in
theorem mX7_lack (l : Launch) (D : va_G) (T : Nat → ClassId) (σ : Nat → Nat) (M : Mem) (a1 : Int32) (a2 : Int32) (post : Int32 → Mem → Prop) (h : qX7_lack a1 a2 M post) : Met l yX7_lack wsX7_lack rmX7_lack (preW D T LM σ [.ref (σ 0), .int a1, .int a2] M) (postI D T LM σ post) 0 0 (fA LM σ) := by
  refine m_of (cc := cX7_lack) (maxL := 6) (ret := (some .int)) (own := RX7) (by decide) rfl rfl (Nat.le_of_ble_eq_true rfl) ?_
  intro p e s m args below meth c H ls locs S hr hlk hl hW
  have hl : lv_has ls 6 [(0, .ref (σ 0)), (1, .int a1), (2, .int a2)] := hl
  have w152 := va_cwS (R := rmX7_lack) (rm := rmX7_isHour) (mc := 0) (ms := 0) 1 S.2.2.2.2 gX7_lack_X7_isHour rfl rfl rfl (by decide +kernel) ⟨Nat.le_of_ble_eq_true rfl, Nat.le_of_ble_eq_true rfl⟩
  have w126 := cwV (R := rmX7_lack) (rm := rmX7_refuse) (mc := 0) (ms := 0) 1 S.2.2.2.2 gX7_lack_X7_refuse rfl rfl rfl (by decide +kernel) ⟨Nat.le_of_ble_eq_true rfl, Nat.le_of_ble_eq_true rfl⟩
  have w155 := va_cwS (R := rmX7_lack) (rm := rmX7_isFall) (mc := 0) (ms := 0) 1 S.2.2.2.2 gX7_lack_X7_isFall rfl rfl rfl (by decide +kernel) ⟨Nat.le_of_ble_eq_true rfl, Nat.le_of_ble_eq_true rfl⟩
  have w158 := cwV (R := rmX7_lack) (rm := rmX7_look) (mc := 0) (ms := 0) 1 S.2.2.2.2 gX7_lack_X7_look rfl rfl rfl (by decide +kernel) ⟨Nat.le_of_ble_eq_true rfl, Nat.le_of_ble_eq_true rfl⟩
  have inX7 : ∀ w ∈ u_ws RX7 TX7 42, w ∈ wsX7_lack := by decide +kernel
  have f105 := S.2.2.2.2 (.fieldLink RX7 105 "MachineHallModel" "status" "I") (by decide +kernel)
  have w162 := cwV (R := rmX7_lack) (rm := rmX7_setOf) (mc := 0) (ms := 0) 1 S.2.2.2.2 gX7_lack_X7_setOf rfl rfl rfl (by decide +kernel) ⟨Nat.le_of_ble_eq_true rfl, Nat.le_of_ble_eq_true rfl⟩
  have f42 := S.2.2.2.2 (.fieldLink RX7 42 "MachineHallModel" "needs" "[I") (by decide +kernel)
  have f48 := S.2.2.2.2 (.fieldLink RX7 48 "MachineHallModel" "can" "[Z") (by decide +kernel)
  obtain ⟨R42, e42⟩ : ∃ R : Int32 → Int32 → Int32 → Mem → Prop, ∀ x3 x4 x5 M, R x3 x4 x5 M ↔ WW p l e rmX7_lack s m args below meth c D T LM σ 6 (MQ below (postI D T LM σ post) args s 0 0 (fA LM σ)) 42 [(0, .ref (σ 0)), (3, .int x3), (4, .int x4), (5, .int x5)] [] M := ⟨_, fun _ _ _ _ => Iff.rfl⟩
  have h := h R42
  have z42 : ∀ x3 x4 x5 M, qX7_lack_b42 a1 a2 post R42 x3 x4 x5 M → R42 x3 x4 x5 M := by
    intro x3 x4 x5 M h
    refine (e42 _ _ _ _).mpr (fun H locs ls hW hl => ?_)
    refine lv_iload S.1 S.2.1 dX7_lack_42 (lv_at hl 3 rfl) ?_
    refine lv_iload_n S.1 S.2.1 dX7_lack_44 rfl (lv_at hl 1 rfl) ?_
    refine lv_icmp_gt (tgt := 94) S.1 S.2.1 dX7_lack_45 (by decide) (fun c16 => ?_) (fun c16 => ?_)
    · have h := h.1 c16
      refine lv_aload_n S.1 S.2.1 dX7_lack_94 rfl (lv_at hl 0 rfl) ?_
      refine r_getR (j := 15) S hW inX7 rfl f42 rfl LM_0 (by decide) rfl dX7_lack_95 ?_
      refine lv_iload_n S.1 S.2.1 dX7_lack_98 rfl (lv_at hl 1 rfl) ?_
      have b17 := h.1
      have h := h.2
      refine r_iald S hW LM_11 b17 dX7_lack_99 ?_
      refine lv_iload S.1 S.2.1 dX7_lack_100 (lv_at hl 2 rfl) ?_
      refine lv_isub S.1 S.2.1 dX7_lack_102 ?_
      exact r_iret S hr hlk hW h dX7_lack_103
    · have h := h.2 c16
      refine lv_iload S.1 S.2.1 dX7_lack_48 (lv_at hl 3 rfl) ?_
      refine lv_iload_n S.1 S.2.1 dX7_lack_50 rfl (lv_at hl 1 rfl) ?_
      refine lv_iand S.1 S.2.1 dX7_lack_51 ?_
      refine lv_iload S.1 S.2.1 dX7_lack_52 (lv_at hl 3 rfl) ?_
      refine lv_icmp_ne (tgt := 88) S.1 S.2.1 dX7_lack_54 (by decide) (fun c18 => ?_) (fun c18 => ?_)
      · have h := h.1 c18
        obtain ⟨v19, ev19⟩ : ∃ y : Int32, y = x5 + 1 := ⟨_, rfl⟩
        have h := h v19 ev19
        refine lv_iinc (v := v19) (lv' := [(5, .int v19), (0, .ref (σ 0)), (3, .int x3), (4, .int x4)]) S.1 S.2.1 dX7_lack_88 hl (k := 3) rfl (by rw [ev19]; rfl) (by decide) rfl (fun ls hl => ?_)
        refine lv_goto (tgt := 42) S.1 S.2.1 dX7_lack_91 (by decide) ?_
        exact (e42 _ _ _ _).mp h H locs ls hW (lv_sub hl [1, 2, 3, 0] rfl)
      · have h := h.2 c18
        refine lv_aload_n S.1 S.2.1 dX7_lack_57 rfl (lv_at hl 0 rfl) ?_
        refine r_getR (j := 17) S hW inX7 rfl f48 rfl LM_0 (by decide) rfl dX7_lack_58 ?_
        refine lv_iload S.1 S.2.1 dX7_lack_61 (lv_at hl 3 rfl) ?_
        have b20 := h.1
        have h := h.2
        refine r_zald S hW LM_13 b20 dX7_lack_63 ?_
        refine lv_if_eq (tgt := 88) S.1 S.2.1 dX7_lack_64 (by decide) (fun c21 => ?_) (fun c21 => ?_)
        · have h := h.1 c21
          obtain ⟨v22, ev22⟩ : ∃ y : Int32, y = x5 + 1 := ⟨_, rfl⟩
          have h := h v22 ev22
          refine lv_iinc (v := v22) (lv' := [(5, .int v22), (0, .ref (σ 0)), (3, .int x3), (4, .int x4)]) S.1 S.2.1 dX7_lack_88 hl (k := 3) rfl (by rw [ev22]; rfl) (by decide) rfl (fun ls hl => ?_)
          refine lv_goto (tgt := 42) S.1 S.2.1 dX7_lack_91 (by decide) ?_
          exact (e42 _ _ _ _).mp h H locs ls hW (lv_sub hl [1, 2, 3, 0] rfl)
        · have h := h.2 c21
          refine lv_aload_n S.1 S.2.1 dX7_lack_67 rfl (lv_at hl 0 rfl) ?_
          refine r_getR (j := 15) S hW inX7 rfl f42 rfl LM_0 (by decide) rfl dX7_lack_68 ?_
          refine lv_iload S.1 S.2.1 dX7_lack_71 (lv_at hl 3 rfl) ?_
          have b23 := h.1
          have h := h.2
          refine r_iald S hW LM_11 b23 dX7_lack_73 ?_
          refine lv_iload S.1 S.2.1 dX7_lack_74 (lv_at hl 2 rfl) ?_
          refine lv_icmp_le (tgt := 88) S.1 S.2.1 dX7_lack_76 (by decide) (fun c24 => ?_) (fun c24 => ?_)
          · have h := h.1 c24
            obtain ⟨v25, ev25⟩ : ∃ y : Int32, y = x5 + 1 := ⟨_, rfl⟩
            have h := h v25 ev25
            refine lv_iinc (v := v25) (lv' := [(5, .int v25), (0, .ref (σ 0)), (3, .int x3), (4, .int x4)]) S.1 S.2.1 dX7_lack_88 hl (k := 3) rfl (by rw [ev25]; rfl) (by decide) rfl (fun ls hl => ?_)
            refine lv_goto (tgt := 42) S.1 S.2.1 dX7_lack_91 (by decide) ?_
            exact (e42 _ _ _ _).mp h H locs ls hW (lv_sub hl [1, 2, 3, 0] rfl)
          · have h := h.2 c24
            refine lv_aload_n S.1 S.2.1 dX7_lack_79 rfl (lv_at hl 0 rfl) ?_
            refine r_getR (j := 15) S hW inX7 rfl f42 rfl LM_0 (by decide) rfl dX7_lack_80 ?_
            refine lv_iload S.1 S.2.1 dX7_lack_83 (lv_at hl 3 rfl) ?_
            have b26 := h.1
            have h := h.2
            refine r_iald S hW LM_11 b26 dX7_lack_85 ?_
            refine lv_topi (fun v27 ev27 => ?_)
            have h := h v27 ev27
            refine lv_istore (lv' := [(4, .int v27), (0, .ref (σ 0)), (3, .int x3), (5, .int x5)]) S.1 S.2.1 dX7_lack_86 hl (by decide) rfl (fun ls hl => ?_)
            obtain ⟨v28, ev28⟩ : ∃ y : Int32, y = x5 + 1 := ⟨_, rfl⟩
            have h := h v28 ev28
            refine lv_iinc (v := v28) (lv' := [(5, .int v28), (4, .int v27), (0, .ref (σ 0)), (3, .int x3)]) S.1 S.2.1 dX7_lack_88 hl (k := 3) rfl (by rw [ev28]; rfl) (by decide) rfl (fun ls hl => ?_)
            refine lv_goto (tgt := 42) S.1 S.2.1 dX7_lack_91 (by decide) ?_
            exact (e42 _ _ _ _).mp h H locs ls hW (lv_sub hl [2, 3, 1, 0] rfl)
  have h := h z42
  refine lv_iload_n S.1 S.2.1 dX7_lack_0 rfl (lv_at hl 1 rfl) ?_
  refine r_goI (r_runS (rest := []) S hW (mX7_isHour l D T σ M a1 _ h) w152 rfl hl.1 rfl (Nat.le_of_ble_eq_true rfl) dX7_lack_1 ⟨Nat.zero_le _, Nat.zero_le _⟩) hW (fun r1 M2 H locs h hW => ?_)
  refine lv_if_eq (tgt := 14) S.1 S.2.1 dX7_lack_4 (by decide) (fun c3 => ?_) (fun c3 => ?_)
  · have h := h.1 c3
    refine lv_aload_n S.1 S.2.1 dX7_lack_14 rfl (lv_at hl 0 rfl) ?_
    refine lv_iconst (v := 1) S.1 S.2.1 dX7_lack_15 rfl ?_
    refine r_goI (r_runV (rest := []) S hW (mX7_refuse l D T σ M2 (1 : Int32) _ h) w126 rfl LM_0 rfl hl.1 rfl (Nat.le_of_ble_eq_true rfl) dX7_lack_16 ⟨Nat.zero_le _, Nat.zero_le _⟩) hW (fun r4 M5 H locs h hW => ?_)
    exact r_iret S hr hlk hW h dX7_lack_19
  · have h := h.2 c3
    refine lv_iload_n S.1 S.2.1 dX7_lack_7 rfl (lv_at hl 2 rfl) ?_
    refine r_goI (r_runS (rest := []) S hW (mX7_isFall l D T σ M2 a2 _ h) w155 rfl hl.1 rfl (Nat.le_of_ble_eq_true rfl) dX7_lack_8 ⟨Nat.zero_le _, Nat.zero_le _⟩) hW (fun r6 M7 H locs h hW => ?_)
    refine lv_if_ne (tgt := 20) S.1 S.2.1 dX7_lack_11 (by decide) (fun c8 => ?_) (fun c8 => ?_)
    · have h := h.1 c8
      refine lv_aload_n S.1 S.2.1 dX7_lack_20 rfl (lv_at hl 0 rfl) ?_
      refine lv_iload_n S.1 S.2.1 dX7_lack_21 rfl (lv_at hl 2 rfl) ?_
      refine r_goV (r_runV (rest := []) S hW (mX7_look l D T σ M7 a2 _ h) w158 rfl LM_0 rfl hl.1 rfl (Nat.le_of_ble_eq_true rfl) dX7_lack_22 ⟨Nat.zero_le _, Nat.zero_le _⟩) hW (fun M10 H locs h hW => ?_)
      refine lv_aload_n S.1 S.2.1 dX7_lack_25 rfl (lv_at hl 0 rfl) ?_
      refine lv_iconst (v := 0) S.1 S.2.1 dX7_lack_26 rfl ?_
      refine r_putI (j := 0) S hW inX7 rfl f105 rfl LM_0 (by decide) rfl tyX7 tyX7_ok nmX7 rfl rfl rfl dX7_lack_27 (fun M11 H locs eM11 hW => ?_)
      have h := h M11 eM11
      refine lv_aload_n S.1 S.2.1 dX7_lack_30 rfl (lv_at hl 0 rfl) ?_
      refine lv_iload_n S.1 S.2.1 dX7_lack_31 rfl (lv_at hl 1 rfl) ?_
      refine r_goI (r_runV (rest := []) S hW (mX7_setOf l D T σ M11 a1 _ h) w162 rfl LM_0 rfl hl.1 rfl (Nat.le_of_ble_eq_true rfl) dX7_lack_32 ⟨Nat.zero_le _, Nat.zero_le _⟩) hW (fun r12 M13 H locs h hW => ?_)
      refine lv_istore_n (lv' := [(3, .int r12), (0, .ref (σ 0)), (1, .int a1), (2, .int a2)]) S.1 S.2.1 dX7_lack_35 rfl hl (by decide) rfl (fun ls hl => ?_)
      refine lv_iconst (v := 0) S.1 S.2.1 dX7_lack_36 rfl ?_
      refine lv_istore (lv' := [(4, .int (0 : Int32)), (3, .int r12), (0, .ref (σ 0)), (1, .int a1), (2, .int a2)]) S.1 S.2.1 dX7_lack_37 hl (by decide) rfl (fun ls hl => ?_)
      refine lv_iconst (v := 0) S.1 S.2.1 dX7_lack_39 rfl ?_
      refine lv_istore (lv' := [(5, .int (0 : Int32)), (4, .int (0 : Int32)), (3, .int r12), (0, .ref (σ 0)), (1, .int a1), (2, .int a2)]) S.1 S.2.1 dX7_lack_40 hl (by decide) rfl (fun ls hl => ?_)
      exact (e42 _ _ _ _).mp h H locs ls hW (lv_sub hl [3, 2, 1, 0] rfl)
    · have h := h.2 c8
      refine lv_aload_n S.1 S.2.1 dX7_lack_14 rfl (lv_at hl 0 rfl) ?_
      refine lv_iconst (v := 1) S.1 S.2.1 dX7_lack_15 rfl ?_
      refine r_goI (r_runV (rest := []) S hW (mX7_refuse l D T σ M7 (1 : Int32) _ h) w126 rfl LM_0 rfl hl.1 rfl (Nat.le_of_ble_eq_true rfl) dX7_lack_16 ⟨Nat.zero_le _, Nat.zero_le _⟩) hW (fun r14 M15 H locs h hW => ?_)
      exact r_iret S hr hlk hW h dX7_lack_19
abbrev rmX7_leftOf : Room := { frames := 2, cells := 0, slots := 0, locals := 45 }
set_option maxHeartbeats 4000000 in
set_option maxRecDepth 100000 in
theorem mX7_leftOf (l : Launch) (D : va_G) (T : Nat → ClassId) (σ : Nat → Nat) (M : Mem) (a1 : Int32) (a2 : Int32) (post : Int32 → Mem → Prop) (h : qX7_leftOf a1 a2 M post) : Met l yX7_leftOf wsX7_leftOf rmX7_leftOf (preW D T LM σ [.ref (σ 0), .int a1, .int a2] M) (postI D T LM σ post) 0 0 (fA LM σ) := by
  refine m_of (cc := cX7_leftOf) (maxL := 3) (ret := (some .int)) (own := RX7) (by decide) rfl rfl (Nat.le_of_ble_eq_true rfl) ?_
  intro p e s m args below meth c H ls locs S hr hlk hl hW
  have hl : lv_has ls 3 [(0, .ref (σ 0)), (1, .int a1), (2, .int a2)] := hl
  have inX7 : ∀ w ∈ u_ws RX7 TX7 42, w ∈ wsX7_leftOf := by decide +kernel
  have f48 := S.2.2.2.2 (.fieldLink RX7 48 "MachineHallModel" "can" "[Z") (by decide +kernel)
  have w162 := cwV (R := rmX7_leftOf) (rm := rmX7_setOf) (mc := 0) (ms := 0) 1 S.2.2.2.2 gX7_leftOf_X7_setOf rfl rfl rfl (by decide +kernel) ⟨Nat.le_of_ble_eq_true rfl, Nat.le_of_ble_eq_true rfl⟩
  have w149 := cwV (R := rmX7_leftOf) (rm := rmX7_sizes) (mc := 0) (ms := 0) 1 S.2.2.2.2 gX7_leftOf_X7_sizes rfl rfl rfl (by decide +kernel) ⟨Nat.le_of_ble_eq_true rfl, Nat.le_of_ble_eq_true rfl⟩
  have f42 := S.2.2.2.2 (.fieldLink RX7 42 "MachineHallModel" "needs" "[I") (by decide +kernel)
  refine lv_aload_n S.1 S.2.1 dX7_leftOf_0 rfl (lv_at hl 0 rfl) ?_
  refine r_getR (j := 17) S hW inX7 rfl f48 rfl LM_0 (by decide) rfl dX7_leftOf_1 ?_
  refine lv_aload_n S.1 S.2.1 dX7_leftOf_4 rfl (lv_at hl 0 rfl) ?_
  refine lv_iload_n S.1 S.2.1 dX7_leftOf_5 rfl (lv_at hl 1 rfl) ?_
  refine r_goI (r_runV (rest := [.ref (σ 13)]) S hW (mX7_setOf l D T σ M a1 _ h) w162 rfl LM_0 rfl hl.1 rfl (Nat.le_of_ble_eq_true rfl) dX7_leftOf_6 ⟨Nat.zero_le _, Nat.zero_le _⟩) hW (fun r1 M2 H locs h hW => ?_)
  have b3 := h.1
  have h := h.2
  refine r_zald S hW LM_13 b3 dX7_leftOf_9 ?_
  refine lv_if_eq (tgt := 32) S.1 S.2.1 dX7_leftOf_10 (by decide) (fun c4 => ?_) (fun c4 => ?_)
  · have h := h.1 c4
    refine lv_iconst (v := 0) S.1 S.2.1 dX7_leftOf_32 rfl ?_
    exact r_iret S hr hlk hW h dX7_leftOf_33
  · have h := h.2 c4
    refine lv_aload_n S.1 S.2.1 dX7_leftOf_13 rfl (lv_at hl 0 rfl) ?_
    refine lv_iload_n S.1 S.2.1 dX7_leftOf_14 rfl (lv_at hl 2 rfl) ?_
    refine r_goI (r_runV (rest := []) S hW (mX7_sizes l D T σ M2 a2 _ h) w149 rfl LM_0 rfl hl.1 rfl (Nat.le_of_ble_eq_true rfl) dX7_leftOf_15 ⟨Nat.zero_le _, Nat.zero_le _⟩) hW (fun r5 M6 H locs h hW => ?_)
    refine lv_aload_n S.1 S.2.1 dX7_leftOf_18 rfl (lv_at hl 0 rfl) ?_
    refine r_getR (j := 15) S hW inX7 rfl f42 rfl LM_0 (by decide) rfl dX7_leftOf_19 ?_
    refine lv_aload_n S.1 S.2.1 dX7_leftOf_22 rfl (lv_at hl 0 rfl) ?_
    refine lv_iload_n S.1 S.2.1 dX7_leftOf_23 rfl (lv_at hl 1 rfl) ?_
    refine r_goI (r_runV (rest := [.ref (σ 11), .int r5]) S hW (mX7_setOf l D T σ M6 a1 _ h) w162 rfl LM_0 rfl hl.1 rfl (Nat.le_of_ble_eq_true rfl) dX7_leftOf_24 ⟨Nat.zero_le _, Nat.zero_le _⟩) hW (fun r7 M8 H locs h hW => ?_)
    have b9 := h.1
    have h := h.2
    refine r_iald S hW LM_11 b9 dX7_leftOf_27 ?_
    refine lv_isub S.1 S.2.1 dX7_leftOf_28 ?_
    refine lv_goto (tgt := 33) S.1 S.2.1 dX7_leftOf_29 (by decide) ?_
    exact r_iret S hr hlk hW h dX7_leftOf_33
abbrev rmX7_left : Room := { frames := 3, cells := 0, slots := 0, locals := 67 }
set_option maxHeartbeats 4000000 in
set_option maxRecDepth 100000 in
theorem mX7_left (l : Launch) (D : va_G) (T : Nat → ClassId) (σ : Nat → Nat) (M : Mem) (a1 : Int32) (a2 : Int32) (post : Int32 → Mem → Prop) (h : qX7_left a1 a2 M post) : Met l yX7_left wsX7_left rmX7_left (preW D T LM σ [.ref (σ 0), .int a1, .int a2] M) (postI D T LM σ post) 0 0 (fA LM σ) := by
  refine m_of (cc := cX7_left) (maxL := 3) (ret := (some .int)) (own := RX7) (by decide) rfl rfl (Nat.le_of_ble_eq_true rfl) ?_
  intro p e s m args below meth c H ls locs S hr hlk hl hW
  have hl : lv_has ls 3 [(0, .ref (σ 0)), (1, .int a1), (2, .int a2)] := hl
  have w152 := va_cwS (R := rmX7_left) (rm := rmX7_isHour) (mc := 0) (ms := 0) 1 S.2.2.2.2 gX7_left_X7_isHour rfl rfl rfl (by decide +kernel) ⟨Nat.le_of_ble_eq_true rfl, Nat.le_of_ble_eq_true rfl⟩
  have w126 := cwV (R := rmX7_left) (rm := rmX7_refuse) (mc := 0) (ms := 0) 1 S.2.2.2.2 gX7_left_X7_refuse rfl rfl rfl (by decide +kernel) ⟨Nat.le_of_ble_eq_true rfl, Nat.le_of_ble_eq_true rfl⟩
  have w155 := va_cwS (R := rmX7_left) (rm := rmX7_isFall) (mc := 0) (ms := 0) 1 S.2.2.2.2 gX7_left_X7_isFall rfl rfl rfl (by decide +kernel) ⟨Nat.le_of_ble_eq_true rfl, Nat.le_of_ble_eq_true rfl⟩
  have w158 := cwV (R := rmX7_left) (rm := rmX7_look) (mc := 0) (ms := 0) 1 S.2.2.2.2 gX7_left_X7_look rfl rfl rfl (by decide +kernel) ⟨Nat.le_of_ble_eq_true rfl, Nat.le_of_ble_eq_true rfl⟩
  have inX7 : ∀ w ∈ u_ws RX7 TX7 42, w ∈ wsX7_left := by decide +kernel
  have f105 := S.2.2.2.2 (.fieldLink RX7 105 "MachineHallModel" "status" "I") (by decide +kernel)
  have w165 := cwV (R := rmX7_left) (rm := rmX7_leftOf) (mc := 0) (ms := 0) 2 S.2.2.2.2 gX7_left_X7_leftOf rfl rfl rfl (by decide +kernel) ⟨Nat.le_of_ble_eq_true rfl, Nat.le_of_ble_eq_true rfl⟩
  refine lv_iload_n S.1 S.2.1 dX7_left_0 rfl (lv_at hl 1 rfl) ?_
  refine r_goI (r_runS (rest := []) S hW (mX7_isHour l D T σ M a1 _ h) w152 rfl hl.1 rfl (Nat.le_of_ble_eq_true rfl) dX7_left_1 ⟨Nat.zero_le _, Nat.zero_le _⟩) hW (fun r1 M2 H locs h hW => ?_)
  refine lv_if_eq (tgt := 14) S.1 S.2.1 dX7_left_4 (by decide) (fun c3 => ?_) (fun c3 => ?_)
  · have h := h.1 c3
    refine lv_aload_n S.1 S.2.1 dX7_left_14 rfl (lv_at hl 0 rfl) ?_
    refine lv_iconst (v := 1) S.1 S.2.1 dX7_left_15 rfl ?_
    refine r_goI (r_runV (rest := []) S hW (mX7_refuse l D T σ M2 (1 : Int32) _ h) w126 rfl LM_0 rfl hl.1 rfl (Nat.le_of_ble_eq_true rfl) dX7_left_16 ⟨Nat.zero_le _, Nat.zero_le _⟩) hW (fun r4 M5 H locs h hW => ?_)
    exact r_iret S hr hlk hW h dX7_left_19
  · have h := h.2 c3
    refine lv_iload_n S.1 S.2.1 dX7_left_7 rfl (lv_at hl 2 rfl) ?_
    refine r_goI (r_runS (rest := []) S hW (mX7_isFall l D T σ M2 a2 _ h) w155 rfl hl.1 rfl (Nat.le_of_ble_eq_true rfl) dX7_left_8 ⟨Nat.zero_le _, Nat.zero_le _⟩) hW (fun r6 M7 H locs h hW => ?_)
    refine lv_if_ne (tgt := 20) S.1 S.2.1 dX7_left_11 (by decide) (fun c8 => ?_) (fun c8 => ?_)
    · have h := h.1 c8
      refine lv_aload_n S.1 S.2.1 dX7_left_20 rfl (lv_at hl 0 rfl) ?_
      refine lv_iload_n S.1 S.2.1 dX7_left_21 rfl (lv_at hl 2 rfl) ?_
      refine r_goV (r_runV (rest := []) S hW (mX7_look l D T σ M7 a2 _ h) w158 rfl LM_0 rfl hl.1 rfl (Nat.le_of_ble_eq_true rfl) dX7_left_22 ⟨Nat.zero_le _, Nat.zero_le _⟩) hW (fun M10 H locs h hW => ?_)
      refine lv_aload_n S.1 S.2.1 dX7_left_25 rfl (lv_at hl 0 rfl) ?_
      refine lv_iconst (v := 0) S.1 S.2.1 dX7_left_26 rfl ?_
      refine r_putI (j := 0) S hW inX7 rfl f105 rfl LM_0 (by decide) rfl tyX7 tyX7_ok nmX7 rfl rfl rfl dX7_left_27 (fun M11 H locs eM11 hW => ?_)
      have h := h M11 eM11
      refine lv_aload_n S.1 S.2.1 dX7_left_30 rfl (lv_at hl 0 rfl) ?_
      refine lv_iload_n S.1 S.2.1 dX7_left_31 rfl (lv_at hl 1 rfl) ?_
      refine lv_iload_n S.1 S.2.1 dX7_left_32 rfl (lv_at hl 2 rfl) ?_
      refine r_goI (r_runV (rest := []) S hW (mX7_leftOf l D T σ M11 a1 a2 _ h) w165 rfl LM_0 rfl hl.1 rfl (Nat.le_of_ble_eq_true rfl) dX7_left_33 ⟨Nat.zero_le _, Nat.zero_le _⟩) hW (fun r12 M13 H locs h hW => ?_)
      exact r_iret S hr hlk hW h dX7_left_36
    · have h := h.2 c8
      refine lv_aload_n S.1 S.2.1 dX7_left_14 rfl (lv_at hl 0 rfl) ?_
      refine lv_iconst (v := 1) S.1 S.2.1 dX7_left_15 rfl ?_
      refine r_goI (r_runV (rest := []) S hW (mX7_refuse l D T σ M7 (1 : Int32) _ h) w126 rfl LM_0 rfl hl.1 rfl (Nat.le_of_ble_eq_true rfl) dX7_left_16 ⟨Nat.zero_le _, Nat.zero_le _⟩) hW (fun r14 M15 H locs h hW => ?_)
      exact r_iret S hr hlk hW h dX7_left_19
abbrev rmX7_enough : Room := { frames := 2, cells := 0, slots := 0, locals := 48 }
set_option maxHeartbeats 4000000 in
set_option maxRecDepth 100000 in
theorem mX7_enough (l : Launch) (D : va_G) (T : Nat → ClassId) (σ : Nat → Nat) (M : Mem) (a1 : Int32) (post : Int32 → Mem → Prop) (h : qX7_enough a1 M post) : Met l yX7_enough wsX7_enough rmX7_enough (preW D T LM σ [.ref (σ 0), .int a1] M) (postI D T LM σ post) 0 0 (fA LM σ) := by
  refine m_of (cc := cX7_enough) (maxL := 6) (ret := (some .int)) (own := RX7) (by decide) rfl rfl (Nat.le_of_ble_eq_true rfl) ?_
  intro p e s m args below meth c H ls locs S hr hlk hl hW
  have hl : lv_has ls 6 [(0, .ref (σ 0)), (1, .int a1)] := hl
  have w126 := cwV (R := rmX7_enough) (rm := rmX7_refuse) (mc := 0) (ms := 0) 1 S.2.2.2.2 gX7_enough_X7_refuse rfl rfl rfl (by decide +kernel) ⟨Nat.le_of_ble_eq_true rfl, Nat.le_of_ble_eq_true rfl⟩
  have inX7 : ∀ w ∈ u_ws RX7 TX7 42, w ∈ wsX7_enough := by decide +kernel
  have f105 := S.2.2.2.2 (.fieldLink RX7 105 "MachineHallModel" "status" "I") (by decide +kernel)
  have f130 := S.2.2.2.2 (.fieldLink RX7 130 "MachineHallModel" "machines" "I") (by decide +kernel)
  have w158 := cwV (R := rmX7_enough) (rm := rmX7_look) (mc := 0) (ms := 0) 1 S.2.2.2.2 gX7_enough_X7_look rfl rfl rfl (by decide +kernel) ⟨Nat.le_of_ble_eq_true rfl, Nat.le_of_ble_eq_true rfl⟩
  have f48 := S.2.2.2.2 (.fieldLink RX7 48 "MachineHallModel" "can" "[Z") (by decide +kernel)
  have w162 := cwV (R := rmX7_enough) (rm := rmX7_setOf) (mc := 0) (ms := 0) 1 S.2.2.2.2 gX7_enough_X7_setOf rfl rfl rfl (by decide +kernel) ⟨Nat.le_of_ble_eq_true rfl, Nat.le_of_ble_eq_true rfl⟩
  obtain ⟨R28, e28⟩ : ∃ R : Int32 → Int32 → Int32 → Mem → Prop, ∀ x2 x3 x4 M, R x2 x3 x4 M ↔ WW p l e rmX7_enough s m args below meth c D T LM σ 6 (MQ below (postI D T LM σ post) args s 0 0 (fA LM σ)) 28 [(0, .ref (σ 0)), (1, .int a1), (2, .int x2), (3, .int x3), (4, .int x4)] [] M := ⟨_, fun _ _ _ _ => Iff.rfl⟩
  obtain ⟨R60, e60⟩ : ∃ R : Int32 → Int32 → Int32 → Mem → Prop, ∀ x2 x3 x4 M, R x2 x3 x4 M ↔ WW p l e rmX7_enough s m args below meth c D T LM σ 6 (MQ below (postI D T LM σ post) args s 0 0 (fA LM σ)) 60 [(0, .ref (σ 0)), (1, .int a1), (2, .int x2), (3, .int x3), (4, .int x4)] [] M := ⟨_, fun _ _ _ _ => Iff.rfl⟩
  obtain ⟨R84, e84⟩ : ∃ R : Int32 → Int32 → Int32 → Int32 → Mem → Prop, ∀ x2 x3 x4 x5 M, R x2 x3 x4 x5 M ↔ WW p l e rmX7_enough s m args below meth c D T LM σ 6 (MQ below (postI D T LM σ post) args s 0 0 (fA LM σ)) 84 [(0, .ref (σ 0)), (1, .int a1), (2, .int x2), (3, .int x3), (4, .int x4), (5, .int x5)] [] M := ⟨_, fun _ _ _ _ _ => Iff.rfl⟩
  have h := h R28 R60 R84
  have z28 : ∀ x2 x3 x4 M, qX7_enough_b28 a1 post R28 R60 R84 x2 x3 x4 M → R28 x2 x3 x4 M := by
    intro x2 x3 x4 M h
    refine (e28 _ _ _ _).mpr (fun H locs ls hW hl => ?_)
    refine lv_iload S.1 S.2.1 dX7_enough_28 (lv_at hl 4 rfl) ?_
    refine lv_bipush (v := 17) S.1 S.2.1 dX7_enough_30 rfl ?_
    refine lv_icmp_ge (tgt := 125) S.1 S.2.1 dX7_enough_32 (by decide) (fun c8 => ?_) (fun c8 => ?_)
    · have h := h.1 c8
      refine lv_iload_n S.1 S.2.1 dX7_enough_125 rfl (lv_at hl 2 rfl) ?_
      refine lv_bipush (v := 24) S.1 S.2.1 dX7_enough_126 rfl ?_
      refine lv_icmp_ne (tgt := 136) S.1 S.2.1 dX7_enough_128 (by decide) (fun c9 => ?_) (fun c9 => ?_)
      · have h := h.1 c9
        refine lv_bipush (v := 100) S.1 S.2.1 dX7_enough_136 rfl ?_
        refine lv_iload_n S.1 S.2.1 dX7_enough_138 rfl (lv_at hl 2 rfl) ?_
        refine lv_imul S.1 S.2.1 dX7_enough_139 ?_
        refine lv_iload_n S.1 S.2.1 dX7_enough_140 rfl (lv_at hl 3 rfl) ?_
        refine lv_iadd S.1 S.2.1 dX7_enough_141 ?_
        exact r_iret S hr hlk hW h dX7_enough_142
      · have h := h.2 c9
        refine lv_bipush (v := -2) S.1 S.2.1 dX7_enough_131 rfl ?_
        refine lv_goto (tgt := 142) S.1 S.2.1 dX7_enough_133 (by decide) ?_
        exact r_iret S hr hlk hW h dX7_enough_142
    · have h := h.2 c8
      refine lv_iload S.1 S.2.1 dX7_enough_35 (lv_at hl 4 rfl) ?_
      refine lv_if_le (tgt := 44) S.1 S.2.1 dX7_enough_37 (by decide) (fun c10 => ?_) (fun c10 => ?_)
      · have h := h.1 c10
        refine lv_iload S.1 S.2.1 dX7_enough_44 (lv_at hl 4 rfl) ?_
        refine lv_aload_n S.1 S.2.1 dX7_enough_46 rfl (lv_at hl 0 rfl) ?_
        refine r_getI (j := 4) S hW inX7 rfl f130 rfl LM_0 (by decide) rfl dX7_enough_47 ?_
        refine lv_icmp_le (tgt := 60) S.1 S.2.1 dX7_enough_50 (by decide) (fun c11 => ?_) (fun c11 => ?_)
        · have h := h.1 c11
          exact (e60 _ _ _ _).mp h H locs ls hW (lv_sub hl [0, 1, 2, 3, 4] rfl)
        · have h := h.2 c11
          refine lv_iload S.1 S.2.1 dX7_enough_53 (lv_at hl 4 rfl) ?_
          refine lv_bipush (v := 13) S.1 S.2.1 dX7_enough_55 rfl ?_
          refine lv_icmp_lt (tgt := 119) S.1 S.2.1 dX7_enough_57 (by decide) (fun c12 => ?_) (fun c12 => ?_)
          · have h := h.1 c12
            obtain ⟨v13, ev13⟩ : ∃ y : Int32, y = x4 + 1 := ⟨_, rfl⟩
            have h := h v13 ev13
            refine lv_iinc (v := v13) (lv' := [(4, .int v13), (0, .ref (σ 0)), (1, .int a1), (2, .int x2), (3, .int x3)]) S.1 S.2.1 dX7_enough_119 hl (k := 4) rfl (by rw [ev13]; rfl) (by decide) rfl (fun ls hl => ?_)
            refine lv_goto (tgt := 28) S.1 S.2.1 dX7_enough_122 (by decide) ?_
            exact (e28 _ _ _ _).mp h H locs ls hW (lv_sub hl [1, 2, 3, 4, 0] rfl)
          · have h := h.2 c12
            exact (e60 _ _ _ _).mp h H locs ls hW (lv_sub hl [0, 1, 2, 3, 4] rfl)
      · have h := h.2 c10
        refine lv_iload_n S.1 S.2.1 dX7_enough_40 rfl (lv_at hl 1 rfl) ?_
        refine lv_if_eq (tgt := 119) S.1 S.2.1 dX7_enough_41 (by decide) (fun c14 => ?_) (fun c14 => ?_)
        · have h := h.1 c14
          obtain ⟨v15, ev15⟩ : ∃ y : Int32, y = x4 + 1 := ⟨_, rfl⟩
          have h := h v15 ev15
          refine lv_iinc (v := v15) (lv' := [(4, .int v15), (0, .ref (σ 0)), (1, .int a1), (2, .int x2), (3, .int x3)]) S.1 S.2.1 dX7_enough_119 hl (k := 4) rfl (by rw [ev15]; rfl) (by decide) rfl (fun ls hl => ?_)
          refine lv_goto (tgt := 28) S.1 S.2.1 dX7_enough_122 (by decide) ?_
          exact (e28 _ _ _ _).mp h H locs ls hW (lv_sub hl [1, 2, 3, 4, 0] rfl)
        · have h := h.2 c14
          refine lv_iload S.1 S.2.1 dX7_enough_44 (lv_at hl 4 rfl) ?_
          refine lv_aload_n S.1 S.2.1 dX7_enough_46 rfl (lv_at hl 0 rfl) ?_
          refine r_getI (j := 4) S hW inX7 rfl f130 rfl LM_0 (by decide) rfl dX7_enough_47 ?_
          refine lv_icmp_le (tgt := 60) S.1 S.2.1 dX7_enough_50 (by decide) (fun c16 => ?_) (fun c16 => ?_)
          · have h := h.1 c16
            exact (e60 _ _ _ _).mp h H locs ls hW (lv_sub hl [0, 1, 2, 3, 4] rfl)
          · have h := h.2 c16
            refine lv_iload S.1 S.2.1 dX7_enough_53 (lv_at hl 4 rfl) ?_
            refine lv_bipush (v := 13) S.1 S.2.1 dX7_enough_55 rfl ?_
            refine lv_icmp_lt (tgt := 119) S.1 S.2.1 dX7_enough_57 (by decide) (fun c17 => ?_) (fun c17 => ?_)
            · have h := h.1 c17
              obtain ⟨v18, ev18⟩ : ∃ y : Int32, y = x4 + 1 := ⟨_, rfl⟩
              have h := h v18 ev18
              refine lv_iinc (v := v18) (lv' := [(4, .int v18), (0, .ref (σ 0)), (1, .int a1), (2, .int x2), (3, .int x3)]) S.1 S.2.1 dX7_enough_119 hl (k := 4) rfl (by rw [ev18]; rfl) (by decide) rfl (fun ls hl => ?_)
              refine lv_goto (tgt := 28) S.1 S.2.1 dX7_enough_122 (by decide) ?_
              exact (e28 _ _ _ _).mp h H locs ls hW (lv_sub hl [1, 2, 3, 4, 0] rfl)
            · have h := h.2 c17
              exact (e60 _ _ _ _).mp h H locs ls hW (lv_sub hl [0, 1, 2, 3, 4] rfl)
  have z60 : ∀ x2 x3 x4 M, qX7_enough_b60 a1 post R28 R60 R84 x2 x3 x4 M → R60 x2 x3 x4 M := by
    intro x2 x3 x4 M h
    refine (e60 _ _ _ _).mpr (fun H locs ls hW hl => ?_)
    refine lv_iload S.1 S.2.1 dX7_enough_60 (lv_at hl 4 rfl) ?_
    refine lv_bipush (v := 12) S.1 S.2.1 dX7_enough_62 rfl ?_
    refine lv_icmp_le (tgt := 75) S.1 S.2.1 dX7_enough_64 (by decide) (fun c19 => ?_) (fun c19 => ?_)
    · have h := h.1 c19
      refine lv_aload_n S.1 S.2.1 dX7_enough_75 rfl (lv_at hl 0 rfl) ?_
      refine lv_iload S.1 S.2.1 dX7_enough_76 (lv_at hl 4 rfl) ?_
      refine r_goV (r_runV (rest := []) S hW (mX7_look l D T σ M x4 _ h) w158 rfl LM_0 rfl hl.1 rfl (Nat.le_of_ble_eq_true rfl) dX7_enough_78 ⟨Nat.zero_le _, Nat.zero_le _⟩) hW (fun M21 H locs h hW => ?_)
      refine lv_iconst (v := 0) S.1 S.2.1 dX7_enough_81 rfl ?_
      refine lv_istore (lv' := [(5, .int (0 : Int32)), (0, .ref (σ 0)), (1, .int a1), (2, .int x2), (3, .int x3), (4, .int x4)]) S.1 S.2.1 dX7_enough_82 hl (by decide) rfl (fun ls hl => ?_)
      exact (e84 _ _ _ _ _).mp h H locs ls hW (lv_sub hl [1, 2, 3, 4, 5, 0] rfl)
    · have h := h.2 c19
      refine lv_iload_n S.1 S.2.1 dX7_enough_67 rfl (lv_at hl 1 rfl) ?_
      refine lv_iconst (v := 2) S.1 S.2.1 dX7_enough_68 rfl ?_
      refine lv_icmp_ge (tgt := 75) S.1 S.2.1 dX7_enough_69 (by decide) (fun c22 => ?_) (fun c22 => ?_)
      · have h := h.1 c22
        refine lv_aload_n S.1 S.2.1 dX7_enough_75 rfl (lv_at hl 0 rfl) ?_
        refine lv_iload S.1 S.2.1 dX7_enough_76 (lv_at hl 4 rfl) ?_
        refine r_goV (r_runV (rest := []) S hW (mX7_look l D T σ M x4 _ h) w158 rfl LM_0 rfl hl.1 rfl (Nat.le_of_ble_eq_true rfl) dX7_enough_78 ⟨Nat.zero_le _, Nat.zero_le _⟩) hW (fun M24 H locs h hW => ?_)
        refine lv_iconst (v := 0) S.1 S.2.1 dX7_enough_81 rfl ?_
        refine lv_istore (lv' := [(5, .int (0 : Int32)), (0, .ref (σ 0)), (1, .int a1), (2, .int x2), (3, .int x3), (4, .int x4)]) S.1 S.2.1 dX7_enough_82 hl (by decide) rfl (fun ls hl => ?_)
        exact (e84 _ _ _ _ _).mp h H locs ls hW (lv_sub hl [1, 2, 3, 4, 5, 0] rfl)
      · have h := h.2 c22
        refine lv_goto (tgt := 119) S.1 S.2.1 dX7_enough_72 (by decide) ?_
        obtain ⟨v25, ev25⟩ : ∃ y : Int32, y = x4 + 1 := ⟨_, rfl⟩
        have h := h v25 ev25
        refine lv_iinc (v := v25) (lv' := [(4, .int v25), (0, .ref (σ 0)), (1, .int a1), (2, .int x2), (3, .int x3)]) S.1 S.2.1 dX7_enough_119 hl (k := 4) rfl (by rw [ev25]; rfl) (by decide) rfl (fun ls hl => ?_)
        refine lv_goto (tgt := 28) S.1 S.2.1 dX7_enough_122 (by decide) ?_
        exact (e28 _ _ _ _).mp h H locs ls hW (lv_sub hl [1, 2, 3, 4, 0] rfl)
  have z84 : ∀ x2 x3 x4 x5 M, qX7_enough_b84 a1 post R28 R60 R84 x2 x3 x4 x5 M → R84 x2 x3 x4 x5 M := by
    intro x2 x3 x4 x5 M h
    refine (e84 _ _ _ _ _).mpr (fun H locs ls hW hl => ?_)
    refine lv_iload S.1 S.2.1 dX7_enough_84 (lv_at hl 5 rfl) ?_
    refine lv_iload_n S.1 S.2.1 dX7_enough_86 rfl (lv_at hl 2 rfl) ?_
    refine lv_icmp_ge (tgt := 119) S.1 S.2.1 dX7_enough_87 (by decide) (fun c26 => ?_) (fun c26 => ?_)
    · have h := h.1 c26
      obtain ⟨v27, ev27⟩ : ∃ y : Int32, y = x4 + 1 := ⟨_, rfl⟩
      have h := h v27 ev27
      refine lv_iinc (v := v27) (lv' := [(4, .int v27), (0, .ref (σ 0)), (1, .int a1), (2, .int x2), (3, .int x3), (5, .int x5)]) S.1 S.2.1 dX7_enough_119 hl (k := 4) rfl (by rw [ev27]; rfl) (by decide) rfl (fun ls hl => ?_)
      refine lv_goto (tgt := 28) S.1 S.2.1 dX7_enough_122 (by decide) ?_
      exact (e28 _ _ _ _).mp h H locs ls hW (lv_sub hl [1, 2, 3, 4, 0] rfl)
    · have h := h.2 c26
      refine lv_aload_n S.1 S.2.1 dX7_enough_90 rfl (lv_at hl 0 rfl) ?_
      refine r_getR (j := 17) S hW inX7 rfl f48 rfl LM_0 (by decide) rfl dX7_enough_91 ?_
      refine lv_aload_n S.1 S.2.1 dX7_enough_94 rfl (lv_at hl 0 rfl) ?_
      refine lv_iload S.1 S.2.1 dX7_enough_95 (lv_at hl 5 rfl) ?_
      refine r_goI (r_runV (rest := [.ref (σ 13)]) S hW (mX7_setOf l D T σ M x5 _ h) w162 rfl LM_0 rfl hl.1 rfl (Nat.le_of_ble_eq_true rfl) dX7_enough_97 ⟨Nat.zero_le _, Nat.zero_le _⟩) hW (fun r28 M29 H locs h hW => ?_)
      have b30 := h.1
      have h := h.2
      refine r_zald S hW LM_13 b30 dX7_enough_100 ?_
      refine lv_if_eq (tgt := 107) S.1 S.2.1 dX7_enough_101 (by decide) (fun c31 => ?_) (fun c31 => ?_)
      · have h := h.1 c31
        refine lv_iload S.1 S.2.1 dX7_enough_107 (lv_at hl 5 rfl) ?_
        refine lv_istore_n (lv' := [(2, .int x5), (0, .ref (σ 0)), (1, .int a1), (3, .int x3), (4, .int x4), (5, .int x5)]) S.1 S.2.1 dX7_enough_109 rfl hl (by decide) rfl (fun ls hl => ?_)
        refine lv_iload S.1 S.2.1 dX7_enough_110 (lv_at hl 4 rfl) ?_
        refine lv_istore_n (lv' := [(3, .int x4), (2, .int x5), (0, .ref (σ 0)), (1, .int a1), (4, .int x4), (5, .int x5)]) S.1 S.2.1 dX7_enough_112 rfl hl (by decide) rfl (fun ls hl => ?_)
        obtain ⟨v32, ev32⟩ : ∃ y : Int32, y = x5 + 1 := ⟨_, rfl⟩
        have h := h v32 ev32
        refine lv_iinc (v := v32) (lv' := [(5, .int v32), (3, .int x4), (2, .int x5), (0, .ref (σ 0)), (1, .int a1), (4, .int x4)]) S.1 S.2.1 dX7_enough_113 hl (k := 5) rfl (by rw [ev32]; rfl) (by decide) rfl (fun ls hl => ?_)
        refine lv_goto (tgt := 84) S.1 S.2.1 dX7_enough_116 (by decide) ?_
        exact (e84 _ _ _ _ _).mp h H locs ls hW (lv_sub hl [3, 4, 2, 1, 5, 0] rfl)
      · have h := h.2 c31
        refine lv_goto (tgt := 113) S.1 S.2.1 dX7_enough_104 (by decide) ?_
        obtain ⟨v33, ev33⟩ : ∃ y : Int32, y = x5 + 1 := ⟨_, rfl⟩
        have h := h v33 ev33
        refine lv_iinc (v := v33) (lv' := [(5, .int v33), (0, .ref (σ 0)), (1, .int a1), (2, .int x2), (3, .int x3), (4, .int x4)]) S.1 S.2.1 dX7_enough_113 hl (k := 5) rfl (by rw [ev33]; rfl) (by decide) rfl (fun ls hl => ?_)
        refine lv_goto (tgt := 84) S.1 S.2.1 dX7_enough_116 (by decide) ?_
        exact (e84 _ _ _ _ _).mp h H locs ls hW (lv_sub hl [1, 2, 3, 4, 5, 0] rfl)
  have h := h z28 z60 z84
  refine lv_iload_n S.1 S.2.1 dX7_enough_0 rfl (lv_at hl 1 rfl) ?_
  refine lv_if_lt (tgt := 9) S.1 S.2.1 dX7_enough_1 (by decide) (fun c1 => ?_) (fun c1 => ?_)
  · have h := h.1 c1
    refine lv_aload_n S.1 S.2.1 dX7_enough_9 rfl (lv_at hl 0 rfl) ?_
    refine lv_iconst (v := 1) S.1 S.2.1 dX7_enough_10 rfl ?_
    refine r_goI (r_runV (rest := []) S hW (mX7_refuse l D T σ M (1 : Int32) _ h) w126 rfl LM_0 rfl hl.1 rfl (Nat.le_of_ble_eq_true rfl) dX7_enough_11 ⟨Nat.zero_le _, Nat.zero_le _⟩) hW (fun r2 M3 H locs h hW => ?_)
    exact r_iret S hr hlk hW h dX7_enough_14
  · have h := h.2 c1
    refine lv_iload_n S.1 S.2.1 dX7_enough_4 rfl (lv_at hl 1 rfl) ?_
    refine lv_iconst (v := 2) S.1 S.2.1 dX7_enough_5 rfl ?_
    refine lv_icmp_le (tgt := 15) S.1 S.2.1 dX7_enough_6 (by decide) (fun c4 => ?_) (fun c4 => ?_)
    · have h := h.1 c4
      refine lv_aload_n S.1 S.2.1 dX7_enough_15 rfl (lv_at hl 0 rfl) ?_
      refine lv_iconst (v := 0) S.1 S.2.1 dX7_enough_16 rfl ?_
      refine r_putI (j := 0) S hW inX7 rfl f105 rfl LM_0 (by decide) rfl tyX7 tyX7_ok nmX7 rfl rfl rfl dX7_enough_17 (fun M5 H locs eM5 hW => ?_)
      have h := h M5 eM5
      refine lv_bipush (v := 24) S.1 S.2.1 dX7_enough_20 rfl ?_
      refine lv_istore_n (lv' := [(2, .int (24 : Int32)), (0, .ref (σ 0)), (1, .int a1)]) S.1 S.2.1 dX7_enough_22 rfl hl (by decide) rfl (fun ls hl => ?_)
      refine lv_iconst (v := -1) S.1 S.2.1 dX7_enough_23 rfl ?_
      refine lv_istore_n (lv' := [(3, .int (-1 : Int32)), (2, .int (24 : Int32)), (0, .ref (σ 0)), (1, .int a1)]) S.1 S.2.1 dX7_enough_24 rfl hl (by decide) rfl (fun ls hl => ?_)
      refine lv_iconst (v := 0) S.1 S.2.1 dX7_enough_25 rfl ?_
      refine lv_istore (lv' := [(4, .int (0 : Int32)), (3, .int (-1 : Int32)), (2, .int (24 : Int32)), (0, .ref (σ 0)), (1, .int a1)]) S.1 S.2.1 dX7_enough_26 hl (by decide) rfl (fun ls hl => ?_)
      exact (e28 _ _ _ _).mp h H locs ls hW (lv_sub hl [3, 4, 2, 1, 0] rfl)
    · have h := h.2 c4
      refine lv_aload_n S.1 S.2.1 dX7_enough_9 rfl (lv_at hl 0 rfl) ?_
      refine lv_iconst (v := 1) S.1 S.2.1 dX7_enough_10 rfl ?_
      refine r_goI (r_runV (rest := []) S hW (mX7_refuse l D T σ M (1 : Int32) _ h) w126 rfl LM_0 rfl hl.1 rfl (Nat.le_of_ble_eq_true rfl) dX7_enough_11 ⟨Nat.zero_le _, Nat.zero_le _⟩) hW (fun r6 M7 H locs h hW => ?_)
      exact r_iret S hr hlk hW h dX7_enough_14
abbrev rmX7_batch : Room := { frames := 1, cells := 0, slots := 0, locals := 21 }
set_option maxHeartbeats 4000000 in
set_option maxRecDepth 100000 in
theorem mX7_batch (l : Launch) (D : va_G) (T : Nat → ClassId) (σ : Nat → Nat) (M : Mem) (a1 : Int32) (a2 : Int32) (a3 : Int32) (a4 : Int32) (post : Int32 → Mem → Prop) (h : qX7_batch a1 a2 a3 a4 M post) : Met l yX7_batch wsX7_batch rmX7_batch (preW D T LM σ [.ref (σ 0), .int a1, .int a2, .int a3, .int a4] M) (postI D T LM σ post) 0 0 (fA LM σ) := by
  refine m_of (cc := cX7_batch) (maxL := 5) (ret := (some .int)) (own := RX7) (by decide) rfl rfl (Nat.le_of_ble_eq_true rfl) ?_
  intro p e s m args below meth c H ls locs S hr hlk hl hW
  have hl : lv_has ls 5 [(0, .ref (σ 0)), (1, .int a1), (2, .int a2), (3, .int a3), (4, .int a4)] := hl
  have inX7 : ∀ w ∈ u_ws RX7 TX7 42, w ∈ wsX7_batch := by decide +kernel
  have f143 := S.2.2.2.2 (.fieldLink RX7 143 "MachineHallModel" "batches" "I") (by decide +kernel)
  have f51 := S.2.2.2.2 (.fieldLink RX7 51 "MachineHallModel" "work" "[I") (by decide +kernel)
  have f54 := S.2.2.2.2 (.fieldLink RX7 54 "MachineHallModel" "from" "[I") (by decide +kernel)
  have f57 := S.2.2.2.2 (.fieldLink RX7 57 "MachineHallModel" "due" "[I") (by decide +kernel)
  have f60 := S.2.2.2.2 (.fieldLink RX7 60 "MachineHallModel" "most" "[I") (by decide +kernel)
  have f105 := S.2.2.2.2 (.fieldLink RX7 105 "MachineHallModel" "status" "I") (by decide +kernel)
  have w126 := cwV (R := rmX7_batch) (rm := rmX7_refuse) (mc := 0) (ms := 0) 1 S.2.2.2.2 gX7_batch_X7_refuse rfl rfl rfl (by decide +kernel) ⟨Nat.le_of_ble_eq_true rfl, Nat.le_of_ble_eq_true rfl⟩
  obtain ⟨R47, e47⟩ : ∃ R : Mem → Prop, ∀ M, R M ↔ WW p l e rmX7_batch s m args below meth c D T LM σ 5 (MQ below (postI D T LM σ post) args s 0 0 (fA LM σ)) 47 [(0, .ref (σ 0))] [] M := ⟨_, fun _ => Iff.rfl⟩
  have h := h R47
  have z47 : ∀ M, qX7_batch_b47 a1 a2 a3 a4 post R47 M → R47 M := by
    intro M h
    refine (e47 _).mpr (fun H locs ls hW hl => ?_)
    refine lv_aload_n S.1 S.2.1 dX7_batch_47 rfl (lv_at hl 0 rfl) ?_
    refine lv_iconst (v := 1) S.1 S.2.1 dX7_batch_48 rfl ?_
    refine r_goI (r_runV (rest := []) S hW (mX7_refuse l D T σ M (1 : Int32) _ h) w126 rfl LM_0 rfl hl.1 rfl (Nat.le_of_ble_eq_true rfl) dX7_batch_49 ⟨Nat.zero_le _, Nat.zero_le _⟩) hW (fun r22 M23 H locs h hW => ?_)
    exact r_iret S hr hlk hW h dX7_batch_52
  have h := h z47
  refine lv_iload_n S.1 S.2.1 dX7_batch_0 rfl (lv_at hl 1 rfl) ?_
  refine lv_iconst (v := 1) S.1 S.2.1 dX7_batch_1 rfl ?_
  refine lv_icmp_lt (tgt := 47) S.1 S.2.1 dX7_batch_2 (by decide) (fun c1 => ?_) (fun c1 => ?_)
  · have h := h.1 c1
    exact (e47  _).mp h H locs ls hW (lv_sub hl [0] rfl)
  · have h := h.2 c1
    refine lv_iload_n S.1 S.2.1 dX7_batch_5 rfl (lv_at hl 1 rfl) ?_
    refine lv_sipush (v := 10000) S.1 S.2.1 dX7_batch_6 rfl ?_
    refine lv_icmp_gt (tgt := 47) S.1 S.2.1 dX7_batch_9 (by decide) (fun c2 => ?_) (fun c2 => ?_)
    · have h := h.1 c2
      exact (e47  _).mp h H locs ls hW (lv_sub hl [0] rfl)
    · have h := h.2 c2
      refine lv_iload_n S.1 S.2.1 dX7_batch_12 rfl (lv_at hl 2 rfl) ?_
      refine lv_if_lt (tgt := 47) S.1 S.2.1 dX7_batch_13 (by decide) (fun c3 => ?_) (fun c3 => ?_)
      · have h := h.1 c3
        exact (e47  _).mp h H locs ls hW (lv_sub hl [0] rfl)
      · have h := h.2 c3
        refine lv_iload_n S.1 S.2.1 dX7_batch_16 rfl (lv_at hl 2 rfl) ?_
        refine lv_bipush (v := 24) S.1 S.2.1 dX7_batch_17 rfl ?_
        refine lv_icmp_ge (tgt := 47) S.1 S.2.1 dX7_batch_19 (by decide) (fun c4 => ?_) (fun c4 => ?_)
        · have h := h.1 c4
          exact (e47  _).mp h H locs ls hW (lv_sub hl [0] rfl)
        · have h := h.2 c4
          refine lv_iload_n S.1 S.2.1 dX7_batch_22 rfl (lv_at hl 3 rfl) ?_
          refine lv_iload_n S.1 S.2.1 dX7_batch_23 rfl (lv_at hl 2 rfl) ?_
          refine lv_icmp_le (tgt := 47) S.1 S.2.1 dX7_batch_24 (by decide) (fun c5 => ?_) (fun c5 => ?_)
          · have h := h.1 c5
            exact (e47  _).mp h H locs ls hW (lv_sub hl [0] rfl)
          · have h := h.2 c5
            refine lv_iload_n S.1 S.2.1 dX7_batch_27 rfl (lv_at hl 3 rfl) ?_
            refine lv_bipush (v := 24) S.1 S.2.1 dX7_batch_28 rfl ?_
            refine lv_icmp_gt (tgt := 47) S.1 S.2.1 dX7_batch_30 (by decide) (fun c6 => ?_) (fun c6 => ?_)
            · have h := h.1 c6
              exact (e47  _).mp h H locs ls hW (lv_sub hl [0] rfl)
            · have h := h.2 c6
              refine lv_iload S.1 S.2.1 dX7_batch_33 (lv_at hl 4 rfl) ?_
              refine lv_iconst (v := 1) S.1 S.2.1 dX7_batch_35 rfl ?_
              refine lv_icmp_lt (tgt := 47) S.1 S.2.1 dX7_batch_36 (by decide) (fun c7 => ?_) (fun c7 => ?_)
              · have h := h.1 c7
                exact (e47  _).mp h H locs ls hW (lv_sub hl [0] rfl)
              · have h := h.2 c7
                refine lv_iload S.1 S.2.1 dX7_batch_39 (lv_at hl 4 rfl) ?_
                refine lv_sipush (v := 1000) S.1 S.2.1 dX7_batch_41 rfl ?_
                refine lv_icmp_le (tgt := 53) S.1 S.2.1 dX7_batch_44 (by decide) (fun c8 => ?_) (fun c8 => ?_)
                · have h := h.1 c8
                  refine lv_aload_n S.1 S.2.1 dX7_batch_53 rfl (lv_at hl 0 rfl) ?_
                  refine r_getI (j := 6) S hW inX7 rfl f143 rfl LM_0 (by decide) rfl dX7_batch_54 ?_
                  refine lv_bipush (v := 8) S.1 S.2.1 dX7_batch_57 rfl ?_
                  refine lv_icmp_ne (tgt := 68) S.1 S.2.1 dX7_batch_59 (by decide) (fun c9 => ?_) (fun c9 => ?_)
                  · have h := h.1 c9
                    refine lv_aload_n S.1 S.2.1 dX7_batch_68 rfl (lv_at hl 0 rfl) ?_
                    refine r_getR (j := 18) S hW inX7 rfl f51 rfl LM_0 (by decide) rfl dX7_batch_69 ?_
                    refine lv_aload_n S.1 S.2.1 dX7_batch_72 rfl (lv_at hl 0 rfl) ?_
                    refine r_getI (j := 6) S hW inX7 rfl f143 rfl LM_0 (by decide) rfl dX7_batch_73 ?_
                    refine lv_iload_n S.1 S.2.1 dX7_batch_76 rfl (lv_at hl 1 rfl) ?_
                    have b10 := h.1
                    have h := h.2
                    refine r_iast S hW LM_14 b10 dX7_batch_77 (fun M11 H locs eM11 hW => ?_)
                    have h := h M11 eM11
                    refine lv_aload_n S.1 S.2.1 dX7_batch_78 rfl (lv_at hl 0 rfl) ?_
                    refine r_getR (j := 19) S hW inX7 rfl f54 rfl LM_0 (by decide) rfl dX7_batch_79 ?_
                    refine lv_aload_n S.1 S.2.1 dX7_batch_82 rfl (lv_at hl 0 rfl) ?_
                    refine r_getI (j := 6) S hW inX7 rfl f143 rfl LM_0 (by decide) rfl dX7_batch_83 ?_
                    refine lv_iload_n S.1 S.2.1 dX7_batch_86 rfl (lv_at hl 2 rfl) ?_
                    have b12 := h.1
                    have h := h.2
                    refine r_iast S hW LM_15 b12 dX7_batch_87 (fun M13 H locs eM13 hW => ?_)
                    have h := h M13 eM13
                    refine lv_aload_n S.1 S.2.1 dX7_batch_88 rfl (lv_at hl 0 rfl) ?_
                    refine r_getR (j := 20) S hW inX7 rfl f57 rfl LM_0 (by decide) rfl dX7_batch_89 ?_
                    refine lv_aload_n S.1 S.2.1 dX7_batch_92 rfl (lv_at hl 0 rfl) ?_
                    refine r_getI (j := 6) S hW inX7 rfl f143 rfl LM_0 (by decide) rfl dX7_batch_93 ?_
                    refine lv_iload_n S.1 S.2.1 dX7_batch_96 rfl (lv_at hl 3 rfl) ?_
                    have b14 := h.1
                    have h := h.2
                    refine r_iast S hW LM_16 b14 dX7_batch_97 (fun M15 H locs eM15 hW => ?_)
                    have h := h M15 eM15
                    refine lv_aload_n S.1 S.2.1 dX7_batch_98 rfl (lv_at hl 0 rfl) ?_
                    refine r_getR (j := 21) S hW inX7 rfl f60 rfl LM_0 (by decide) rfl dX7_batch_99 ?_
                    refine lv_aload_n S.1 S.2.1 dX7_batch_102 rfl (lv_at hl 0 rfl) ?_
                    refine r_getI (j := 6) S hW inX7 rfl f143 rfl LM_0 (by decide) rfl dX7_batch_103 ?_
                    refine lv_iload S.1 S.2.1 dX7_batch_106 (lv_at hl 4 rfl) ?_
                    have b16 := h.1
                    have h := h.2
                    refine r_iast S hW LM_17 b16 dX7_batch_108 (fun M17 H locs eM17 hW => ?_)
                    have h := h M17 eM17
                    refine lv_aload_n S.1 S.2.1 dX7_batch_109 rfl (lv_at hl 0 rfl) ?_
                    refine lv_dup S.1 S.2.1 dX7_batch_110 rfl ?_
                    refine r_getI (j := 6) S hW inX7 rfl f143 rfl LM_0 (by decide) rfl dX7_batch_111 ?_
                    refine lv_iconst (v := 1) S.1 S.2.1 dX7_batch_114 rfl ?_
                    refine lv_iadd S.1 S.2.1 dX7_batch_115 ?_
                    refine r_putI (j := 6) S hW inX7 rfl f143 rfl LM_0 (by decide) rfl tyX7 tyX7_ok nmX7 rfl rfl rfl dX7_batch_116 (fun M18 H locs eM18 hW => ?_)
                    have h := h M18 eM18
                    refine lv_aload_n S.1 S.2.1 dX7_batch_119 rfl (lv_at hl 0 rfl) ?_
                    refine lv_iconst (v := 0) S.1 S.2.1 dX7_batch_120 rfl ?_
                    refine r_putI (j := 0) S hW inX7 rfl f105 rfl LM_0 (by decide) rfl tyX7 tyX7_ok nmX7 rfl rfl rfl dX7_batch_121 (fun M19 H locs eM19 hW => ?_)
                    have h := h M19 eM19
                    refine lv_aload_n S.1 S.2.1 dX7_batch_124 rfl (lv_at hl 0 rfl) ?_
                    refine r_getI (j := 6) S hW inX7 rfl f143 rfl LM_0 (by decide) rfl dX7_batch_125 ?_
                    refine lv_iconst (v := 1) S.1 S.2.1 dX7_batch_128 rfl ?_
                    refine lv_isub S.1 S.2.1 dX7_batch_129 ?_
                    exact r_iret S hr hlk hW h dX7_batch_130
                  · have h := h.2 c9
                    refine lv_aload_n S.1 S.2.1 dX7_batch_62 rfl (lv_at hl 0 rfl) ?_
                    refine lv_iconst (v := 4) S.1 S.2.1 dX7_batch_63 rfl ?_
                    refine r_goI (r_runV (rest := []) S hW (mX7_refuse l D T σ M (4 : Int32) _ h) w126 rfl LM_0 rfl hl.1 rfl (Nat.le_of_ble_eq_true rfl) dX7_batch_64 ⟨Nat.zero_le _, Nat.zero_le _⟩) hW (fun r20 M21 H locs h hW => ?_)
                    exact r_iret S hr hlk hW h dX7_batch_67
                · have h := h.2 c8
                  exact (e47  _).mp h H locs ls hW (lv_sub hl [0] rfl)
abbrev rmX7_isIn : Room := { frames := 0, cells := 0, slots := 0, locals := 0 }
set_option maxHeartbeats 4000000 in
set_option maxRecDepth 100000 in
theorem mX7_isIn (l : Launch) (D : va_G) (T : Nat → ClassId) (σ : Nat → Nat) (M : Mem) (a1 : Int32) (a2 : Int32) (post : Int32 → Mem → Prop) (h : qX7_isIn a1 a2 M post) : Met l yX7_isIn wsX7_isIn rmX7_isIn (preW D T LM σ [.ref (σ 0), .int a1, .int a2] M) (postI D T LM σ post) 0 0 (fA LM σ) := by
  refine m_of (cc := cX7_isIn) (maxL := 3) (ret := (some .boolean)) (own := RX7) (by decide) rfl rfl (Nat.le_of_ble_eq_true rfl) ?_
  intro p e s m args below meth c H ls locs S hr hlk hl hW
  have hl : lv_has ls 3 [(0, .ref (σ 0)), (1, .int a1), (2, .int a2)] := hl
  have inX7 : ∀ w ∈ u_ws RX7 TX7 42, w ∈ wsX7_isIn := by decide +kernel
  have f54 := S.2.2.2.2 (.fieldLink RX7 54 "MachineHallModel" "from" "[I") (by decide +kernel)
  have f57 := S.2.2.2.2 (.fieldLink RX7 57 "MachineHallModel" "due" "[I") (by decide +kernel)
  refine lv_iload_n S.1 S.2.1 dX7_isIn_0 rfl (lv_at hl 2 rfl) ?_
  refine lv_aload_n S.1 S.2.1 dX7_isIn_1 rfl (lv_at hl 0 rfl) ?_
  refine r_getR (j := 19) S hW inX7 rfl f54 rfl LM_0 (by decide) rfl dX7_isIn_2 ?_
  refine lv_iload_n S.1 S.2.1 dX7_isIn_5 rfl (lv_at hl 1 rfl) ?_
  have b1 := h.1
  have h := h.2
  refine r_iald S hW LM_15 b1 dX7_isIn_6 ?_
  refine lv_icmp_lt (tgt := 24) S.1 S.2.1 dX7_isIn_7 (by decide) (fun c2 => ?_) (fun c2 => ?_)
  · have h := h.1 c2
    refine lv_iconst (v := 0) S.1 S.2.1 dX7_isIn_24 rfl ?_
    exact r_zret S hr hlk hW rfl h dX7_isIn_25
  · have h := h.2 c2
    refine lv_iload_n S.1 S.2.1 dX7_isIn_10 rfl (lv_at hl 2 rfl) ?_
    refine lv_aload_n S.1 S.2.1 dX7_isIn_11 rfl (lv_at hl 0 rfl) ?_
    refine r_getR (j := 20) S hW inX7 rfl f57 rfl LM_0 (by decide) rfl dX7_isIn_12 ?_
    refine lv_iload_n S.1 S.2.1 dX7_isIn_15 rfl (lv_at hl 1 rfl) ?_
    have b3 := h.1
    have h := h.2
    refine r_iald S hW LM_16 b3 dX7_isIn_16 ?_
    refine lv_icmp_ge (tgt := 24) S.1 S.2.1 dX7_isIn_17 (by decide) (fun c4 => ?_) (fun c4 => ?_)
    · have h := h.1 c4
      refine lv_iconst (v := 0) S.1 S.2.1 dX7_isIn_24 rfl ?_
      exact r_zret S hr hlk hW rfl h dX7_isIn_25
    · have h := h.2 c4
      refine lv_iconst (v := 1) S.1 S.2.1 dX7_isIn_20 rfl ?_
      refine lv_goto (tgt := 25) S.1 S.2.1 dX7_isIn_21 (by decide) ?_
      exact r_zret S hr hlk hW rfl h dX7_isIn_25
abbrev rmX7_goes : Room := { frames := 1, cells := 0, slots := 0, locals := 22 }
set_option maxHeartbeats 4000000 in
set_option maxRecDepth 100000 in
theorem mX7_goes (l : Launch) (D : va_G) (T : Nat → ClassId) (σ : Nat → Nat) (M : Mem) (a1 : Int32) (a2 : Int32) (post : Int32 → Mem → Prop) (h : qX7_goes a1 a2 M post) : Met l yX7_goes wsX7_goes rmX7_goes (preW D T LM σ [.ref (σ 0), .int a1, .int a2] M) (postI D T LM σ post) 0 0 (fA LM σ) := by
  refine m_of (cc := cX7_goes) (maxL := 3) (ret := (some .int)) (own := RX7) (by decide) rfl rfl (Nat.le_of_ble_eq_true rfl) ?_
  intro p e s m args below meth c H ls locs S hr hlk hl hW
  have hl : lv_has ls 3 [(0, .ref (σ 0)), (1, .int a1), (2, .int a2)] := hl
  have inX7 : ∀ w ∈ u_ws RX7 TX7 42, w ∈ wsX7_goes := by decide +kernel
  have f143 := S.2.2.2.2 (.fieldLink RX7 143 "MachineHallModel" "batches" "I") (by decide +kernel)
  have w168 := cwV (R := rmX7_goes) (rm := rmX7_isIn) (mc := 0) (ms := 0) 2 S.2.2.2.2 gX7_goes_X7_isIn rfl rfl rfl (by decide +kernel) ⟨Nat.le_of_ble_eq_true rfl, Nat.le_of_ble_eq_true rfl⟩
  have f75 := S.2.2.2.2 (.fieldLink RX7 75 "MachineHallModel" "stays" "[Z") (by decide +kernel)
  have f60 := S.2.2.2.2 (.fieldLink RX7 60 "MachineHallModel" "most" "[I") (by decide +kernel)
  have f63 := S.2.2.2.2 (.fieldLink RX7 63 "MachineHallModel" "part" "[I") (by decide +kernel)
  have f51 := S.2.2.2.2 (.fieldLink RX7 51 "MachineHallModel" "work" "[I") (by decide +kernel)
  have f72 := S.2.2.2.2 (.fieldLink RX7 72 "MachineHallModel" "done" "[I") (by decide +kernel)
  have f66 := S.2.2.2.2 (.fieldLink RX7 66 "MachineHallModel" "has" "[I") (by decide +kernel)
  have f69 := S.2.2.2.2 (.fieldLink RX7 69 "MachineHallModel" "used" "[I") (by decide +kernel)
  obtain ⟨R121, e121⟩ : ∃ R : Mem → Prop, ∀ M, R M ↔ WW p l e rmX7_goes s m args below meth c D T LM σ 3 (MQ below (postI D T LM σ post) args s 0 0 (fA LM σ)) 121 [(0, .ref (σ 0)), (1, .int a1), (2, .int a2)] [] M := ⟨_, fun _ => Iff.rfl⟩
  obtain ⟨R183, e183⟩ : ∃ R : Mem → Prop, ∀ M, R M ↔ WW p l e rmX7_goes s m args below meth c D T LM σ 3 (MQ below (postI D T LM σ post) args s 0 0 (fA LM σ)) 183 [(0, .ref (σ 0)), (1, .int a1), (2, .int a2)] [] M := ⟨_, fun _ => Iff.rfl⟩
  obtain ⟨R221, e221⟩ : ∃ R : Mem → Prop, ∀ M, R M ↔ WW p l e rmX7_goes s m args below meth c D T LM σ 3 (MQ below (postI D T LM σ post) args s 0 0 (fA LM σ)) 221 [(0, .ref (σ 0)), (1, .int a1), (2, .int a2)] [] M := ⟨_, fun _ => Iff.rfl⟩
  have h := h R121 R183 R221
  have z121 : ∀ M, qX7_goes_b121 a1 a2 post R121 R183 R221 M → R121 M := by
    intro M h
    refine (e121 _).mpr (fun H locs ls hW hl => ?_)
    refine lv_iload_n S.1 S.2.1 dX7_goes_121 rfl (lv_at hl 1 rfl) ?_
    refine lv_bipush (v := 8) S.1 S.2.1 dX7_goes_122 rfl ?_
    refine lv_icmp_lt (tgt := 183) S.1 S.2.1 dX7_goes_124 (by decide) (fun c17 => ?_) (fun c17 => ?_)
    · have h := h.1 c17
      exact (e183  _).mp h H locs ls hW (lv_sub hl [0, 1, 2] rfl)
    · have h := h.2 c17
      refine lv_iload_n S.1 S.2.1 dX7_goes_127 rfl (lv_at hl 1 rfl) ?_
      refine lv_bipush (v := 32) S.1 S.2.1 dX7_goes_128 rfl ?_
      refine lv_icmp_ge (tgt := 183) S.1 S.2.1 dX7_goes_130 (by decide) (fun c18 => ?_) (fun c18 => ?_)
      · have h := h.1 c18
        exact (e183  _).mp h H locs ls hW (lv_sub hl [0, 1, 2] rfl)
      · have h := h.2 c18
        refine lv_iload_n S.1 S.2.1 dX7_goes_133 rfl (lv_at hl 2 rfl) ?_
        refine lv_bipush (v := 8) S.1 S.2.1 dX7_goes_134 rfl ?_
        refine lv_icmp_ge (tgt := 183) S.1 S.2.1 dX7_goes_136 (by decide) (fun c19 => ?_) (fun c19 => ?_)
        · have h := h.1 c19
          exact (e183  _).mp h H locs ls hW (lv_sub hl [0, 1, 2] rfl)
        · have h := h.2 c19
          refine lv_iload_n S.1 S.2.1 dX7_goes_139 rfl (lv_at hl 2 rfl) ?_
          refine lv_aload_n S.1 S.2.1 dX7_goes_140 rfl (lv_at hl 0 rfl) ?_
          refine r_getI (j := 6) S hW inX7 rfl f143 rfl LM_0 (by decide) rfl dX7_goes_141 ?_
          refine lv_icmp_ge (tgt := 181) S.1 S.2.1 dX7_goes_144 (by decide) (fun c20 => ?_) (fun c20 => ?_)
          · have h := h.1 c20
            refine lv_iconst (v := 0) S.1 S.2.1 dX7_goes_181 rfl ?_
            exact r_iret S hr hlk hW h dX7_goes_182
          · have h := h.2 c20
            refine lv_aload_n S.1 S.2.1 dX7_goes_147 rfl (lv_at hl 0 rfl) ?_
            refine r_getR (j := 26) S hW inX7 rfl f75 rfl LM_0 (by decide) rfl dX7_goes_148 ?_
            refine lv_bipush (v := 24) S.1 S.2.1 dX7_goes_151 rfl ?_
            refine lv_iload_n S.1 S.2.1 dX7_goes_153 rfl (lv_at hl 2 rfl) ?_
            refine lv_imul S.1 S.2.1 dX7_goes_154 ?_
            refine lv_iload_n S.1 S.2.1 dX7_goes_155 rfl (lv_at hl 1 rfl) ?_
            refine lv_iadd S.1 S.2.1 dX7_goes_156 ?_
            refine lv_bipush (v := 8) S.1 S.2.1 dX7_goes_157 rfl ?_
            refine lv_isub S.1 S.2.1 dX7_goes_159 ?_
            have b21 := h.1
            have h := h.2
            refine r_zald S hW LM_22 b21 dX7_goes_160 ?_
            refine lv_if_ne (tgt := 181) S.1 S.2.1 dX7_goes_161 (by decide) (fun c22 => ?_) (fun c22 => ?_)
            · have h := h.1 c22
              refine lv_iconst (v := 0) S.1 S.2.1 dX7_goes_181 rfl ?_
              exact r_iret S hr hlk hW h dX7_goes_182
            · have h := h.2 c22
              refine lv_aload_n S.1 S.2.1 dX7_goes_164 rfl (lv_at hl 0 rfl) ?_
              refine r_getR (j := 22) S hW inX7 rfl f63 rfl LM_0 (by decide) rfl dX7_goes_165 ?_
              refine lv_bipush (v := 24) S.1 S.2.1 dX7_goes_168 rfl ?_
              refine lv_iload_n S.1 S.2.1 dX7_goes_170 rfl (lv_at hl 2 rfl) ?_
              refine lv_imul S.1 S.2.1 dX7_goes_171 ?_
              refine lv_iload_n S.1 S.2.1 dX7_goes_172 rfl (lv_at hl 1 rfl) ?_
              refine lv_iadd S.1 S.2.1 dX7_goes_173 ?_
              refine lv_bipush (v := 8) S.1 S.2.1 dX7_goes_174 rfl ?_
              refine lv_isub S.1 S.2.1 dX7_goes_176 ?_
              have b23 := h.1
              have h := h.2
              refine r_iald S hW LM_18 b23 dX7_goes_177 ?_
              refine lv_goto (tgt := 182) S.1 S.2.1 dX7_goes_178 (by decide) ?_
              exact r_iret S hr hlk hW h dX7_goes_182
  have z183 : ∀ M, qX7_goes_b183 a1 a2 post R121 R183 R221 M → R183 M := by
    intro M h
    refine (e183 _).mpr (fun H locs ls hW hl => ?_)
    refine lv_iload_n S.1 S.2.1 dX7_goes_183 rfl (lv_at hl 1 rfl) ?_
    refine lv_bipush (v := 8) S.1 S.2.1 dX7_goes_184 rfl ?_
    refine lv_icmp_lt (tgt := 221) S.1 S.2.1 dX7_goes_186 (by decide) (fun c24 => ?_) (fun c24 => ?_)
    · have h := h.1 c24
      exact (e221  _).mp h H locs ls hW (lv_sub hl [0, 1, 2] rfl)
    · have h := h.2 c24
      refine lv_iload_n S.1 S.2.1 dX7_goes_189 rfl (lv_at hl 1 rfl) ?_
      refine lv_bipush (v := 32) S.1 S.2.1 dX7_goes_190 rfl ?_
      refine lv_icmp_ge (tgt := 221) S.1 S.2.1 dX7_goes_192 (by decide) (fun c25 => ?_) (fun c25 => ?_)
      · have h := h.1 c25
        exact (e221  _).mp h H locs ls hW (lv_sub hl [0, 1, 2] rfl)
      · have h := h.2 c25
        refine lv_iload_n S.1 S.2.1 dX7_goes_195 rfl (lv_at hl 2 rfl) ?_
        refine lv_bipush (v := 32) S.1 S.2.1 dX7_goes_196 rfl ?_
        refine lv_icmp_ne (tgt := 221) S.1 S.2.1 dX7_goes_198 (by decide) (fun c26 => ?_) (fun c26 => ?_)
        · have h := h.1 c26
          exact (e221  _).mp h H locs ls hW (lv_sub hl [0, 1, 2] rfl)
        · have h := h.2 c26
          refine lv_aload_n S.1 S.2.1 dX7_goes_201 rfl (lv_at hl 0 rfl) ?_
          refine r_getR (j := 23) S hW inX7 rfl f66 rfl LM_0 (by decide) rfl dX7_goes_202 ?_
          refine lv_iload_n S.1 S.2.1 dX7_goes_205 rfl (lv_at hl 1 rfl) ?_
          refine lv_bipush (v := 8) S.1 S.2.1 dX7_goes_206 rfl ?_
          refine lv_isub S.1 S.2.1 dX7_goes_208 ?_
          have b27 := h.1
          have h := h.2
          refine r_iald S hW LM_19 b27 dX7_goes_209 ?_
          refine lv_aload_n S.1 S.2.1 dX7_goes_210 rfl (lv_at hl 0 rfl) ?_
          refine r_getR (j := 24) S hW inX7 rfl f69 rfl LM_0 (by decide) rfl dX7_goes_211 ?_
          refine lv_iload_n S.1 S.2.1 dX7_goes_214 rfl (lv_at hl 1 rfl) ?_
          refine lv_bipush (v := 8) S.1 S.2.1 dX7_goes_215 rfl ?_
          refine lv_isub S.1 S.2.1 dX7_goes_217 ?_
          have b28 := h.1
          have h := h.2
          refine r_iald S hW LM_20 b28 dX7_goes_218 ?_
          refine lv_isub S.1 S.2.1 dX7_goes_219 ?_
          exact r_iret S hr hlk hW h dX7_goes_220
  have z221 : ∀ M, qX7_goes_b221 a1 a2 post R121 R183 R221 M → R221 M := by
    intro M h
    refine (e221 _).mpr (fun H locs ls hW hl => ?_)
    refine lv_iload_n S.1 S.2.1 dX7_goes_221 rfl (lv_at hl 1 rfl) ?_
    refine lv_bipush (v := 32) S.1 S.2.1 dX7_goes_222 rfl ?_
    refine lv_icmp_ne (tgt := 249) S.1 S.2.1 dX7_goes_224 (by decide) (fun c29 => ?_) (fun c29 => ?_)
    · have h := h.1 c29
      refine lv_iconst (v := 0) S.1 S.2.1 dX7_goes_249 rfl ?_
      exact r_iret S hr hlk hW h dX7_goes_250
    · have h := h.2 c29
      refine lv_iload_n S.1 S.2.1 dX7_goes_227 rfl (lv_at hl 2 rfl) ?_
      refine lv_bipush (v := 8) S.1 S.2.1 dX7_goes_228 rfl ?_
      refine lv_icmp_lt (tgt := 249) S.1 S.2.1 dX7_goes_230 (by decide) (fun c30 => ?_) (fun c30 => ?_)
      · have h := h.1 c30
        refine lv_iconst (v := 0) S.1 S.2.1 dX7_goes_249 rfl ?_
        exact r_iret S hr hlk hW h dX7_goes_250
      · have h := h.2 c30
        refine lv_iload_n S.1 S.2.1 dX7_goes_233 rfl (lv_at hl 2 rfl) ?_
        refine lv_bipush (v := 32) S.1 S.2.1 dX7_goes_234 rfl ?_
        refine lv_icmp_ge (tgt := 249) S.1 S.2.1 dX7_goes_236 (by decide) (fun c31 => ?_) (fun c31 => ?_)
        · have h := h.1 c31
          refine lv_iconst (v := 0) S.1 S.2.1 dX7_goes_249 rfl ?_
          exact r_iret S hr hlk hW h dX7_goes_250
        · have h := h.2 c31
          refine lv_aload_n S.1 S.2.1 dX7_goes_239 rfl (lv_at hl 0 rfl) ?_
          refine r_getR (j := 24) S hW inX7 rfl f69 rfl LM_0 (by decide) rfl dX7_goes_240 ?_
          refine lv_iload_n S.1 S.2.1 dX7_goes_243 rfl (lv_at hl 2 rfl) ?_
          refine lv_bipush (v := 8) S.1 S.2.1 dX7_goes_244 rfl ?_
          refine lv_isub S.1 S.2.1 dX7_goes_246 ?_
          have b32 := h.1
          have h := h.2
          refine r_iald S hW LM_20 b32 dX7_goes_247 ?_
          exact r_iret S hr hlk hW h dX7_goes_248
  have h := h z121 z183 z221
  refine lv_iload_n S.1 S.2.1 dX7_goes_0 rfl (lv_at hl 1 rfl) ?_
  refine lv_bipush (v := 33) S.1 S.2.1 dX7_goes_1 rfl ?_
  refine lv_icmp_ne (tgt := 32) S.1 S.2.1 dX7_goes_3 (by decide) (fun c1 => ?_) (fun c1 => ?_)
  · have h := h.1 c1
    refine lv_iload_n S.1 S.2.1 dX7_goes_32 rfl (lv_at hl 2 rfl) ?_
    refine lv_bipush (v := 33) S.1 S.2.1 dX7_goes_33 rfl ?_
    refine lv_icmp_ne (tgt := 40) S.1 S.2.1 dX7_goes_35 (by decide) (fun c2 => ?_) (fun c2 => ?_)
    · have h := h.1 c2
      refine lv_iload_n S.1 S.2.1 dX7_goes_40 rfl (lv_at hl 1 rfl) ?_
      refine lv_bipush (v := 8) S.1 S.2.1 dX7_goes_41 rfl ?_
      refine lv_icmp_ge (tgt := 121) S.1 S.2.1 dX7_goes_43 (by decide) (fun c3 => ?_) (fun c3 => ?_)
      · have h := h.1 c3
        exact (e121  _).mp h H locs ls hW (lv_sub hl [0, 1, 2] rfl)
      · have h := h.2 c3
        refine lv_iload_n S.1 S.2.1 dX7_goes_46 rfl (lv_at hl 2 rfl) ?_
        refine lv_bipush (v := 8) S.1 S.2.1 dX7_goes_47 rfl ?_
        refine lv_icmp_lt (tgt := 121) S.1 S.2.1 dX7_goes_49 (by decide) (fun c4 => ?_) (fun c4 => ?_)
        · have h := h.1 c4
          exact (e121  _).mp h H locs ls hW (lv_sub hl [0, 1, 2] rfl)
        · have h := h.2 c4
          refine lv_iload_n S.1 S.2.1 dX7_goes_52 rfl (lv_at hl 2 rfl) ?_
          refine lv_bipush (v := 32) S.1 S.2.1 dX7_goes_53 rfl ?_
          refine lv_icmp_ge (tgt := 121) S.1 S.2.1 dX7_goes_55 (by decide) (fun c5 => ?_) (fun c5 => ?_)
          · have h := h.1 c5
            exact (e121  _).mp h H locs ls hW (lv_sub hl [0, 1, 2] rfl)
          · have h := h.2 c5
            refine lv_iload_n S.1 S.2.1 dX7_goes_58 rfl (lv_at hl 1 rfl) ?_
            refine lv_aload_n S.1 S.2.1 dX7_goes_59 rfl (lv_at hl 0 rfl) ?_
            refine r_getI (j := 6) S hW inX7 rfl f143 rfl LM_0 (by decide) rfl dX7_goes_60 ?_
            refine lv_icmp_ge (tgt := 119) S.1 S.2.1 dX7_goes_63 (by decide) (fun c6 => ?_) (fun c6 => ?_)
            · have h := h.1 c6
              refine lv_iconst (v := 0) S.1 S.2.1 dX7_goes_119 rfl ?_
              exact r_iret S hr hlk hW h dX7_goes_120
            · have h := h.2 c6
              refine lv_aload_n S.1 S.2.1 dX7_goes_66 rfl (lv_at hl 0 rfl) ?_
              refine lv_iload_n S.1 S.2.1 dX7_goes_67 rfl (lv_at hl 1 rfl) ?_
              refine lv_iload_n S.1 S.2.1 dX7_goes_68 rfl (lv_at hl 2 rfl) ?_
              refine lv_bipush (v := 8) S.1 S.2.1 dX7_goes_69 rfl ?_
              refine lv_isub S.1 S.2.1 dX7_goes_71 ?_
              refine r_goI (r_runV (rest := []) S hW (mX7_isIn l D T σ M a1 (a2 - (8 : Int32)) _ h) w168 rfl LM_0 rfl hl.1 rfl (Nat.le_of_ble_eq_true rfl) dX7_goes_72 ⟨Nat.zero_le _, Nat.zero_le _⟩) hW (fun r7 M8 H locs h hW => ?_)
              refine lv_if_eq (tgt := 119) S.1 S.2.1 dX7_goes_75 (by decide) (fun c9 => ?_) (fun c9 => ?_)
              · have h := h.1 c9
                refine lv_iconst (v := 0) S.1 S.2.1 dX7_goes_119 rfl ?_
                exact r_iret S hr hlk hW h dX7_goes_120
              · have h := h.2 c9
                refine lv_aload_n S.1 S.2.1 dX7_goes_78 rfl (lv_at hl 0 rfl) ?_
                refine r_getR (j := 26) S hW inX7 rfl f75 rfl LM_0 (by decide) rfl dX7_goes_79 ?_
                refine lv_bipush (v := 24) S.1 S.2.1 dX7_goes_82 rfl ?_
                refine lv_iload_n S.1 S.2.1 dX7_goes_84 rfl (lv_at hl 1 rfl) ?_
                refine lv_imul S.1 S.2.1 dX7_goes_85 ?_
                refine lv_iload_n S.1 S.2.1 dX7_goes_86 rfl (lv_at hl 2 rfl) ?_
                refine lv_iadd S.1 S.2.1 dX7_goes_87 ?_
                refine lv_bipush (v := 8) S.1 S.2.1 dX7_goes_88 rfl ?_
                refine lv_isub S.1 S.2.1 dX7_goes_90 ?_
                have b10 := h.1
                have h := h.2
                refine r_zald S hW LM_22 b10 dX7_goes_91 ?_
                refine lv_if_ne (tgt := 119) S.1 S.2.1 dX7_goes_92 (by decide) (fun c11 => ?_) (fun c11 => ?_)
                · have h := h.1 c11
                  refine lv_iconst (v := 0) S.1 S.2.1 dX7_goes_119 rfl ?_
                  exact r_iret S hr hlk hW h dX7_goes_120
                · have h := h.2 c11
                  refine lv_aload_n S.1 S.2.1 dX7_goes_95 rfl (lv_at hl 0 rfl) ?_
                  refine r_getR (j := 21) S hW inX7 rfl f60 rfl LM_0 (by decide) rfl dX7_goes_96 ?_
                  refine lv_iload_n S.1 S.2.1 dX7_goes_99 rfl (lv_at hl 1 rfl) ?_
                  have b12 := h.1
                  have h := h.2
                  refine r_iald S hW LM_17 b12 dX7_goes_100 ?_
                  refine lv_aload_n S.1 S.2.1 dX7_goes_101 rfl (lv_at hl 0 rfl) ?_
                  refine r_getR (j := 22) S hW inX7 rfl f63 rfl LM_0 (by decide) rfl dX7_goes_102 ?_
                  refine lv_bipush (v := 24) S.1 S.2.1 dX7_goes_105 rfl ?_
                  refine lv_iload_n S.1 S.2.1 dX7_goes_107 rfl (lv_at hl 1 rfl) ?_
                  refine lv_imul S.1 S.2.1 dX7_goes_108 ?_
                  refine lv_iload_n S.1 S.2.1 dX7_goes_109 rfl (lv_at hl 2 rfl) ?_
                  refine lv_iadd S.1 S.2.1 dX7_goes_110 ?_
                  refine lv_bipush (v := 8) S.1 S.2.1 dX7_goes_111 rfl ?_
                  refine lv_isub S.1 S.2.1 dX7_goes_113 ?_
                  have b13 := h.1
                  have h := h.2
                  refine r_iald S hW LM_18 b13 dX7_goes_114 ?_
                  refine lv_isub S.1 S.2.1 dX7_goes_115 ?_
                  refine lv_goto (tgt := 120) S.1 S.2.1 dX7_goes_116 (by decide) ?_
                  exact r_iret S hr hlk hW h dX7_goes_120
    · have h := h.2 c2
      refine lv_iconst (v := 0) S.1 S.2.1 dX7_goes_38 rfl ?_
      exact r_iret S hr hlk hW h dX7_goes_39
  · have h := h.2 c1
    refine lv_iload_n S.1 S.2.1 dX7_goes_6 rfl (lv_at hl 2 rfl) ?_
    refine lv_aload_n S.1 S.2.1 dX7_goes_7 rfl (lv_at hl 0 rfl) ?_
    refine r_getI (j := 6) S hW inX7 rfl f143 rfl LM_0 (by decide) rfl dX7_goes_8 ?_
    refine lv_icmp_ge (tgt := 30) S.1 S.2.1 dX7_goes_11 (by decide) (fun c14 => ?_) (fun c14 => ?_)
    · have h := h.1 c14
      refine lv_iconst (v := 0) S.1 S.2.1 dX7_goes_30 rfl ?_
      exact r_iret S hr hlk hW h dX7_goes_31
    · have h := h.2 c14
      refine lv_aload_n S.1 S.2.1 dX7_goes_14 rfl (lv_at hl 0 rfl) ?_
      refine r_getR (j := 18) S hW inX7 rfl f51 rfl LM_0 (by decide) rfl dX7_goes_15 ?_
      refine lv_iload_n S.1 S.2.1 dX7_goes_18 rfl (lv_at hl 2 rfl) ?_
      have b15 := h.1
      have h := h.2
      refine r_iald S hW LM_14 b15 dX7_goes_19 ?_
      refine lv_aload_n S.1 S.2.1 dX7_goes_20 rfl (lv_at hl 0 rfl) ?_
      refine r_getR (j := 25) S hW inX7 rfl f72 rfl LM_0 (by decide) rfl dX7_goes_21 ?_
      refine lv_iload_n S.1 S.2.1 dX7_goes_24 rfl (lv_at hl 2 rfl) ?_
      have b16 := h.1
      have h := h.2
      refine r_iald S hW LM_21 b16 dX7_goes_25 ?_
      refine lv_isub S.1 S.2.1 dX7_goes_26 ?_
      refine lv_goto (tgt := 31) S.1 S.2.1 dX7_goes_27 (by decide) ?_
      exact r_iret S hr hlk hW h dX7_goes_31
abbrev rmX7_moves : Room := { frames := 0, cells := 0, slots := 0, locals := 0 }
set_option maxHeartbeats 4000000 in
set_option maxRecDepth 100000 in
theorem mX7_moves (l : Launch) (D : va_G) (T : Nat → ClassId) (σ : Nat → Nat) (M : Mem) (a1 : Int32) (a2 : Int32) (a3 : Int32) (post : Mem → Prop) (h : qX7_moves a1 a2 a3 M post) : Met l yX7_moves wsX7_moves rmX7_moves (preW D T LM σ [.ref (σ 0), .int a1, .int a2, .int a3] M) (postV D T LM σ post) 0 0 (fA LM σ) := by
  refine m_of (cc := cX7_moves) (maxL := 4) (ret := none) (own := RX7) (by decide) rfl rfl (Nat.le_of_ble_eq_true rfl) ?_
  intro p e s m args below meth c H ls locs S hr hlk hl hW
  have hl : lv_has ls 4 [(0, .ref (σ 0)), (1, .int a1), (2, .int a2), (3, .int a3)] := hl
  have inX7 : ∀ w ∈ u_ws RX7 TX7 42, w ∈ wsX7_moves := by decide +kernel
  have f69 := S.2.2.2.2 (.fieldLink RX7 69 "MachineHallModel" "used" "[I") (by decide +kernel)
  have f63 := S.2.2.2.2 (.fieldLink RX7 63 "MachineHallModel" "part" "[I") (by decide +kernel)
  have f72 := S.2.2.2.2 (.fieldLink RX7 72 "MachineHallModel" "done" "[I") (by decide +kernel)
  refine lv_iload_n S.1 S.2.1 dX7_moves_0 rfl (lv_at hl 1 rfl) ?_
  refine lv_bipush (v := 33) S.1 S.2.1 dX7_moves_1 rfl ?_
  refine lv_icmp_ne (tgt := 19) S.1 S.2.1 dX7_moves_3 (by decide) (fun c1 => ?_) (fun c1 => ?_)
  · have h := h.1 c1
    refine lv_iload_n S.1 S.2.1 dX7_moves_19 rfl (lv_at hl 1 rfl) ?_
    refine lv_bipush (v := 8) S.1 S.2.1 dX7_moves_20 rfl ?_
    refine lv_icmp_ge (tgt := 46) S.1 S.2.1 dX7_moves_22 (by decide) (fun c2 => ?_) (fun c2 => ?_)
    · have h := h.1 c2
      refine lv_iload_n S.1 S.2.1 dX7_moves_46 rfl (lv_at hl 2 rfl) ?_
      refine lv_bipush (v := 8) S.1 S.2.1 dX7_moves_47 rfl ?_
      refine lv_icmp_ge (tgt := 73) S.1 S.2.1 dX7_moves_49 (by decide) (fun c3 => ?_) (fun c3 => ?_)
      · have h := h.1 c3
        refine lv_iload_n S.1 S.2.1 dX7_moves_73 rfl (lv_at hl 2 rfl) ?_
        refine lv_bipush (v := 32) S.1 S.2.1 dX7_moves_74 rfl ?_
        refine lv_icmp_ne (tgt := 95) S.1 S.2.1 dX7_moves_76 (by decide) (fun c4 => ?_) (fun c4 => ?_)
        · have h := h.1 c4
          refine lv_aload_n S.1 S.2.1 dX7_moves_95 rfl (lv_at hl 0 rfl) ?_
          refine r_getR (j := 24) S hW inX7 rfl f69 rfl LM_0 (by decide) rfl dX7_moves_96 ?_
          refine lv_iload_n S.1 S.2.1 dX7_moves_99 rfl (lv_at hl 2 rfl) ?_
          refine lv_bipush (v := 8) S.1 S.2.1 dX7_moves_100 rfl ?_
          refine lv_isub S.1 S.2.1 dX7_moves_102 ?_
          refine lv_dup2_11 S.1 S.2.1 dX7_moves_103 rfl rfl ?_
          have b5 := h.1
          have h := h.2
          refine r_iald S hW LM_20 b5 dX7_moves_104 ?_
          refine lv_iload_n S.1 S.2.1 dX7_moves_105 rfl (lv_at hl 3 rfl) ?_
          refine lv_isub S.1 S.2.1 dX7_moves_106 ?_
          have b6 := h.1
          have h := h.2
          refine r_iast S hW LM_20 b6 dX7_moves_107 (fun M7 H locs eM7 hW => ?_)
          have h := h M7 eM7
          exact r_vret S hr hlk hW h dX7_moves_108
        · have h := h.2 c4
          refine lv_aload_n S.1 S.2.1 dX7_moves_79 rfl (lv_at hl 0 rfl) ?_
          refine r_getR (j := 24) S hW inX7 rfl f69 rfl LM_0 (by decide) rfl dX7_moves_80 ?_
          refine lv_iload_n S.1 S.2.1 dX7_moves_83 rfl (lv_at hl 1 rfl) ?_
          refine lv_bipush (v := 8) S.1 S.2.1 dX7_moves_84 rfl ?_
          refine lv_isub S.1 S.2.1 dX7_moves_86 ?_
          refine lv_dup2_11 S.1 S.2.1 dX7_moves_87 rfl rfl ?_
          have b8 := h.1
          have h := h.2
          refine r_iald S hW LM_20 b8 dX7_moves_88 ?_
          refine lv_iload_n S.1 S.2.1 dX7_moves_89 rfl (lv_at hl 3 rfl) ?_
          refine lv_iadd S.1 S.2.1 dX7_moves_90 ?_
          have b9 := h.1
          have h := h.2
          refine r_iast S hW LM_20 b9 dX7_moves_91 (fun M10 H locs eM10 hW => ?_)
          have h := h M10 eM10
          refine lv_goto (tgt := 108) S.1 S.2.1 dX7_moves_92 (by decide) ?_
          exact r_vret S hr hlk hW h dX7_moves_108
      · have h := h.2 c3
        refine lv_aload_n S.1 S.2.1 dX7_moves_52 rfl (lv_at hl 0 rfl) ?_
        refine r_getR (j := 22) S hW inX7 rfl f63 rfl LM_0 (by decide) rfl dX7_moves_53 ?_
        refine lv_bipush (v := 24) S.1 S.2.1 dX7_moves_56 rfl ?_
        refine lv_iload_n S.1 S.2.1 dX7_moves_58 rfl (lv_at hl 2 rfl) ?_
        refine lv_imul S.1 S.2.1 dX7_moves_59 ?_
        refine lv_iload_n S.1 S.2.1 dX7_moves_60 rfl (lv_at hl 1 rfl) ?_
        refine lv_iadd S.1 S.2.1 dX7_moves_61 ?_
        refine lv_bipush (v := 8) S.1 S.2.1 dX7_moves_62 rfl ?_
        refine lv_isub S.1 S.2.1 dX7_moves_64 ?_
        refine lv_dup2_11 S.1 S.2.1 dX7_moves_65 rfl rfl ?_
        have b11 := h.1
        have h := h.2
        refine r_iald S hW LM_18 b11 dX7_moves_66 ?_
        refine lv_iload_n S.1 S.2.1 dX7_moves_67 rfl (lv_at hl 3 rfl) ?_
        refine lv_isub S.1 S.2.1 dX7_moves_68 ?_
        have b12 := h.1
        have h := h.2
        refine r_iast S hW LM_18 b12 dX7_moves_69 (fun M13 H locs eM13 hW => ?_)
        have h := h M13 eM13
        refine lv_goto (tgt := 108) S.1 S.2.1 dX7_moves_70 (by decide) ?_
        exact r_vret S hr hlk hW h dX7_moves_108
    · have h := h.2 c2
      refine lv_aload_n S.1 S.2.1 dX7_moves_25 rfl (lv_at hl 0 rfl) ?_
      refine r_getR (j := 22) S hW inX7 rfl f63 rfl LM_0 (by decide) rfl dX7_moves_26 ?_
      refine lv_bipush (v := 24) S.1 S.2.1 dX7_moves_29 rfl ?_
      refine lv_iload_n S.1 S.2.1 dX7_moves_31 rfl (lv_at hl 1 rfl) ?_
      refine lv_imul S.1 S.2.1 dX7_moves_32 ?_
      refine lv_iload_n S.1 S.2.1 dX7_moves_33 rfl (lv_at hl 2 rfl) ?_
      refine lv_iadd S.1 S.2.1 dX7_moves_34 ?_
      refine lv_bipush (v := 8) S.1 S.2.1 dX7_moves_35 rfl ?_
      refine lv_isub S.1 S.2.1 dX7_moves_37 ?_
      refine lv_dup2_11 S.1 S.2.1 dX7_moves_38 rfl rfl ?_
      have b14 := h.1
      have h := h.2
      refine r_iald S hW LM_18 b14 dX7_moves_39 ?_
      refine lv_iload_n S.1 S.2.1 dX7_moves_40 rfl (lv_at hl 3 rfl) ?_
      refine lv_iadd S.1 S.2.1 dX7_moves_41 ?_
      have b15 := h.1
      have h := h.2
      refine r_iast S hW LM_18 b15 dX7_moves_42 (fun M16 H locs eM16 hW => ?_)
      have h := h M16 eM16
      refine lv_goto (tgt := 108) S.1 S.2.1 dX7_moves_43 (by decide) ?_
      exact r_vret S hr hlk hW h dX7_moves_108
  · have h := h.2 c1
    refine lv_aload_n S.1 S.2.1 dX7_moves_6 rfl (lv_at hl 0 rfl) ?_
    refine r_getR (j := 25) S hW inX7 rfl f72 rfl LM_0 (by decide) rfl dX7_moves_7 ?_
    refine lv_iload_n S.1 S.2.1 dX7_moves_10 rfl (lv_at hl 2 rfl) ?_
    refine lv_dup2_11 S.1 S.2.1 dX7_moves_11 rfl rfl ?_
    have b17 := h.1
    have h := h.2
    refine r_iald S hW LM_21 b17 dX7_moves_12 ?_
    refine lv_iload_n S.1 S.2.1 dX7_moves_13 rfl (lv_at hl 3 rfl) ?_
    refine lv_iadd S.1 S.2.1 dX7_moves_14 ?_
    have b18 := h.1
    have h := h.2
    refine r_iast S hW LM_21 b18 dX7_moves_15 (fun M19 H locs eM19 hW => ?_)
    have h := h M19 eM19
    refine lv_goto (tgt := 108) S.1 S.2.1 dX7_moves_16 (by decide) ?_
    exact r_vret S hr hlk hW h dX7_moves_108
abbrev rmX7_isWay : Room := { frames := 2, cells := 0, slots := 0, locals := 44 }
set_option maxHeartbeats 4000000 in
set_option maxRecDepth 100000 in
theorem mX7_isWay (l : Launch) (D : va_G) (T : Nat → ClassId) (σ : Nat → Nat) (M : Mem) (a1 : Int32) (a2 : Int32) (post : Int32 → Mem → Prop) (h : qX7_isWay a1 a2 M post) : Met l yX7_isWay wsX7_isWay rmX7_isWay (preW D T LM σ [.ref (σ 0), .int a1, .int a2] M) (postI D T LM σ post) 0 0 (fA LM σ) := by
  refine m_of (cc := cX7_isWay) (maxL := 6) (ret := (some .boolean)) (own := RX7) (by decide) rfl rfl (Nat.le_of_ble_eq_true rfl) ?_
  intro p e s m args below meth c H ls locs S hr hlk hl hW
  have hl : lv_has ls 6 [(0, .ref (σ 0)), (1, .int a1), (2, .int a2)] := hl
  have inX7 : ∀ w ∈ u_ws RX7 TX7 42, w ∈ wsX7_isWay := by decide +kernel
  have f78 := S.2.2.2.2 (.fieldLink RX7 78 "MachineHallModel" "before" "[I") (by decide +kernel)
  have f81 := S.2.2.2.2 (.fieldLink RX7 81 "MachineHallModel" "line" "[I") (by decide +kernel)
  have w171 := cwV (R := rmX7_isWay) (rm := rmX7_goes) (mc := 0) (ms := 0) 2 S.2.2.2.2 gX7_isWay_X7_goes rfl rfl rfl (by decide +kernel) ⟨Nat.le_of_ble_eq_true rfl, Nat.le_of_ble_eq_true rfl⟩
  obtain ⟨R2, e2⟩ : ∃ R : Int32 → Mem → Prop, ∀ x3 M, R x3 M ↔ WW p l e rmX7_isWay s m args below meth c D T LM σ 6 (MQ below (postI D T LM σ post) args s 0 0 (fA LM σ)) 2 [(0, .ref (σ 0)), (1, .int a1), (2, .int a2), (3, .int x3)] [] M := ⟨_, fun _ _ => Iff.rfl⟩
  obtain ⟨R43, e43⟩ : ∃ R : Int32 → Int32 → Mem → Prop, ∀ x3 x4 M, R x3 x4 M ↔ WW p l e rmX7_isWay s m args below meth c D T LM σ 6 (MQ below (postI D T LM σ post) args s 0 0 (fA LM σ)) 43 [(0, .ref (σ 0)), (2, .int a2), (3, .int x3), (4, .int x4)] [] M := ⟨_, fun _ _ _ => Iff.rfl⟩
  obtain ⟨R62, e62⟩ : ∃ R : Int32 → Int32 → Int32 → Mem → Prop, ∀ x3 x4 x5 M, R x3 x4 x5 M ↔ WW p l e rmX7_isWay s m args below meth c D T LM σ 6 (MQ below (postI D T LM σ post) args s 0 0 (fA LM σ)) 62 [(0, .ref (σ 0)), (2, .int a2), (3, .int x3), (4, .int x4), (5, .int x5)] [] M := ⟨_, fun _ _ _ _ => Iff.rfl⟩
  have h := h R2 R43 R62
  have z2 : ∀ x3 M, qX7_isWay_b2 a1 a2 post R2 R43 R62 x3 M → R2 x3 M := by
    intro x3 M h
    refine (e2 _ _).mpr (fun H locs ls hW hl => ?_)
    refine lv_iload_n S.1 S.2.1 dX7_isWay_2 rfl (lv_at hl 3 rfl) ?_
    refine lv_aload_n S.1 S.2.1 dX7_isWay_3 rfl (lv_at hl 0 rfl) ?_
    refine r_getR (j := 27) S hW inX7 rfl f78 rfl LM_0 (by decide) rfl dX7_isWay_4 ?_
    refine r_alenI S hW LM_23 dX7_isWay_7 ?_
    refine lv_icmp_ge (tgt := 24) S.1 S.2.1 dX7_isWay_8 (by decide) (fun c1 => ?_) (fun c1 => ?_)
    · have h := h.1 c1
      refine lv_aload_n S.1 S.2.1 dX7_isWay_24 rfl (lv_at hl 0 rfl) ?_
      refine r_getR (j := 27) S hW inX7 rfl f78 rfl LM_0 (by decide) rfl dX7_isWay_25 ?_
      refine lv_iload_n S.1 S.2.1 dX7_isWay_28 rfl (lv_at hl 1 rfl) ?_
      refine lv_iload_n S.1 S.2.1 dX7_isWay_29 rfl (lv_at hl 1 rfl) ?_
      have b2 := h.1
      have h := h.2
      refine r_iast S hW LM_23 b2 dX7_isWay_30 (fun M3 H locs eM3 hW => ?_)
      have h := h M3 eM3
      refine lv_aload_n S.1 S.2.1 dX7_isWay_31 rfl (lv_at hl 0 rfl) ?_
      refine r_getR (j := 28) S hW inX7 rfl f81 rfl LM_0 (by decide) rfl dX7_isWay_32 ?_
      refine lv_iconst (v := 0) S.1 S.2.1 dX7_isWay_35 rfl ?_
      refine lv_iload_n S.1 S.2.1 dX7_isWay_36 rfl (lv_at hl 1 rfl) ?_
      have b4 := h.1
      have h := h.2
      refine r_iast S hW LM_24 b4 dX7_isWay_37 (fun M5 H locs eM5 hW => ?_)
      have h := h M5 eM5
      refine lv_iconst (v := 1) S.1 S.2.1 dX7_isWay_38 rfl ?_
      refine lv_istore_n (lv' := [(3, .int (1 : Int32)), (0, .ref (σ 0)), (1, .int a1), (2, .int a2)]) S.1 S.2.1 dX7_isWay_39 rfl hl (by decide) rfl (fun ls hl => ?_)
      refine lv_iconst (v := 0) S.1 S.2.1 dX7_isWay_40 rfl ?_
      refine lv_istore (lv' := [(4, .int (0 : Int32)), (3, .int (1 : Int32)), (0, .ref (σ 0)), (1, .int a1), (2, .int a2)]) S.1 S.2.1 dX7_isWay_41 hl (by decide) rfl (fun ls hl => ?_)
      exact (e43 _ _ _).mp h H locs ls hW (lv_sub hl [2, 4, 1, 0] rfl)
    · have h := h.2 c1
      refine lv_aload_n S.1 S.2.1 dX7_isWay_11 rfl (lv_at hl 0 rfl) ?_
      refine r_getR (j := 27) S hW inX7 rfl f78 rfl LM_0 (by decide) rfl dX7_isWay_12 ?_
      refine lv_iload_n S.1 S.2.1 dX7_isWay_15 rfl (lv_at hl 3 rfl) ?_
      refine lv_iconst (v := -1) S.1 S.2.1 dX7_isWay_16 rfl ?_
      have b6 := h.1
      have h := h.2
      refine r_iast S hW LM_23 b6 dX7_isWay_17 (fun M7 H locs eM7 hW => ?_)
      have h := h M7 eM7
      obtain ⟨v8, ev8⟩ : ∃ y : Int32, y = x3 + 1 := ⟨_, rfl⟩
      have h := h v8 ev8
      refine lv_iinc (v := v8) (lv' := [(3, .int v8), (0, .ref (σ 0)), (1, .int a1), (2, .int a2)]) S.1 S.2.1 dX7_isWay_18 hl (k := 3) rfl (by rw [ev8]; rfl) (by decide) rfl (fun ls hl => ?_)
      refine lv_goto (tgt := 2) S.1 S.2.1 dX7_isWay_21 (by decide) ?_
      exact (e2 _ _).mp h H locs ls hW (lv_sub hl [1, 2, 3, 0] rfl)
  have z43 : ∀ x3 x4 M, qX7_isWay_b43 a1 a2 post R2 R43 R62 x3 x4 M → R43 x3 x4 M := by
    intro x3 x4 M h
    refine (e43 _ _ _).mpr (fun H locs ls hW hl => ?_)
    refine lv_iload S.1 S.2.1 dX7_isWay_43 (lv_at hl 3 rfl) ?_
    refine lv_iload_n S.1 S.2.1 dX7_isWay_45 rfl (lv_at hl 2 rfl) ?_
    refine lv_icmp_ge (tgt := 136) S.1 S.2.1 dX7_isWay_46 (by decide) (fun c9 => ?_) (fun c9 => ?_)
    · have h := h.1 c9
      refine lv_aload_n S.1 S.2.1 dX7_isWay_136 rfl (lv_at hl 0 rfl) ?_
      refine r_getR (j := 27) S hW inX7 rfl f78 rfl LM_0 (by decide) rfl dX7_isWay_137 ?_
      refine lv_iload_n S.1 S.2.1 dX7_isWay_140 rfl (lv_at hl 1 rfl) ?_
      have b10 := h.1
      have h := h.2
      refine r_iald S hW LM_23 b10 dX7_isWay_141 ?_
      refine lv_iconst (v := -1) S.1 S.2.1 dX7_isWay_142 rfl ?_
      refine lv_icmp_eq (tgt := 150) S.1 S.2.1 dX7_isWay_143 (by decide) (fun c11 => ?_) (fun c11 => ?_)
      · have h := h.1 c11
        refine lv_iconst (v := 0) S.1 S.2.1 dX7_isWay_150 rfl ?_
        exact r_zret S hr hlk hW rfl h dX7_isWay_151
      · have h := h.2 c11
        refine lv_iconst (v := 1) S.1 S.2.1 dX7_isWay_146 rfl ?_
        refine lv_goto (tgt := 151) S.1 S.2.1 dX7_isWay_147 (by decide) ?_
        exact r_zret S hr hlk hW rfl h dX7_isWay_151
    · have h := h.2 c9
      refine lv_aload_n S.1 S.2.1 dX7_isWay_49 rfl (lv_at hl 0 rfl) ?_
      refine r_getR (j := 27) S hW inX7 rfl f78 rfl LM_0 (by decide) rfl dX7_isWay_50 ?_
      refine lv_iload_n S.1 S.2.1 dX7_isWay_53 rfl (lv_at hl 1 rfl) ?_
      have b12 := h.1
      have h := h.2
      refine r_iald S hW LM_23 b12 dX7_isWay_54 ?_
      refine lv_iconst (v := -1) S.1 S.2.1 dX7_isWay_55 rfl ?_
      refine lv_icmp_ne (tgt := 136) S.1 S.2.1 dX7_isWay_56 (by decide) (fun c13 => ?_) (fun c13 => ?_)
      · have h := h.1 c13
        refine lv_aload_n S.1 S.2.1 dX7_isWay_136 rfl (lv_at hl 0 rfl) ?_
        refine r_getR (j := 27) S hW inX7 rfl f78 rfl LM_0 (by decide) rfl dX7_isWay_137 ?_
        refine lv_iload_n S.1 S.2.1 dX7_isWay_140 rfl (lv_at hl 1 rfl) ?_
        have b14 := h.1
        have h := h.2
        refine r_iald S hW LM_23 b14 dX7_isWay_141 ?_
        refine lv_iconst (v := -1) S.1 S.2.1 dX7_isWay_142 rfl ?_
        refine lv_icmp_eq (tgt := 150) S.1 S.2.1 dX7_isWay_143 (by decide) (fun c15 => ?_) (fun c15 => ?_)
        · have h := h.1 c15
          refine lv_iconst (v := 0) S.1 S.2.1 dX7_isWay_150 rfl ?_
          exact r_zret S hr hlk hW rfl h dX7_isWay_151
        · have h := h.2 c15
          refine lv_iconst (v := 1) S.1 S.2.1 dX7_isWay_146 rfl ?_
          refine lv_goto (tgt := 151) S.1 S.2.1 dX7_isWay_147 (by decide) ?_
          exact r_zret S hr hlk hW rfl h dX7_isWay_151
      · have h := h.2 c13
        refine lv_iconst (v := 0) S.1 S.2.1 dX7_isWay_59 rfl ?_
        refine lv_istore (lv' := [(5, .int (0 : Int32)), (0, .ref (σ 0)), (2, .int a2), (3, .int x3), (4, .int x4)]) S.1 S.2.1 dX7_isWay_60 hl (by decide) rfl (fun ls hl => ?_)
        exact (e62 _ _ _ _).mp h H locs ls hW (lv_sub hl [1, 2, 3, 4, 0] rfl)
  have z62 : ∀ x3 x4 x5 M, qX7_isWay_b62 a1 a2 post R2 R43 R62 x3 x4 x5 M → R62 x3 x4 x5 M := by
    intro x3 x4 x5 M h
    refine (e62 _ _ _ _).mpr (fun H locs ls hW hl => ?_)
    refine lv_iload S.1 S.2.1 dX7_isWay_62 (lv_at hl 4 rfl) ?_
    refine lv_bipush (v := 34) S.1 S.2.1 dX7_isWay_64 rfl ?_
    refine lv_icmp_ge (tgt := 130) S.1 S.2.1 dX7_isWay_66 (by decide) (fun c16 => ?_) (fun c16 => ?_)
    · have h := h.1 c16
      obtain ⟨v17, ev17⟩ : ∃ y : Int32, y = x4 + 1 := ⟨_, rfl⟩
      have h := h v17 ev17
      refine lv_iinc (v := v17) (lv' := [(4, .int v17), (0, .ref (σ 0)), (2, .int a2), (3, .int x3), (5, .int x5)]) S.1 S.2.1 dX7_isWay_130 hl (k := 3) rfl (by rw [ev17]; rfl) (by decide) rfl (fun ls hl => ?_)
      refine lv_goto (tgt := 43) S.1 S.2.1 dX7_isWay_133 (by decide) ?_
      exact (e43 _ _ _).mp h H locs ls hW (lv_sub hl [1, 2, 3, 0] rfl)
    · have h := h.2 c16
      refine lv_aload_n S.1 S.2.1 dX7_isWay_69 rfl (lv_at hl 0 rfl) ?_
      refine r_getR (j := 27) S hW inX7 rfl f78 rfl LM_0 (by decide) rfl dX7_isWay_70 ?_
      refine lv_iload S.1 S.2.1 dX7_isWay_73 (lv_at hl 4 rfl) ?_
      have b18 := h.1
      have h := h.2
      refine r_iald S hW LM_23 b18 dX7_isWay_75 ?_
      refine lv_iconst (v := -1) S.1 S.2.1 dX7_isWay_76 rfl ?_
      refine lv_icmp_ne (tgt := 124) S.1 S.2.1 dX7_isWay_77 (by decide) (fun c19 => ?_) (fun c19 => ?_)
      · have h := h.1 c19
        obtain ⟨v20, ev20⟩ : ∃ y : Int32, y = x5 + 1 := ⟨_, rfl⟩
        have h := h v20 ev20
        refine lv_iinc (v := v20) (lv' := [(5, .int v20), (0, .ref (σ 0)), (2, .int a2), (3, .int x3), (4, .int x4)]) S.1 S.2.1 dX7_isWay_124 hl (k := 4) rfl (by rw [ev20]; rfl) (by decide) rfl (fun ls hl => ?_)
        refine lv_goto (tgt := 62) S.1 S.2.1 dX7_isWay_127 (by decide) ?_
        exact (e62 _ _ _ _).mp h H locs ls hW (lv_sub hl [1, 2, 3, 4, 0] rfl)
      · have h := h.2 c19
        refine lv_aload_n S.1 S.2.1 dX7_isWay_80 rfl (lv_at hl 0 rfl) ?_
        refine lv_aload_n S.1 S.2.1 dX7_isWay_81 rfl (lv_at hl 0 rfl) ?_
        refine r_getR (j := 28) S hW inX7 rfl f81 rfl LM_0 (by decide) rfl dX7_isWay_82 ?_
        refine lv_iload S.1 S.2.1 dX7_isWay_85 (lv_at hl 3 rfl) ?_
        have b21 := h.1
        have h := h.2
        refine r_iald S hW LM_24 b21 dX7_isWay_87 ?_
        refine lv_iload S.1 S.2.1 dX7_isWay_88 (lv_at hl 4 rfl) ?_
        refine r_goI (r_runV (rest := []) S hW (mX7_goes l D T σ M (M.1 24 x4.toNatClampNeg) x5 _ h) w171 rfl LM_0 rfl hl.1 rfl (Nat.le_of_ble_eq_true rfl) dX7_isWay_90 ⟨Nat.zero_le _, Nat.zero_le _⟩) hW (fun r22 M23 H locs h hW => ?_)
        refine lv_if_ne (tgt := 99) S.1 S.2.1 dX7_isWay_93 (by decide) (fun c24 => ?_) (fun c24 => ?_)
        · have h := h.1 c24
          refine lv_aload_n S.1 S.2.1 dX7_isWay_99 rfl (lv_at hl 0 rfl) ?_
          refine r_getR (j := 27) S hW inX7 rfl f78 rfl LM_0 (by decide) rfl dX7_isWay_100 ?_
          refine lv_iload S.1 S.2.1 dX7_isWay_103 (lv_at hl 4 rfl) ?_
          refine lv_aload_n S.1 S.2.1 dX7_isWay_105 rfl (lv_at hl 0 rfl) ?_
          refine r_getR (j := 28) S hW inX7 rfl f81 rfl LM_0 (by decide) rfl dX7_isWay_106 ?_
          refine lv_iload S.1 S.2.1 dX7_isWay_109 (lv_at hl 3 rfl) ?_
          have b25 := h.1
          have h := h.2
          refine r_iald S hW LM_24 b25 dX7_isWay_111 ?_
          have b26 := h.1
          have h := h.2
          refine r_iast S hW LM_23 b26 dX7_isWay_112 (fun M27 H locs eM27 hW => ?_)
          have h := h M27 eM27
          refine lv_aload_n S.1 S.2.1 dX7_isWay_113 rfl (lv_at hl 0 rfl) ?_
          refine r_getR (j := 28) S hW inX7 rfl f81 rfl LM_0 (by decide) rfl dX7_isWay_114 ?_
          refine lv_iload_n S.1 S.2.1 dX7_isWay_117 rfl (lv_at hl 2 rfl) ?_
          refine lv_iload S.1 S.2.1 dX7_isWay_118 (lv_at hl 4 rfl) ?_
          have b28 := h.1
          have h := h.2
          refine r_iast S hW LM_24 b28 dX7_isWay_120 (fun M29 H locs eM29 hW => ?_)
          have h := h M29 eM29
          obtain ⟨v30, ev30⟩ : ∃ y : Int32, y = x3 + 1 := ⟨_, rfl⟩
          have h := h v30 ev30
          refine lv_iinc (v := v30) (lv' := [(3, .int v30), (0, .ref (σ 0)), (2, .int a2), (4, .int x4), (5, .int x5)]) S.1 S.2.1 dX7_isWay_121 hl (k := 2) rfl (by rw [ev30]; rfl) (by decide) rfl (fun ls hl => ?_)
          obtain ⟨v31, ev31⟩ : ∃ y : Int32, y = x5 + 1 := ⟨_, rfl⟩
          have h := h v31 ev31
          refine lv_iinc (v := v31) (lv' := [(5, .int v31), (3, .int v30), (0, .ref (σ 0)), (2, .int a2), (4, .int x4)]) S.1 S.2.1 dX7_isWay_124 hl (k := 4) rfl (by rw [ev31]; rfl) (by decide) rfl (fun ls hl => ?_)
          refine lv_goto (tgt := 62) S.1 S.2.1 dX7_isWay_127 (by decide) ?_
          exact (e62 _ _ _ _).mp h H locs ls hW (lv_sub hl [2, 3, 1, 4, 0] rfl)
        · have h := h.2 c24
          refine lv_goto (tgt := 124) S.1 S.2.1 dX7_isWay_96 (by decide) ?_
          obtain ⟨v32, ev32⟩ : ∃ y : Int32, y = x5 + 1 := ⟨_, rfl⟩
          have h := h v32 ev32
          refine lv_iinc (v := v32) (lv' := [(5, .int v32), (0, .ref (σ 0)), (2, .int a2), (3, .int x3), (4, .int x4)]) S.1 S.2.1 dX7_isWay_124 hl (k := 4) rfl (by rw [ev32]; rfl) (by decide) rfl (fun ls hl => ?_)
          refine lv_goto (tgt := 62) S.1 S.2.1 dX7_isWay_127 (by decide) ?_
          exact (e62 _ _ _ _).mp h H locs ls hW (lv_sub hl [1, 2, 3, 4, 0] rfl)
  have h := h z2 z43 z62
  refine lv_iconst (v := 0) S.1 S.2.1 dX7_isWay_0 rfl ?_
  refine lv_istore_n (lv' := [(3, .int (0 : Int32)), (0, .ref (σ 0)), (1, .int a1), (2, .int a2)]) S.1 S.2.1 dX7_isWay_1 rfl hl (by decide) rfl (fun ls hl => ?_)
  exact (e2 _ _).mp h H locs ls hW (lv_sub hl [1, 2, 3, 0] rfl)
abbrev rmX7_goAlong : Room := { frames := 2, cells := 0, slots := 0, locals := 44 }
set_option maxHeartbeats 4000000 in
set_option maxRecDepth 100000 in
theorem mX7_goAlong (l : Launch) (D : va_G) (T : Nat → ClassId) (σ : Nat → Nat) (M : Mem) (a1 : Int32) (a2 : Int32) (a3 : Int32) (post : Int32 → Mem → Prop) (h : qX7_goAlong a1 a2 a3 M post) : Met l yX7_goAlong wsX7_goAlong rmX7_goAlong (preW D T LM σ [.ref (σ 0), .int a1, .int a2, .int a3] M) (postI D T LM σ post) 0 0 (fA LM σ) := by
  refine m_of (cc := cX7_goAlong) (maxL := 6) (ret := (some .int)) (own := RX7) (by decide) rfl rfl (Nat.le_of_ble_eq_true rfl) ?_
  intro p e s m args below meth c H ls locs S hr hlk hl hW
  have hl : lv_has ls 6 [(0, .ref (σ 0)), (1, .int a1), (2, .int a2), (3, .int a3)] := hl
  have inX7 : ∀ w ∈ u_ws RX7 TX7 42, w ∈ wsX7_goAlong := by decide +kernel
  have f78 := S.2.2.2.2 (.fieldLink RX7 78 "MachineHallModel" "before" "[I") (by decide +kernel)
  have w171 := cwV (R := rmX7_goAlong) (rm := rmX7_goes) (mc := 0) (ms := 0) 2 S.2.2.2.2 gX7_goAlong_X7_goes rfl rfl rfl (by decide +kernel) ⟨Nat.le_of_ble_eq_true rfl, Nat.le_of_ble_eq_true rfl⟩
  have l174 := S.2.2.2.2 (.methodLink RX7 174 Lib.Math.min.name) (by decide +kernel)
  have smin := S.2.2.2.2 (.static Lib.Math.min.name) (by decide +kernel)
  have omin := S.2.2.2.2 (.code Lib.Math.min.name Lib.Math.min.code 2 (some .int)) (by decide +kernel)
  have iMath := S.2.2.2.2 (.initialized "java/lang/Math") (by decide +kernel)
  have w179 := cwV (R := rmX7_goAlong) (rm := rmX7_moves) (mc := 0) (ms := 0) 3 S.2.2.2.2 gX7_goAlong_X7_moves rfl rfl rfl (by decide +kernel) ⟨Nat.le_of_ble_eq_true rfl, Nat.le_of_ble_eq_true rfl⟩
  obtain ⟨R6, e6⟩ : ∃ R : Int32 → Int32 → Mem → Prop, ∀ x4 x5 M, R x4 x5 M ↔ WW p l e rmX7_goAlong s m args below meth c D T LM σ 6 (MQ below (postI D T LM σ post) args s 0 0 (fA LM σ)) 6 [(0, .ref (σ 0)), (1, .int a1), (2, .int a2), (4, .int x4), (5, .int x5)] [] M := ⟨_, fun _ _ _ => Iff.rfl⟩
  obtain ⟨R47, e47⟩ : ∃ R : Int32 → Int32 → Mem → Prop, ∀ x4 x5 M, R x4 x5 M ↔ WW p l e rmX7_goAlong s m args below meth c D T LM σ 6 (MQ below (postI D T LM σ post) args s 0 0 (fA LM σ)) 47 [(0, .ref (σ 0)), (1, .int a1), (4, .int x4), (5, .int x5)] [] M := ⟨_, fun _ _ _ => Iff.rfl⟩
  have h := h R6 R47
  have z6 : ∀ x4 x5 M, qX7_goAlong_b6 a1 a2 a3 post R6 R47 x4 x5 M → R6 x4 x5 M := by
    intro x4 x5 M h
    refine (e6 _ _ _).mpr (fun H locs ls hW hl => ?_)
    refine lv_iload S.1 S.2.1 dX7_goAlong_6 (lv_at hl 4 rfl) ?_
    refine lv_iload_n S.1 S.2.1 dX7_goAlong_8 rfl (lv_at hl 1 rfl) ?_
    refine lv_icmp_eq (tgt := 44) S.1 S.2.1 dX7_goAlong_9 (by decide) (fun c1 => ?_) (fun c1 => ?_)
    · have h := h.1 c1
      refine lv_iload_n S.1 S.2.1 dX7_goAlong_44 rfl (lv_at hl 2 rfl) ?_
      refine lv_istore (lv' := [(5, .int a2), (0, .ref (σ 0)), (1, .int a1), (2, .int a2), (4, .int x4)]) S.1 S.2.1 dX7_goAlong_45 hl (by decide) rfl (fun ls hl => ?_)
      exact (e47 _ _ _).mp h H locs ls hW (lv_sub hl [1, 2, 4, 0] rfl)
    · have h := h.2 c1
      refine lv_iload S.1 S.2.1 dX7_goAlong_12 (lv_at hl 3 rfl) ?_
      refine lv_aload_n S.1 S.2.1 dX7_goAlong_14 rfl (lv_at hl 0 rfl) ?_
      refine lv_aload_n S.1 S.2.1 dX7_goAlong_15 rfl (lv_at hl 0 rfl) ?_
      refine r_getR (j := 27) S hW inX7 rfl f78 rfl LM_0 (by decide) rfl dX7_goAlong_16 ?_
      refine lv_iload S.1 S.2.1 dX7_goAlong_19 (lv_at hl 4 rfl) ?_
      have b2 := h.1
      have h := h.2
      refine r_iald S hW LM_23 b2 dX7_goAlong_21 ?_
      refine lv_iload S.1 S.2.1 dX7_goAlong_22 (lv_at hl 4 rfl) ?_
      refine r_goI (r_runV (rest := [.int x4]) S hW (mX7_goes l D T σ M (M.1 23 x5.toNatClampNeg) x5 _ h) w171 rfl LM_0 rfl hl.1 rfl (Nat.le_of_ble_eq_true rfl) dX7_goAlong_24 ⟨Nat.zero_le _, Nat.zero_le _⟩) hW (fun r3 M4 H locs h hW => ?_)
      refine r_min S hl.1 l174 smin iMath omin (Nat.le_of_ble_eq_true rfl) (Nat.le_of_ble_eq_true rfl) (Nat.zero_le _) (Nat.zero_le _) dX7_goAlong_27 ?_
      refine lv_topi (fun v5 ev5 => ?_)
      have h := h v5 ev5
      refine lv_istore (lv' := [(4, .int v5), (0, .ref (σ 0)), (1, .int a1), (2, .int a2), (5, .int x5)]) S.1 S.2.1 dX7_goAlong_30 hl (by decide) rfl (fun ls hl => ?_)
      refine lv_aload_n S.1 S.2.1 dX7_goAlong_32 rfl (lv_at hl 1 rfl) ?_
      refine r_getR (j := 27) S hW inX7 rfl f78 rfl LM_0 (by decide) rfl dX7_goAlong_33 ?_
      refine lv_iload S.1 S.2.1 dX7_goAlong_36 (lv_at hl 4 rfl) ?_
      have b6 := h.1
      have h := h.2
      refine r_iald S hW LM_23 b6 dX7_goAlong_38 ?_
      refine lv_topi (fun v7 ev7 => ?_)
      have h := h v7 ev7
      refine lv_istore (lv' := [(5, .int v7), (4, .int v5), (0, .ref (σ 0)), (1, .int a1), (2, .int a2)]) S.1 S.2.1 dX7_goAlong_39 hl (by decide) rfl (fun ls hl => ?_)
      refine lv_goto (tgt := 6) S.1 S.2.1 dX7_goAlong_41 (by decide) ?_
      exact (e6 _ _ _).mp h H locs ls hW (lv_sub hl [2, 3, 4, 1, 0] rfl)
  have z47 : ∀ x4 x5 M, qX7_goAlong_b47 a1 a2 a3 post R6 R47 x4 x5 M → R47 x4 x5 M := by
    intro x4 x5 M h
    refine (e47 _ _ _).mpr (fun H locs ls hW hl => ?_)
    refine lv_iload S.1 S.2.1 dX7_goAlong_47 (lv_at hl 3 rfl) ?_
    refine lv_iload_n S.1 S.2.1 dX7_goAlong_49 rfl (lv_at hl 1 rfl) ?_
    refine lv_icmp_eq (tgt := 80) S.1 S.2.1 dX7_goAlong_50 (by decide) (fun c8 => ?_) (fun c8 => ?_)
    · have h := h.1 c8
      refine lv_iload S.1 S.2.1 dX7_goAlong_80 (lv_at hl 2 rfl) ?_
      exact r_iret S hr hlk hW h dX7_goAlong_82
    · have h := h.2 c8
      refine lv_aload_n S.1 S.2.1 dX7_goAlong_53 rfl (lv_at hl 0 rfl) ?_
      refine lv_aload_n S.1 S.2.1 dX7_goAlong_54 rfl (lv_at hl 0 rfl) ?_
      refine r_getR (j := 27) S hW inX7 rfl f78 rfl LM_0 (by decide) rfl dX7_goAlong_55 ?_
      refine lv_iload S.1 S.2.1 dX7_goAlong_58 (lv_at hl 3 rfl) ?_
      have b9 := h.1
      have h := h.2
      refine r_iald S hW LM_23 b9 dX7_goAlong_60 ?_
      refine lv_iload S.1 S.2.1 dX7_goAlong_61 (lv_at hl 3 rfl) ?_
      refine lv_iload S.1 S.2.1 dX7_goAlong_63 (lv_at hl 2 rfl) ?_
      refine r_goV (r_runV (rest := []) S hW (mX7_moves l D T σ M (M.1 23 x5.toNatClampNeg) x5 x4 _ h) w179 rfl LM_0 rfl hl.1 rfl (Nat.le_of_ble_eq_true rfl) dX7_goAlong_65 ⟨Nat.zero_le _, Nat.zero_le _⟩) hW (fun M11 H locs h hW => ?_)
      refine lv_aload_n S.1 S.2.1 dX7_goAlong_68 rfl (lv_at hl 0 rfl) ?_
      refine r_getR (j := 27) S hW inX7 rfl f78 rfl LM_0 (by decide) rfl dX7_goAlong_69 ?_
      refine lv_iload S.1 S.2.1 dX7_goAlong_72 (lv_at hl 3 rfl) ?_
      have b12 := h.1
      have h := h.2
      refine r_iald S hW LM_23 b12 dX7_goAlong_74 ?_
      refine lv_topi (fun v13 ev13 => ?_)
      have h := h v13 ev13
      refine lv_istore (lv' := [(5, .int v13), (0, .ref (σ 0)), (1, .int a1), (4, .int x4)]) S.1 S.2.1 dX7_goAlong_75 hl (by decide) rfl (fun ls hl => ?_)
      refine lv_goto (tgt := 47) S.1 S.2.1 dX7_goAlong_77 (by decide) ?_
      exact (e47 _ _ _).mp h H locs ls hW (lv_sub hl [1, 2, 3, 0] rfl)
  have h := h z6 z47
  refine lv_iload_n S.1 S.2.1 dX7_goAlong_0 rfl (lv_at hl 3 rfl) ?_
  refine lv_istore (lv' := [(4, .int a3), (0, .ref (σ 0)), (1, .int a1), (2, .int a2), (3, .int a3)]) S.1 S.2.1 dX7_goAlong_1 hl (by decide) rfl (fun ls hl => ?_)
  refine lv_iload_n S.1 S.2.1 dX7_goAlong_3 rfl (lv_at hl 3 rfl) ?_
  refine lv_istore (lv' := [(5, .int a2), (4, .int a3), (0, .ref (σ 0)), (1, .int a1), (2, .int a2), (3, .int a3)]) S.1 S.2.1 dX7_goAlong_4 hl (by decide) rfl (fun ls hl => ?_)
  exact (e6 _ _ _).mp h H locs ls hW (lv_sub hl [2, 3, 4, 1, 0] rfl)
abbrev rmX7_layIn : Room := { frames := 3, cells := 0, slots := 0, locals := 69 }
set_option maxHeartbeats 4000000 in
set_option maxRecDepth 100000 in
theorem mX7_layIn (l : Launch) (D : va_G) (T : Nat → ClassId) (σ : Nat → Nat) (M : Mem) (a1 : Int32) (post : Int32 → Mem → Prop) (h : qX7_layIn a1 M post) : Met l yX7_layIn wsX7_layIn rmX7_layIn (preW D T LM σ [.ref (σ 0), .int a1] M) (postI D T LM σ post) 0 0 (fA LM σ) := by
  refine m_of (cc := cX7_layIn) (maxL := 4) (ret := (some .int)) (own := RX7) (by decide) rfl rfl (Nat.le_of_ble_eq_true rfl) ?_
  intro p e s m args below meth c H ls locs S hr hlk hl hW
  have hl : lv_has ls 4 [(0, .ref (σ 0)), (1, .int a1)] := hl
  have w158 := cwV (R := rmX7_layIn) (rm := rmX7_look) (mc := 0) (ms := 0) 1 S.2.2.2.2 gX7_layIn_X7_look rfl rfl rfl (by decide +kernel) ⟨Nat.le_of_ble_eq_true rfl, Nat.le_of_ble_eq_true rfl⟩
  have inX7 : ∀ w ∈ u_ws RX7 TX7 42, w ∈ wsX7_layIn := by decide +kernel
  have f66 := S.2.2.2.2 (.fieldLink RX7 66 "MachineHallModel" "has" "[I") (by decide +kernel)
  have w165 := cwV (R := rmX7_layIn) (rm := rmX7_leftOf) (mc := 0) (ms := 0) 2 S.2.2.2.2 gX7_layIn_X7_leftOf rfl rfl rfl (by decide +kernel) ⟨Nat.le_of_ble_eq_true rfl, Nat.le_of_ble_eq_true rfl⟩
  have f69 := S.2.2.2.2 (.fieldLink RX7 69 "MachineHallModel" "used" "[I") (by decide +kernel)
  have f63 := S.2.2.2.2 (.fieldLink RX7 63 "MachineHallModel" "part" "[I") (by decide +kernel)
  have f75 := S.2.2.2.2 (.fieldLink RX7 75 "MachineHallModel" "stays" "[Z") (by decide +kernel)
  have f143 := S.2.2.2.2 (.fieldLink RX7 143 "MachineHallModel" "batches" "I") (by decide +kernel)
  have f72 := S.2.2.2.2 (.fieldLink RX7 72 "MachineHallModel" "done" "[I") (by decide +kernel)
  have f51 := S.2.2.2.2 (.fieldLink RX7 51 "MachineHallModel" "work" "[I") (by decide +kernel)
  have w183 := cwV (R := rmX7_layIn) (rm := rmX7_isWay) (mc := 0) (ms := 0) 2 S.2.2.2.2 gX7_layIn_X7_isWay rfl rfl rfl (by decide +kernel) ⟨Nat.le_of_ble_eq_true rfl, Nat.le_of_ble_eq_true rfl⟩
  have w186 := cwV (R := rmX7_layIn) (rm := rmX7_goAlong) (mc := 0) (ms := 0) 3 S.2.2.2.2 gX7_layIn_X7_goAlong rfl rfl rfl (by decide +kernel) ⟨Nat.le_of_ble_eq_true rfl, Nat.le_of_ble_eq_true rfl⟩
  obtain ⟨R9, e9⟩ : ∃ R : Int32 → Int32 → Mem → Prop, ∀ x2 x3 M, R x2 x3 M ↔ WW p l e rmX7_layIn s m args below meth c D T LM σ 4 (MQ below (postI D T LM σ post) args s 0 0 (fA LM σ)) 9 [(0, .ref (σ 0)), (1, .int a1), (2, .int x2), (3, .int x3)] [] M := ⟨_, fun _ _ _ => Iff.rfl⟩
  obtain ⟨R42, e42⟩ : ∃ R : Int32 → Int32 → Mem → Prop, ∀ x2 x3 M, R x2 x3 M ↔ WW p l e rmX7_layIn s m args below meth c D T LM σ 4 (MQ below (postI D T LM σ post) args s 0 0 (fA LM σ)) 42 [(0, .ref (σ 0)), (2, .int x2), (3, .int x3)] [] M := ⟨_, fun _ _ _ => Iff.rfl⟩
  obtain ⟨R73, e73⟩ : ∃ R : Int32 → Int32 → Mem → Prop, ∀ x2 x3 M, R x2 x3 M ↔ WW p l e rmX7_layIn s m args below meth c D T LM σ 4 (MQ below (postI D T LM σ post) args s 0 0 (fA LM σ)) 73 [(0, .ref (σ 0)), (2, .int x2), (3, .int x3)] [] M := ⟨_, fun _ _ _ => Iff.rfl⟩
  obtain ⟨R103, e103⟩ : ∃ R : Int32 → Mem → Prop, ∀ x2 M, R x2 M ↔ WW p l e rmX7_layIn s m args below meth c D T LM σ 4 (MQ below (postI D T LM σ post) args s 0 0 (fA LM σ)) 103 [(0, .ref (σ 0)), (2, .int x2)] [] M := ⟨_, fun _ _ => Iff.rfl⟩
  have h := h R9 R42 R73 R103
  have z9 : ∀ x2 x3 M, qX7_layIn_b9 a1 post R9 R42 R73 R103 x2 x3 M → R9 x2 x3 M := by
    intro x2 x3 M h
    refine (e9 _ _ _).mpr (fun H locs ls hW hl => ?_)
    refine lv_iload_n S.1 S.2.1 dX7_layIn_9 rfl (lv_at hl 3 rfl) ?_
    refine lv_bipush (v := 24) S.1 S.2.1 dX7_layIn_10 rfl ?_
    refine lv_icmp_ge (tgt := 40) S.1 S.2.1 dX7_layIn_12 (by decide) (fun c3 => ?_) (fun c3 => ?_)
    · have h := h.1 c3
      refine lv_iconst (v := 0) S.1 S.2.1 dX7_layIn_40 rfl ?_
      refine lv_istore_n (lv' := [(3, .int (0 : Int32)), (0, .ref (σ 0)), (1, .int a1), (2, .int x2)]) S.1 S.2.1 dX7_layIn_41 rfl hl (by decide) rfl (fun ls hl => ?_)
      exact (e42 _ _ _).mp h H locs ls hW (lv_sub hl [1, 3, 0] rfl)
    · have h := h.2 c3
      refine lv_aload_n S.1 S.2.1 dX7_layIn_15 rfl (lv_at hl 0 rfl) ?_
      refine r_getR (j := 23) S hW inX7 rfl f66 rfl LM_0 (by decide) rfl dX7_layIn_16 ?_
      refine lv_iload_n S.1 S.2.1 dX7_layIn_19 rfl (lv_at hl 3 rfl) ?_
      refine lv_aload_n S.1 S.2.1 dX7_layIn_20 rfl (lv_at hl 0 rfl) ?_
      refine lv_iload_n S.1 S.2.1 dX7_layIn_21 rfl (lv_at hl 3 rfl) ?_
      refine lv_iload_n S.1 S.2.1 dX7_layIn_22 rfl (lv_at hl 1 rfl) ?_
      refine r_goI (r_runV (rest := [.int x3, .ref (σ 19)]) S hW (mX7_leftOf l D T σ M x3 a1 _ h) w165 rfl LM_0 rfl hl.1 rfl (Nat.le_of_ble_eq_true rfl) dX7_layIn_23 ⟨Nat.zero_le _, Nat.zero_le _⟩) hW (fun r4 M5 H locs h hW => ?_)
      have b6 := h.1
      have h := h.2
      refine r_iast S hW LM_19 b6 dX7_layIn_26 (fun M7 H locs eM7 hW => ?_)
      have h := h M7 eM7
      refine lv_aload_n S.1 S.2.1 dX7_layIn_27 rfl (lv_at hl 0 rfl) ?_
      refine r_getR (j := 24) S hW inX7 rfl f69 rfl LM_0 (by decide) rfl dX7_layIn_28 ?_
      refine lv_iload_n S.1 S.2.1 dX7_layIn_31 rfl (lv_at hl 3 rfl) ?_
      refine lv_iconst (v := 0) S.1 S.2.1 dX7_layIn_32 rfl ?_
      have b8 := h.1
      have h := h.2
      refine r_iast S hW LM_20 b8 dX7_layIn_33 (fun M9 H locs eM9 hW => ?_)
      have h := h M9 eM9
      obtain ⟨v10, ev10⟩ : ∃ y : Int32, y = x3 + 1 := ⟨_, rfl⟩
      have h := h v10 ev10
      refine lv_iinc (v := v10) (lv' := [(3, .int v10), (0, .ref (σ 0)), (1, .int a1), (2, .int x2)]) S.1 S.2.1 dX7_layIn_34 hl (k := 3) rfl (by rw [ev10]; rfl) (by decide) rfl (fun ls hl => ?_)
      refine lv_goto (tgt := 9) S.1 S.2.1 dX7_layIn_37 (by decide) ?_
      exact (e9 _ _ _).mp h H locs ls hW (lv_sub hl [1, 2, 3, 0] rfl)
  have z42 : ∀ x2 x3 M, qX7_layIn_b42 a1 post R9 R42 R73 R103 x2 x3 M → R42 x2 x3 M := by
    intro x2 x3 M h
    refine (e42 _ _ _).mpr (fun H locs ls hW hl => ?_)
    refine lv_iload_n S.1 S.2.1 dX7_layIn_42 rfl (lv_at hl 2 rfl) ?_
    refine lv_aload_n S.1 S.2.1 dX7_layIn_43 rfl (lv_at hl 0 rfl) ?_
    refine r_getR (j := 22) S hW inX7 rfl f63 rfl LM_0 (by decide) rfl dX7_layIn_44 ?_
    refine r_alenI S hW LM_18 dX7_layIn_47 ?_
    refine lv_icmp_ge (tgt := 71) S.1 S.2.1 dX7_layIn_48 (by decide) (fun c11 => ?_) (fun c11 => ?_)
    · have h := h.1 c11
      refine lv_iconst (v := 0) S.1 S.2.1 dX7_layIn_71 rfl ?_
      refine lv_istore_n (lv' := [(3, .int (0 : Int32)), (0, .ref (σ 0)), (2, .int x2)]) S.1 S.2.1 dX7_layIn_72 rfl hl (by decide) rfl (fun ls hl => ?_)
      exact (e73 _ _ _).mp h H locs ls hW (lv_sub hl [1, 2, 0] rfl)
    · have h := h.2 c11
      refine lv_aload_n S.1 S.2.1 dX7_layIn_51 rfl (lv_at hl 0 rfl) ?_
      refine r_getR (j := 22) S hW inX7 rfl f63 rfl LM_0 (by decide) rfl dX7_layIn_52 ?_
      refine lv_iload_n S.1 S.2.1 dX7_layIn_55 rfl (lv_at hl 2 rfl) ?_
      refine lv_iconst (v := 0) S.1 S.2.1 dX7_layIn_56 rfl ?_
      have b12 := h.1
      have h := h.2
      refine r_iast S hW LM_18 b12 dX7_layIn_57 (fun M13 H locs eM13 hW => ?_)
      have h := h M13 eM13
      refine lv_aload_n S.1 S.2.1 dX7_layIn_58 rfl (lv_at hl 0 rfl) ?_
      refine r_getR (j := 26) S hW inX7 rfl f75 rfl LM_0 (by decide) rfl dX7_layIn_59 ?_
      refine lv_iload_n S.1 S.2.1 dX7_layIn_62 rfl (lv_at hl 2 rfl) ?_
      refine lv_iconst (v := 0) S.1 S.2.1 dX7_layIn_63 rfl ?_
      have b14 := h.1
      have h := h.2
      refine r_zast S hW LM_22 b14 dX7_layIn_64 (fun M15 H locs eM15 hW => ?_)
      have h := h M15 eM15
      obtain ⟨v16, ev16⟩ : ∃ y : Int32, y = x3 + 1 := ⟨_, rfl⟩
      have h := h v16 ev16
      refine lv_iinc (v := v16) (lv' := [(3, .int v16), (0, .ref (σ 0)), (2, .int x2)]) S.1 S.2.1 dX7_layIn_65 hl (k := 2) rfl (by rw [ev16]; rfl) (by decide) rfl (fun ls hl => ?_)
      refine lv_goto (tgt := 42) S.1 S.2.1 dX7_layIn_68 (by decide) ?_
      exact (e42 _ _ _).mp h H locs ls hW (lv_sub hl [1, 2, 0] rfl)
  have z73 : ∀ x2 x3 M, qX7_layIn_b73 a1 post R9 R42 R73 R103 x2 x3 M → R73 x2 x3 M := by
    intro x2 x3 M h
    refine (e73 _ _ _).mpr (fun H locs ls hW hl => ?_)
    refine lv_iload_n S.1 S.2.1 dX7_layIn_73 rfl (lv_at hl 2 rfl) ?_
    refine lv_aload_n S.1 S.2.1 dX7_layIn_74 rfl (lv_at hl 0 rfl) ?_
    refine r_getI (j := 6) S hW inX7 rfl f143 rfl LM_0 (by decide) rfl dX7_layIn_75 ?_
    refine lv_icmp_ge (tgt := 103) S.1 S.2.1 dX7_layIn_78 (by decide) (fun c17 => ?_) (fun c17 => ?_)
    · have h := h.1 c17
      exact (e103 _ _).mp h H locs ls hW (lv_sub hl [0, 1] rfl)
    · have h := h.2 c17
      refine lv_aload_n S.1 S.2.1 dX7_layIn_81 rfl (lv_at hl 0 rfl) ?_
      refine r_getR (j := 25) S hW inX7 rfl f72 rfl LM_0 (by decide) rfl dX7_layIn_82 ?_
      refine lv_iload_n S.1 S.2.1 dX7_layIn_85 rfl (lv_at hl 2 rfl) ?_
      refine lv_iconst (v := 0) S.1 S.2.1 dX7_layIn_86 rfl ?_
      have b18 := h.1
      have h := h.2
      refine r_iast S hW LM_21 b18 dX7_layIn_87 (fun M19 H locs eM19 hW => ?_)
      have h := h M19 eM19
      refine lv_iload_n S.1 S.2.1 dX7_layIn_88 rfl (lv_at hl 1 rfl) ?_
      refine lv_aload_n S.1 S.2.1 dX7_layIn_89 rfl (lv_at hl 0 rfl) ?_
      refine r_getR (j := 18) S hW inX7 rfl f51 rfl LM_0 (by decide) rfl dX7_layIn_90 ?_
      refine lv_iload_n S.1 S.2.1 dX7_layIn_93 rfl (lv_at hl 2 rfl) ?_
      have b20 := h.1
      have h := h.2
      refine r_iald S hW LM_14 b20 dX7_layIn_94 ?_
      refine lv_iadd S.1 S.2.1 dX7_layIn_95 ?_
      refine lv_topi (fun v21 ev21 => ?_)
      have h := h v21 ev21
      refine lv_istore_n (lv' := [(2, .int v21), (0, .ref (σ 0)), (3, .int x3)]) S.1 S.2.1 dX7_layIn_96 rfl hl (by decide) rfl (fun ls hl => ?_)
      obtain ⟨v22, ev22⟩ : ∃ y : Int32, y = x3 + 1 := ⟨_, rfl⟩
      have h := h v22 ev22
      refine lv_iinc (v := v22) (lv' := [(3, .int v22), (2, .int v21), (0, .ref (σ 0))]) S.1 S.2.1 dX7_layIn_97 hl (k := 2) rfl (by rw [ev22]; rfl) (by decide) rfl (fun ls hl => ?_)
      refine lv_goto (tgt := 73) S.1 S.2.1 dX7_layIn_100 (by decide) ?_
      exact (e73 _ _ _).mp h H locs ls hW (lv_sub hl [2, 1, 0] rfl)
  have z103 : ∀ x2 M, qX7_layIn_b103 a1 post R9 R42 R73 R103 x2 M → R103 x2 M := by
    intro x2 M h
    refine (e103 _ _).mpr (fun H locs ls hW hl => ?_)
    refine lv_aload_n S.1 S.2.1 dX7_layIn_103 rfl (lv_at hl 0 rfl) ?_
    refine lv_bipush (v := 33) S.1 S.2.1 dX7_layIn_104 rfl ?_
    refine lv_bipush (v := 32) S.1 S.2.1 dX7_layIn_106 rfl ?_
    refine r_goI (r_runV (rest := []) S hW (mX7_isWay l D T σ M (33 : Int32) (32 : Int32) _ h) w183 rfl LM_0 rfl hl.1 rfl (Nat.le_of_ble_eq_true rfl) dX7_layIn_108 ⟨Nat.zero_le _, Nat.zero_le _⟩) hW (fun r23 M24 H locs h hW => ?_)
    refine lv_if_eq (tgt := 131) S.1 S.2.1 dX7_layIn_111 (by decide) (fun c25 => ?_) (fun c25 => ?_)
    · have h := h.1 c25
      refine lv_iload_n S.1 S.2.1 dX7_layIn_131 rfl (lv_at hl 1 rfl) ?_
      exact r_iret S hr hlk hW h dX7_layIn_132
    · have h := h.2 c25
      refine lv_iload_n S.1 S.2.1 dX7_layIn_114 rfl (lv_at hl 1 rfl) ?_
      refine lv_aload_n S.1 S.2.1 dX7_layIn_115 rfl (lv_at hl 0 rfl) ?_
      refine lv_bipush (v := 33) S.1 S.2.1 dX7_layIn_116 rfl ?_
      refine lv_bipush (v := 32) S.1 S.2.1 dX7_layIn_118 rfl ?_
      refine lv_sipush (v := 10000) S.1 S.2.1 dX7_layIn_120 rfl ?_
      refine r_goI (r_runV (rest := [.int x2]) S hW (mX7_goAlong l D T σ M24 (33 : Int32) (32 : Int32) (10000 : Int32) _ h) w186 rfl LM_0 rfl hl.1 rfl (Nat.le_of_ble_eq_true rfl) dX7_layIn_123 ⟨Nat.zero_le _, Nat.zero_le _⟩) hW (fun r26 M27 H locs h hW => ?_)
      refine lv_isub S.1 S.2.1 dX7_layIn_126 ?_
      refine lv_topi (fun v28 ev28 => ?_)
      have h := h v28 ev28
      refine lv_istore_n (lv' := [(2, .int v28), (0, .ref (σ 0))]) S.1 S.2.1 dX7_layIn_127 rfl hl (by decide) rfl (fun ls hl => ?_)
      refine lv_goto (tgt := 103) S.1 S.2.1 dX7_layIn_128 (by decide) ?_
      exact (e103 _ _).mp h H locs ls hW (lv_sub hl [1, 0] rfl)
  have h := h z9 z42 z73 z103
  refine lv_aload_n S.1 S.2.1 dX7_layIn_0 rfl (lv_at hl 0 rfl) ?_
  refine lv_iload_n S.1 S.2.1 dX7_layIn_1 rfl (lv_at hl 1 rfl) ?_
  refine r_goV (r_runV (rest := []) S hW (mX7_look l D T σ M a1 _ h) w158 rfl LM_0 rfl hl.1 rfl (Nat.le_of_ble_eq_true rfl) dX7_layIn_2 ⟨Nat.zero_le _, Nat.zero_le _⟩) hW (fun M2 H locs h hW => ?_)
  refine lv_iconst (v := 0) S.1 S.2.1 dX7_layIn_5 rfl ?_
  refine lv_istore_n (lv' := [(2, .int (0 : Int32)), (0, .ref (σ 0)), (1, .int a1)]) S.1 S.2.1 dX7_layIn_6 rfl hl (by decide) rfl (fun ls hl => ?_)
  refine lv_iconst (v := 0) S.1 S.2.1 dX7_layIn_7 rfl ?_
  refine lv_istore_n (lv' := [(3, .int (0 : Int32)), (2, .int (0 : Int32)), (0, .ref (σ 0)), (1, .int a1)]) S.1 S.2.1 dX7_layIn_8 rfl hl (by decide) rfl (fun ls hl => ?_)
  exact (e9 _ _ _).mp h H locs ls hW (lv_sub hl [2, 3, 1, 0] rfl)
abbrev rmX7_rest : Room := { frames := 4, cells := 0, slots := 0, locals := 92 }
set_option maxHeartbeats 4000000 in
set_option maxRecDepth 100000 in
theorem mX7_rest (l : Launch) (D : va_G) (T : Nat → ClassId) (σ : Nat → Nat) (M : Mem) (a1 : Int32) (post : Int32 → Mem → Prop) (h : qX7_rest a1 M post) : Met l yX7_rest wsX7_rest rmX7_rest (preW D T LM σ [.ref (σ 0), .int a1] M) (postI D T LM σ post) 0 0 (fA LM σ) := by
  refine m_of (cc := cX7_rest) (maxL := 2) (ret := (some .int)) (own := RX7) (by decide) rfl rfl (Nat.le_of_ble_eq_true rfl) ?_
  intro p e s m args below meth c H ls locs S hr hlk hl hW
  have hl : lv_has ls 2 [(0, .ref (σ 0)), (1, .int a1)] := hl
  have w155 := va_cwS (R := rmX7_rest) (rm := rmX7_isFall) (mc := 0) (ms := 0) 1 S.2.2.2.2 gX7_rest_X7_isFall rfl rfl rfl (by decide +kernel) ⟨Nat.le_of_ble_eq_true rfl, Nat.le_of_ble_eq_true rfl⟩
  have inX7 : ∀ w ∈ u_ws RX7 TX7 42, w ∈ wsX7_rest := by decide +kernel
  have f105 := S.2.2.2.2 (.fieldLink RX7 105 "MachineHallModel" "status" "I") (by decide +kernel)
  have w190 := cwV (R := rmX7_rest) (rm := rmX7_layIn) (mc := 0) (ms := 0) 1 S.2.2.2.2 gX7_rest_X7_layIn rfl rfl rfl (by decide +kernel) ⟨Nat.le_of_ble_eq_true rfl, Nat.le_of_ble_eq_true rfl⟩
  have w126 := cwV (R := rmX7_rest) (rm := rmX7_refuse) (mc := 0) (ms := 0) 1 S.2.2.2.2 gX7_rest_X7_refuse rfl rfl rfl (by decide +kernel) ⟨Nat.le_of_ble_eq_true rfl, Nat.le_of_ble_eq_true rfl⟩
  refine lv_iload_n S.1 S.2.1 dX7_rest_0 rfl (lv_at hl 1 rfl) ?_
  refine r_goI (r_runS (rest := []) S hW (mX7_isFall l D T σ M a1 _ h) w155 rfl hl.1 rfl (Nat.le_of_ble_eq_true rfl) dX7_rest_1 ⟨Nat.zero_le _, Nat.zero_le _⟩) hW (fun r1 M2 H locs h hW => ?_)
  refine lv_if_ne (tgt := 13) S.1 S.2.1 dX7_rest_4 (by decide) (fun c3 => ?_) (fun c3 => ?_)
  · have h := h.1 c3
    refine lv_aload_n S.1 S.2.1 dX7_rest_13 rfl (lv_at hl 0 rfl) ?_
    refine lv_iconst (v := 0) S.1 S.2.1 dX7_rest_14 rfl ?_
    refine r_putI (j := 0) S hW inX7 rfl f105 rfl LM_0 (by decide) rfl tyX7 tyX7_ok nmX7 rfl rfl rfl dX7_rest_15 (fun M4 H locs eM4 hW => ?_)
    have h := h M4 eM4
    refine lv_aload_n S.1 S.2.1 dX7_rest_18 rfl (lv_at hl 0 rfl) ?_
    refine lv_iload_n S.1 S.2.1 dX7_rest_19 rfl (lv_at hl 1 rfl) ?_
    refine r_goI (r_runV (rest := []) S hW (mX7_layIn l D T σ M4 a1 _ h) w190 rfl LM_0 rfl hl.1 rfl (Nat.le_of_ble_eq_true rfl) dX7_rest_20 ⟨Nat.zero_le _, Nat.zero_le _⟩) hW (fun r5 M6 H locs h hW => ?_)
    exact r_iret S hr hlk hW h dX7_rest_23
  · have h := h.2 c3
    refine lv_aload_n S.1 S.2.1 dX7_rest_7 rfl (lv_at hl 0 rfl) ?_
    refine lv_iconst (v := 1) S.1 S.2.1 dX7_rest_8 rfl ?_
    refine r_goI (r_runV (rest := []) S hW (mX7_refuse l D T σ M2 (1 : Int32) _ h) w126 rfl LM_0 rfl hl.1 rfl (Nat.le_of_ble_eq_true rfl) dX7_rest_9 ⟨Nat.zero_le _, Nat.zero_le _⟩) hW (fun r7 M8 H locs h hW => ?_)
    exact r_iret S hr hlk hW h dX7_rest_12
abbrev rmX7_part : Room := { frames := 4, cells := 0, slots := 0, locals := 92 }
set_option maxHeartbeats 4000000 in
set_option maxRecDepth 100000 in
theorem mX7_part (l : Launch) (D : va_G) (T : Nat → ClassId) (σ : Nat → Nat) (M : Mem) (a1 : Int32) (a2 : Int32) (a3 : Int32) (post : Int32 → Mem → Prop) (h : qX7_part a1 a2 a3 M post) : Met l yX7_part wsX7_part rmX7_part (preW D T LM σ [.ref (σ 0), .int a1, .int a2, .int a3] M) (postI D T LM σ post) 0 0 (fA LM σ) := by
  refine m_of (cc := cX7_part) (maxL := 8) (ret := (some .int)) (own := RX7) (by decide) rfl rfl (Nat.le_of_ble_eq_true rfl) ?_
  intro p e s m args below meth c H ls locs S hr hlk hl hW
  have hl : lv_has ls 8 [(0, .ref (σ 0)), (1, .int a1), (2, .int a2), (3, .int a3)] := hl
  have w155 := va_cwS (R := rmX7_part) (rm := rmX7_isFall) (mc := 0) (ms := 0) 1 S.2.2.2.2 gX7_part_X7_isFall rfl rfl rfl (by decide +kernel) ⟨Nat.le_of_ble_eq_true rfl, Nat.le_of_ble_eq_true rfl⟩
  have w126 := cwV (R := rmX7_part) (rm := rmX7_refuse) (mc := 0) (ms := 0) 1 S.2.2.2.2 gX7_part_X7_refuse rfl rfl rfl (by decide +kernel) ⟨Nat.le_of_ble_eq_true rfl, Nat.le_of_ble_eq_true rfl⟩
  have inX7 : ∀ w ∈ u_ws RX7 TX7 42, w ∈ wsX7_part := by decide +kernel
  have f143 := S.2.2.2.2 (.fieldLink RX7 143 "MachineHallModel" "batches" "I") (by decide +kernel)
  have w152 := va_cwS (R := rmX7_part) (rm := rmX7_isHour) (mc := 0) (ms := 0) 1 S.2.2.2.2 gX7_part_X7_isHour rfl rfl rfl (by decide +kernel) ⟨Nat.le_of_ble_eq_true rfl, Nat.le_of_ble_eq_true rfl⟩
  have w190 := cwV (R := rmX7_part) (rm := rmX7_layIn) (mc := 0) (ms := 0) 1 S.2.2.2.2 gX7_part_X7_layIn rfl rfl rfl (by decide +kernel) ⟨Nat.le_of_ble_eq_true rfl, Nat.le_of_ble_eq_true rfl⟩
  have f105 := S.2.2.2.2 (.fieldLink RX7 105 "MachineHallModel" "status" "I") (by decide +kernel)
  have f63 := S.2.2.2.2 (.fieldLink RX7 63 "MachineHallModel" "part" "[I") (by decide +kernel)
  have f54 := S.2.2.2.2 (.fieldLink RX7 54 "MachineHallModel" "from" "[I") (by decide +kernel)
  have f57 := S.2.2.2.2 (.fieldLink RX7 57 "MachineHallModel" "due" "[I") (by decide +kernel)
  have f75 := S.2.2.2.2 (.fieldLink RX7 75 "MachineHallModel" "stays" "[Z") (by decide +kernel)
  have f60 := S.2.2.2.2 (.fieldLink RX7 60 "MachineHallModel" "most" "[I") (by decide +kernel)
  have w183 := cwV (R := rmX7_part) (rm := rmX7_isWay) (mc := 0) (ms := 0) 2 S.2.2.2.2 gX7_part_X7_isWay rfl rfl rfl (by decide +kernel) ⟨Nat.le_of_ble_eq_true rfl, Nat.le_of_ble_eq_true rfl⟩
  have w186 := cwV (R := rmX7_part) (rm := rmX7_goAlong) (mc := 0) (ms := 0) 3 S.2.2.2.2 gX7_part_X7_goAlong rfl rfl rfl (by decide +kernel) ⟨Nat.le_of_ble_eq_true rfl, Nat.le_of_ble_eq_true rfl⟩
  obtain ⟨R55, e55⟩ : ∃ R : Int32 → Mem → Prop, ∀ x4 M, R x4 M ↔ WW p l e rmX7_part s m args below meth c D T LM σ 8 (MQ below (postI D T LM σ post) args s 0 0 (fA LM σ)) 55 [(0, .ref (σ 0)), (2, .int a2), (3, .int a3), (4, .int x4)] [] M := ⟨_, fun _ _ => Iff.rfl⟩
  obtain ⟨R70, e70⟩ : ∃ R : Int32 → Int32 → Mem → Prop, ∀ x4 x5 M, R x4 x5 M ↔ WW p l e rmX7_part s m args below meth c D T LM σ 8 (MQ below (postI D T LM σ post) args s 0 0 (fA LM σ)) 70 [(0, .ref (σ 0)), (2, .int a2), (3, .int a3), (4, .int x4), (5, .int x5)] [] M := ⟨_, fun _ _ _ => Iff.rfl⟩
  obtain ⟨R100, e100⟩ : ∃ R : Int32 → Int32 → Int32 → Mem → Prop, ∀ x4 x5 x6 M, R x4 x5 x6 M ↔ WW p l e rmX7_part s m args below meth c D T LM σ 8 (MQ below (postI D T LM σ post) args s 0 0 (fA LM σ)) 100 [(0, .ref (σ 0)), (2, .int a2), (3, .int a3), (4, .int x4), (5, .int x5), (6, .int x6)] [] M := ⟨_, fun _ _ _ _ => Iff.rfl⟩
  have h := h R55 R70 R100
  have z55 : ∀ x4 M, qX7_part_b55 a1 a2 a3 post R55 R70 R100 x4 M → R55 x4 M := by
    intro x4 M h
    refine (e55 _ _).mpr (fun H locs ls hW hl => ?_)
    refine lv_iload S.1 S.2.1 dX7_part_55 (lv_at hl 3 rfl) ?_
    refine lv_iload_n S.1 S.2.1 dX7_part_57 rfl (lv_at hl 1 rfl) ?_
    refine lv_icmp_gt (tgt := 186) S.1 S.2.1 dX7_part_58 (by decide) (fun c23 => ?_) (fun c23 => ?_)
    · have h := h.1 c23
      refine lv_aload_n S.1 S.2.1 dX7_part_186 rfl (lv_at hl 0 rfl) ?_
      refine r_getR (j := 22) S hW inX7 rfl f63 rfl LM_0 (by decide) rfl dX7_part_187 ?_
      refine lv_bipush (v := 24) S.1 S.2.1 dX7_part_190 rfl ?_
      refine lv_iload_n S.1 S.2.1 dX7_part_192 rfl (lv_at hl 1 rfl) ?_
      refine lv_imul S.1 S.2.1 dX7_part_193 ?_
      refine lv_iload_n S.1 S.2.1 dX7_part_194 rfl (lv_at hl 2 rfl) ?_
      refine lv_iadd S.1 S.2.1 dX7_part_195 ?_
      have b24 := h.1
      have h := h.2
      refine r_iald S hW LM_18 b24 dX7_part_196 ?_
      exact r_iret S hr hlk hW h dX7_part_197
    · have h := h.2 c23
      refine lv_aload_n S.1 S.2.1 dX7_part_61 rfl (lv_at hl 0 rfl) ?_
      refine r_getR (j := 19) S hW inX7 rfl f54 rfl LM_0 (by decide) rfl dX7_part_62 ?_
      refine lv_iload S.1 S.2.1 dX7_part_65 (lv_at hl 3 rfl) ?_
      have b25 := h.1
      have h := h.2
      refine r_iald S hW LM_15 b25 dX7_part_67 ?_
      refine lv_topi (fun v26 ev26 => ?_)
      have h := h v26 ev26
      refine lv_istore (lv' := [(5, .int v26), (0, .ref (σ 0)), (2, .int a2), (3, .int a3), (4, .int x4)]) S.1 S.2.1 dX7_part_68 hl (by decide) rfl (fun ls hl => ?_)
      exact (e70 _ _ _).mp h H locs ls hW (lv_sub hl [1, 2, 3, 4, 0] rfl)
  have z70 : ∀ x4 x5 M, qX7_part_b70 a1 a2 a3 post R55 R70 R100 x4 x5 M → R70 x4 x5 M := by
    intro x4 x5 M h
    refine (e70 _ _ _).mpr (fun H locs ls hW hl => ?_)
    refine lv_iload S.1 S.2.1 dX7_part_70 (lv_at hl 4 rfl) ?_
    refine lv_aload_n S.1 S.2.1 dX7_part_72 rfl (lv_at hl 0 rfl) ?_
    refine r_getR (j := 20) S hW inX7 rfl f57 rfl LM_0 (by decide) rfl dX7_part_73 ?_
    refine lv_iload S.1 S.2.1 dX7_part_76 (lv_at hl 3 rfl) ?_
    have b27 := h.1
    have h := h.2
    refine r_iald S hW LM_16 b27 dX7_part_78 ?_
    refine lv_icmp_ge (tgt := 180) S.1 S.2.1 dX7_part_79 (by decide) (fun c28 => ?_) (fun c28 => ?_)
    · have h := h.1 c28
      obtain ⟨v29, ev29⟩ : ∃ y : Int32, y = x4 + 1 := ⟨_, rfl⟩
      have h := h v29 ev29
      refine lv_iinc (v := v29) (lv' := [(4, .int v29), (0, .ref (σ 0)), (2, .int a2), (3, .int a3), (5, .int x5)]) S.1 S.2.1 dX7_part_180 hl (k := 3) rfl (by rw [ev29]; rfl) (by decide) rfl (fun ls hl => ?_)
      refine lv_goto (tgt := 55) S.1 S.2.1 dX7_part_183 (by decide) ?_
      exact (e55 _ _).mp h H locs ls hW (lv_sub hl [1, 2, 3, 0] rfl)
    · have h := h.2 c28
      refine lv_bipush (v := 24) S.1 S.2.1 dX7_part_82 rfl ?_
      refine lv_iload S.1 S.2.1 dX7_part_84 (lv_at hl 3 rfl) ?_
      refine lv_imul S.1 S.2.1 dX7_part_86 ?_
      refine lv_iload S.1 S.2.1 dX7_part_87 (lv_at hl 4 rfl) ?_
      refine lv_iadd S.1 S.2.1 dX7_part_89 ?_
      refine lv_topi (fun v30 ev30 => ?_)
      have h := h v30 ev30
      refine lv_istore (lv' := [(6, .int v30), (0, .ref (σ 0)), (2, .int a2), (3, .int a3), (4, .int x4), (5, .int x5)]) S.1 S.2.1 dX7_part_90 hl (by decide) rfl (fun ls hl => ?_)
      refine lv_aload_n S.1 S.2.1 dX7_part_92 rfl (lv_at hl 1 rfl) ?_
      refine r_getR (j := 26) S hW inX7 rfl f75 rfl LM_0 (by decide) rfl dX7_part_93 ?_
      refine lv_iload S.1 S.2.1 dX7_part_96 (lv_at hl 0 rfl) ?_
      refine lv_iconst (v := 1) S.1 S.2.1 dX7_part_98 rfl ?_
      have b31 := h.1
      have h := h.2
      refine r_zast S hW LM_22 b31 dX7_part_99 (fun M32 H locs eM32 hW => ?_)
      have h := h M32 eM32
      exact (e100 _ _ _ _).mp h H locs ls hW (lv_sub hl [1, 2, 3, 4, 5, 0] rfl)
  have z100 : ∀ x4 x5 x6 M, qX7_part_b100 a1 a2 a3 post R55 R70 R100 x4 x5 x6 M → R100 x4 x5 x6 M := by
    intro x4 x5 x6 M h
    refine (e100 _ _ _ _).mpr (fun H locs ls hW hl => ?_)
    refine lv_aload_n S.1 S.2.1 dX7_part_100 rfl (lv_at hl 0 rfl) ?_
    refine r_getR (j := 22) S hW inX7 rfl f63 rfl LM_0 (by decide) rfl dX7_part_101 ?_
    refine lv_iload S.1 S.2.1 dX7_part_104 (lv_at hl 5 rfl) ?_
    have b33 := h.1
    have h := h.2
    refine r_iald S hW LM_18 b33 dX7_part_106 ?_
    refine lv_aload_n S.1 S.2.1 dX7_part_107 rfl (lv_at hl 0 rfl) ?_
    refine r_getR (j := 21) S hW inX7 rfl f60 rfl LM_0 (by decide) rfl dX7_part_108 ?_
    refine lv_iload S.1 S.2.1 dX7_part_111 (lv_at hl 3 rfl) ?_
    have b34 := h.1
    have h := h.2
    refine r_iald S hW LM_17 b34 dX7_part_113 ?_
    refine lv_icmp_ge (tgt := 174) S.1 S.2.1 dX7_part_114 (by decide) (fun c35 => ?_) (fun c35 => ?_)
    · have h := h.1 c35
      obtain ⟨v36, ev36⟩ : ∃ y : Int32, y = x5 + 1 := ⟨_, rfl⟩
      have h := h v36 ev36
      refine lv_iinc (v := v36) (lv' := [(5, .int v36), (0, .ref (σ 0)), (2, .int a2), (3, .int a3), (4, .int x4), (6, .int x6)]) S.1 S.2.1 dX7_part_174 hl (k := 4) rfl (by rw [ev36]; rfl) (by decide) rfl (fun ls hl => ?_)
      refine lv_goto (tgt := 70) S.1 S.2.1 dX7_part_177 (by decide) ?_
      exact (e70 _ _ _).mp h H locs ls hW (lv_sub hl [1, 2, 3, 4, 0] rfl)
    · have h := h.2 c35
      refine lv_aload_n S.1 S.2.1 dX7_part_117 rfl (lv_at hl 0 rfl) ?_
      refine lv_bipush (v := 8) S.1 S.2.1 dX7_part_118 rfl ?_
      refine lv_iload S.1 S.2.1 dX7_part_120 (lv_at hl 4 rfl) ?_
      refine lv_iadd S.1 S.2.1 dX7_part_122 ?_
      refine lv_iload S.1 S.2.1 dX7_part_123 (lv_at hl 3 rfl) ?_
      refine r_goI (r_runV (rest := []) S hW (mX7_isWay l D T σ M ((8 : Int32) + x5) x4 _ h) w183 rfl LM_0 rfl hl.1 rfl (Nat.le_of_ble_eq_true rfl) dX7_part_125 ⟨Nat.zero_le _, Nat.zero_le _⟩) hW (fun r37 M38 H locs h hW => ?_)
      refine lv_if_eq (tgt := 174) S.1 S.2.1 dX7_part_128 (by decide) (fun c39 => ?_) (fun c39 => ?_)
      · have h := h.1 c39
        obtain ⟨v40, ev40⟩ : ∃ y : Int32, y = x5 + 1 := ⟨_, rfl⟩
        have h := h v40 ev40
        refine lv_iinc (v := v40) (lv' := [(5, .int v40), (0, .ref (σ 0)), (2, .int a2), (3, .int a3), (4, .int x4), (6, .int x6)]) S.1 S.2.1 dX7_part_174 hl (k := 4) rfl (by rw [ev40]; rfl) (by decide) rfl (fun ls hl => ?_)
        refine lv_goto (tgt := 70) S.1 S.2.1 dX7_part_177 (by decide) ?_
        exact (e70 _ _ _).mp h H locs ls hW (lv_sub hl [1, 2, 3, 4, 0] rfl)
      · have h := h.2 c39
        refine lv_aload_n S.1 S.2.1 dX7_part_131 rfl (lv_at hl 0 rfl) ?_
        refine lv_bipush (v := 8) S.1 S.2.1 dX7_part_132 rfl ?_
        refine lv_iload S.1 S.2.1 dX7_part_134 (lv_at hl 4 rfl) ?_
        refine lv_iadd S.1 S.2.1 dX7_part_136 ?_
        refine lv_iload S.1 S.2.1 dX7_part_137 (lv_at hl 3 rfl) ?_
        refine lv_aload_n S.1 S.2.1 dX7_part_139 rfl (lv_at hl 0 rfl) ?_
        refine r_getR (j := 21) S hW inX7 rfl f60 rfl LM_0 (by decide) rfl dX7_part_140 ?_
        refine lv_iload S.1 S.2.1 dX7_part_143 (lv_at hl 3 rfl) ?_
        have b41 := h.1
        have h := h.2
        refine r_iald S hW LM_17 b41 dX7_part_145 ?_
        refine lv_aload_n S.1 S.2.1 dX7_part_146 rfl (lv_at hl 0 rfl) ?_
        refine r_getR (j := 22) S hW inX7 rfl f63 rfl LM_0 (by decide) rfl dX7_part_147 ?_
        refine lv_iload S.1 S.2.1 dX7_part_150 (lv_at hl 5 rfl) ?_
        have b42 := h.1
        have h := h.2
        refine r_iald S hW LM_18 b42 dX7_part_152 ?_
        refine lv_isub S.1 S.2.1 dX7_part_153 ?_
        refine r_goI (r_runV (rest := []) S hW (mX7_goAlong l D T σ M38 ((8 : Int32) + x5) x4 ((M38.1 17 x4.toNatClampNeg) - (M38.1 18 x6.toNatClampNeg)) _ h) w186 rfl LM_0 rfl hl.1 rfl (Nat.le_of_ble_eq_true rfl) dX7_part_154 ⟨Nat.zero_le _, Nat.zero_le _⟩) hW (fun r43 M44 H locs h hW => ?_)
        refine lv_istore (lv' := [(7, .int r43), (0, .ref (σ 0)), (2, .int a2), (3, .int a3), (4, .int x4), (5, .int x5), (6, .int x6)]) S.1 S.2.1 dX7_part_157 hl (by decide) rfl (fun ls hl => ?_)
        refine lv_aload_n S.1 S.2.1 dX7_part_159 rfl (lv_at hl 1 rfl) ?_
        refine r_getR (j := 22) S hW inX7 rfl f63 rfl LM_0 (by decide) rfl dX7_part_160 ?_
        refine lv_iload S.1 S.2.1 dX7_part_163 (lv_at hl 6 rfl) ?_
        refine lv_dup2_11 S.1 S.2.1 dX7_part_165 rfl rfl ?_
        have b45 := h.1
        have h := h.2
        refine r_iald S hW LM_18 b45 dX7_part_166 ?_
        refine lv_iload S.1 S.2.1 dX7_part_167 (lv_at hl 0 rfl) ?_
        refine lv_iadd S.1 S.2.1 dX7_part_169 ?_
        have b46 := h.1
        have h := h.2
        refine r_iast S hW LM_18 b46 dX7_part_170 (fun M47 H locs eM47 hW => ?_)
        have h := h M47 eM47
        refine lv_goto (tgt := 100) S.1 S.2.1 dX7_part_171 (by decide) ?_
        exact (e100 _ _ _ _).mp h H locs ls hW (lv_sub hl [1, 2, 3, 4, 5, 6] rfl)
  have h := h z55 z70 z100
  refine lv_iload_n S.1 S.2.1 dX7_part_0 rfl (lv_at hl 1 rfl) ?_
  refine r_goI (r_runS (rest := []) S hW (mX7_isFall l D T σ M a1 _ h) w155 rfl hl.1 rfl (Nat.le_of_ble_eq_true rfl) dX7_part_1 ⟨Nat.zero_le _, Nat.zero_le _⟩) hW (fun r1 M2 H locs h hW => ?_)
  refine lv_if_eq (tgt := 26) S.1 S.2.1 dX7_part_4 (by decide) (fun c3 => ?_) (fun c3 => ?_)
  · have h := h.1 c3
    refine lv_aload_n S.1 S.2.1 dX7_part_26 rfl (lv_at hl 0 rfl) ?_
    refine lv_iconst (v := 1) S.1 S.2.1 dX7_part_27 rfl ?_
    refine r_goI (r_runV (rest := []) S hW (mX7_refuse l D T σ M2 (1 : Int32) _ h) w126 rfl LM_0 rfl hl.1 rfl (Nat.le_of_ble_eq_true rfl) dX7_part_28 ⟨Nat.zero_le _, Nat.zero_le _⟩) hW (fun r4 M5 H locs h hW => ?_)
    exact r_iret S hr hlk hW h dX7_part_31
  · have h := h.2 c3
    refine lv_iload_n S.1 S.2.1 dX7_part_7 rfl (lv_at hl 2 rfl) ?_
    refine lv_if_lt (tgt := 26) S.1 S.2.1 dX7_part_8 (by decide) (fun c6 => ?_) (fun c6 => ?_)
    · have h := h.1 c6
      refine lv_aload_n S.1 S.2.1 dX7_part_26 rfl (lv_at hl 0 rfl) ?_
      refine lv_iconst (v := 1) S.1 S.2.1 dX7_part_27 rfl ?_
      refine r_goI (r_runV (rest := []) S hW (mX7_refuse l D T σ M2 (1 : Int32) _ h) w126 rfl LM_0 rfl hl.1 rfl (Nat.le_of_ble_eq_true rfl) dX7_part_28 ⟨Nat.zero_le _, Nat.zero_le _⟩) hW (fun r7 M8 H locs h hW => ?_)
      exact r_iret S hr hlk hW h dX7_part_31
    · have h := h.2 c6
      refine lv_iload_n S.1 S.2.1 dX7_part_11 rfl (lv_at hl 2 rfl) ?_
      refine lv_aload_n S.1 S.2.1 dX7_part_12 rfl (lv_at hl 0 rfl) ?_
      refine r_getI (j := 6) S hW inX7 rfl f143 rfl LM_0 (by decide) rfl dX7_part_13 ?_
      refine lv_icmp_ge (tgt := 26) S.1 S.2.1 dX7_part_16 (by decide) (fun c9 => ?_) (fun c9 => ?_)
      · have h := h.1 c9
        refine lv_aload_n S.1 S.2.1 dX7_part_26 rfl (lv_at hl 0 rfl) ?_
        refine lv_iconst (v := 1) S.1 S.2.1 dX7_part_27 rfl ?_
        refine r_goI (r_runV (rest := []) S hW (mX7_refuse l D T σ M2 (1 : Int32) _ h) w126 rfl LM_0 rfl hl.1 rfl (Nat.le_of_ble_eq_true rfl) dX7_part_28 ⟨Nat.zero_le _, Nat.zero_le _⟩) hW (fun r10 M11 H locs h hW => ?_)
        exact r_iret S hr hlk hW h dX7_part_31
      · have h := h.2 c9
        refine lv_iload_n S.1 S.2.1 dX7_part_19 rfl (lv_at hl 3 rfl) ?_
        refine r_goI (r_runS (rest := []) S hW (mX7_isHour l D T σ M2 a3 _ h) w152 rfl hl.1 rfl (Nat.le_of_ble_eq_true rfl) dX7_part_20 ⟨Nat.zero_le _, Nat.zero_le _⟩) hW (fun r12 M13 H locs h hW => ?_)
        refine lv_if_ne (tgt := 32) S.1 S.2.1 dX7_part_23 (by decide) (fun c14 => ?_) (fun c14 => ?_)
        · have h := h.1 c14
          refine lv_aload_n S.1 S.2.1 dX7_part_32 rfl (lv_at hl 0 rfl) ?_
          refine lv_iload_n S.1 S.2.1 dX7_part_33 rfl (lv_at hl 1 rfl) ?_
          refine r_goI (r_runV (rest := []) S hW (mX7_layIn l D T σ M13 a1 _ h) w190 rfl LM_0 rfl hl.1 rfl (Nat.le_of_ble_eq_true rfl) dX7_part_34 ⟨Nat.zero_le _, Nat.zero_le _⟩) hW (fun r15 M16 H locs h hW => ?_)
          refine lv_if_le (tgt := 47) S.1 S.2.1 dX7_part_37 (by decide) (fun c17 => ?_) (fun c17 => ?_)
          · have h := h.1 c17
            refine lv_aload_n S.1 S.2.1 dX7_part_47 rfl (lv_at hl 0 rfl) ?_
            refine lv_iconst (v := 0) S.1 S.2.1 dX7_part_48 rfl ?_
            refine r_putI (j := 0) S hW inX7 rfl f105 rfl LM_0 (by decide) rfl tyX7 tyX7_ok nmX7 rfl rfl rfl dX7_part_49 (fun M18 H locs eM18 hW => ?_)
            have h := h M18 eM18
            refine lv_iconst (v := 0) S.1 S.2.1 dX7_part_52 rfl ?_
            refine lv_istore (lv' := [(4, .int (0 : Int32)), (0, .ref (σ 0)), (1, .int a1), (2, .int a2), (3, .int a3)]) S.1 S.2.1 dX7_part_53 hl (by decide) rfl (fun ls hl => ?_)
            exact (e55 _ _).mp h H locs ls hW (lv_sub hl [1, 3, 4, 0] rfl)
          · have h := h.2 c17
            refine lv_aload_n S.1 S.2.1 dX7_part_40 rfl (lv_at hl 0 rfl) ?_
            refine lv_bipush (v := 7) S.1 S.2.1 dX7_part_41 rfl ?_
            refine r_goI (r_runV (rest := []) S hW (mX7_refuse l D T σ M16 (7 : Int32) _ h) w126 rfl LM_0 rfl hl.1 rfl (Nat.le_of_ble_eq_true rfl) dX7_part_43 ⟨Nat.zero_le _, Nat.zero_le _⟩) hW (fun r19 M20 H locs h hW => ?_)
            exact r_iret S hr hlk hW h dX7_part_46
        · have h := h.2 c14
          refine lv_aload_n S.1 S.2.1 dX7_part_26 rfl (lv_at hl 0 rfl) ?_
          refine lv_iconst (v := 1) S.1 S.2.1 dX7_part_27 rfl ?_
          refine r_goI (r_runV (rest := []) S hW (mX7_refuse l D T σ M13 (1 : Int32) _ h) w126 rfl LM_0 rfl hl.1 rfl (Nat.le_of_ble_eq_true rfl) dX7_part_28 ⟨Nat.zero_le _, Nat.zero_le _⟩) hW (fun r21 M22 H locs h hW => ?_)
          exact r_iret S hr hlk hW h dX7_part_31
abbrev rmX7_step : Room := { frames := 1, cells := 0, slots := 0, locals := 23 }
set_option maxHeartbeats 4000000 in
set_option maxRecDepth 100000 in
theorem mX7_step (l : Launch) (D : va_G) (T : Nat → ClassId) (σ : Nat → Nat) (M : Mem) (a1 : Int32) (a2 : Int32) (a3 : Int32) (a4 : Int32) (post : Mem → Prop) (h : qX7_step a1 a2 a3 a4 M post) : Met l yX7_step wsX7_step rmX7_step (preW D T LM σ [.ref (σ 0), .int a1, .int a2, .int a3, .int a4] M) (postV D T LM σ post) 0 0 (fA LM σ) := by
  refine m_of (cc := cX7_step) (maxL := 9) (ret := none) (own := RX7) (by decide) rfl rfl (Nat.le_of_ble_eq_true rfl) ?_
  intro p e s m args below meth c H ls locs S hr hlk hl hW
  have hl : lv_has ls 9 [(0, .ref (σ 0)), (1, .int a1), (2, .int a2), (3, .int a3), (4, .int a4)] := hl
  have inX7 : ∀ w ∈ u_ws RX7 TX7 42, w ∈ wsX7_step := by decide +kernel
  have f193 := S.2.2.2.2 (.fieldLink RX7 193 "MachineHallModel" "greatest" "I") (by decide +kernel)
  have f196 := S.2.2.2.2 (.fieldLink RX7 196 "MachineHallModel" "together" "I") (by decide +kernel)
  have f199 := S.2.2.2.2 (.fieldLink RX7 199 "MachineHallModel" "comes" "I") (by decide +kernel)
  have f202 := S.2.2.2.2 (.fieldLink RX7 202 "MachineHallModel" "waiting" "I") (by decide +kernel)
  have f205 := S.2.2.2.2 (.fieldLink RX7 205 "MachineHallModel" "end" "I") (by decide +kernel)
  have f84 := S.2.2.2.2 (.fieldLink RX7 84 "MachineHallModel" "free" "[I") (by decide +kernel)
  have f16 := S.2.2.2.2 (.fieldLink RX7 16 "MachineHallModel" "sheets" "[J") (by decide +kernel)
  have l208 := S.2.2.2.2 (.methodLink RX7 208 Lib.Math.max.name) (by decide +kernel)
  have smax := S.2.2.2.2 (.static Lib.Math.max.name) (by decide +kernel)
  have omax := S.2.2.2.2 (.code Lib.Math.max.name Lib.Math.max.code 2 (some .int)) (by decide +kernel)
  have iMath := S.2.2.2.2 (.initialized "java/lang/Math") (by decide +kernel)
  obtain ⟨R28, e28⟩ : ∃ R : Int32 → Mem → Prop, ∀ x5 M, R x5 M ↔ WW p l e rmX7_step s m args below meth c D T LM σ 9 (MQ below (postV D T LM σ post) args s 0 0 (fA LM σ)) 28 [(0, .ref (σ 0)), (1, .int a1), (2, .int a2), (3, .int a3), (4, .int a4), (5, .int x5)] [] M := ⟨_, fun _ _ => Iff.rfl⟩
  obtain ⟨R51, e51⟩ : ∃ R : Int32 → Mem → Prop, ∀ x5 M, R x5 M ↔ WW p l e rmX7_step s m args below meth c D T LM σ 9 (MQ below (postV D T LM σ post) args s 0 0 (fA LM σ)) 51 [(0, .ref (σ 0)), (1, .int a1), (2, .int a2), (3, .int a3), (4, .int a4), (5, .int x5)] [] M := ⟨_, fun _ _ => Iff.rfl⟩
  obtain ⟨R60, e60⟩ : ∃ R : Int32 → Int32 → Mem → Prop, ∀ x5 x6 M, R x5 x6 M ↔ WW p l e rmX7_step s m args below meth c D T LM σ 9 (MQ below (postV D T LM σ post) args s 0 0 (fA LM σ)) 60 [(0, .ref (σ 0)), (1, .int a1), (2, .int a2), (3, .int a3), (4, .int a4), (5, .int x5), (6, .int x6)] [] M := ⟨_, fun _ _ _ => Iff.rfl⟩
  obtain ⟨R84, e84⟩ : ∃ R : Int32 → Int32 → Int32 → Int32 → Mem → Prop, ∀ x5 x6 x7 x8 M, R x5 x6 x7 x8 M ↔ WW p l e rmX7_step s m args below meth c D T LM σ 9 (MQ below (postV D T LM σ post) args s 0 0 (fA LM σ)) 84 [(0, .ref (σ 0)), (1, .int a1), (2, .int a2), (3, .int a3), (4, .int a4), (5, .int x5), (6, .int x6), (7, .int x7), (8, .int x8)] [] M := ⟨_, fun _ _ _ _ _ => Iff.rfl⟩
  obtain ⟨R184, e184⟩ : ∃ R : Int32 → Int32 → Int32 → Int32 → Int32 → Int32 → Mem → Prop, ∀ x5 x6 x7 x8 s0 s1 M, R x5 x6 x7 x8 s0 s1 M ↔ WW p l e rmX7_step s m args below meth c D T LM σ 9 (MQ below (postV D T LM σ post) args s 0 0 (fA LM σ)) 184 [(0, .ref (σ 0)), (1, .int a1), (2, .int a2), (3, .int a3), (4, .int a4), (5, .int x5), (6, .int x6), (7, .int x7), (8, .int x8)] [.int s0, .int s1, .ref (σ 0)] M := ⟨_, fun _ _ _ _ _ _ _ => Iff.rfl⟩
  have h := h R28 R51 R60 R84 R184
  have z28 : ∀ x5 M, qX7_step_b28 a1 a2 a3 a4 post R28 R51 R60 R84 R184 x5 M → R28 x5 M := by
    intro x5 M h
    refine (e28 _ _).mpr (fun H locs ls hW hl => ?_)
    refine lv_iload S.1 S.2.1 dX7_step_28 (lv_at hl 5 rfl) ?_
    refine lv_iload_n S.1 S.2.1 dX7_step_30 rfl (lv_at hl 3 rfl) ?_
    refine lv_icmp_ge (tgt := 48) S.1 S.2.1 dX7_step_31 (by decide) (fun c6 => ?_) (fun c6 => ?_)
    · have h := h.1 c6
      refine lv_iconst (v := 0) S.1 S.2.1 dX7_step_48 rfl ?_
      refine lv_istore (lv' := [(5, .int (0 : Int32)), (0, .ref (σ 0)), (1, .int a1), (2, .int a2), (3, .int a3), (4, .int a4)]) S.1 S.2.1 dX7_step_49 hl (by decide) rfl (fun ls hl => ?_)
      exact (e51 _ _).mp h H locs ls hW (lv_sub hl [1, 2, 3, 4, 5, 0] rfl)
    · have h := h.2 c6
      refine lv_aload_n S.1 S.2.1 dX7_step_34 rfl (lv_at hl 0 rfl) ?_
      refine r_getR (j := 29) S hW inX7 rfl f84 rfl LM_0 (by decide) rfl dX7_step_35 ?_
      refine lv_iload S.1 S.2.1 dX7_step_38 (lv_at hl 5 rfl) ?_
      refine lv_iconst (v := 0) S.1 S.2.1 dX7_step_40 rfl ?_
      have b7 := h.1
      have h := h.2
      refine r_iast S hW LM_25 b7 dX7_step_41 (fun M8 H locs eM8 hW => ?_)
      have h := h M8 eM8
      obtain ⟨v9, ev9⟩ : ∃ y : Int32, y = x5 + 1 := ⟨_, rfl⟩
      have h := h v9 ev9
      refine lv_iinc (v := v9) (lv' := [(5, .int v9), (0, .ref (σ 0)), (1, .int a1), (2, .int a2), (3, .int a3), (4, .int a4)]) S.1 S.2.1 dX7_step_42 hl (k := 5) rfl (by rw [ev9]; rfl) (by decide) rfl (fun ls hl => ?_)
      refine lv_goto (tgt := 28) S.1 S.2.1 dX7_step_45 (by decide) ?_
      exact (e28 _ _).mp h H locs ls hW (lv_sub hl [1, 2, 3, 4, 5, 0] rfl)
  have z51 : ∀ x5 M, qX7_step_b51 a1 a2 a3 a4 post R28 R51 R60 R84 R184 x5 M → R51 x5 M := by
    intro x5 M h
    refine (e51 _ _).mpr (fun H locs ls hW hl => ?_)
    refine lv_iload S.1 S.2.1 dX7_step_51 (lv_at hl 5 rfl) ?_
    refine lv_iload_n S.1 S.2.1 dX7_step_53 rfl (lv_at hl 2 rfl) ?_
    refine lv_icmp_ge (tgt := 234) S.1 S.2.1 dX7_step_54 (by decide) (fun c10 => ?_) (fun c10 => ?_)
    · have h := h.1 c10
      exact r_vret S hr hlk hW h dX7_step_234
    · have h := h.2 c10
      refine lv_iconst (v := 0) S.1 S.2.1 dX7_step_57 rfl ?_
      refine lv_istore (lv' := [(6, .int (0 : Int32)), (0, .ref (σ 0)), (1, .int a1), (2, .int a2), (3, .int a3), (4, .int a4), (5, .int x5)]) S.1 S.2.1 dX7_step_58 hl (by decide) rfl (fun ls hl => ?_)
      exact (e60 _ _ _).mp h H locs ls hW (lv_sub hl [1, 2, 3, 4, 5, 6, 0] rfl)
  have z60 : ∀ x5 x6 M, qX7_step_b60 a1 a2 a3 a4 post R28 R51 R60 R84 R184 x5 x6 M → R60 x5 x6 M := by
    intro x5 x6 M h
    refine (e60 _ _ _).mpr (fun H locs ls hW hl => ?_)
    refine lv_iload S.1 S.2.1 dX7_step_60 (lv_at hl 6 rfl) ?_
    refine lv_aload_n S.1 S.2.1 dX7_step_62 rfl (lv_at hl 0 rfl) ?_
    refine r_getR (j := 3) S hW inX7 rfl f16 rfl LM_0 (by decide) rfl dX7_step_63 ?_
    refine lv_bipush (v := 64) S.1 S.2.1 dX7_step_66 rfl ?_
    refine lv_iload_n S.1 S.2.1 dX7_step_68 rfl (lv_at hl 1 rfl) ?_
    refine lv_imul S.1 S.2.1 dX7_step_69 ?_
    refine lv_iload S.1 S.2.1 dX7_step_70 (lv_at hl 5 rfl) ?_
    refine lv_iadd S.1 S.2.1 dX7_step_72 ?_
    have b11 := h.1
    have h := h.2
    refine r_lald S hW LM_3 b11 dX7_step_73 ?_
    refine lv_l2i S.1 S.2.1 dX7_step_74 rfl ?_
    refine lv_icmp_ge (tgt := 228) S.1 S.2.1 dX7_step_75 (by decide) (fun c12 => ?_) (fun c12 => ?_)
    · have h := h.1 c12
      obtain ⟨v13, ev13⟩ : ∃ y : Int32, y = x5 + 1 := ⟨_, rfl⟩
      have h := h v13 ev13
      refine lv_iinc (v := v13) (lv' := [(5, .int v13), (0, .ref (σ 0)), (1, .int a1), (2, .int a2), (3, .int a3), (4, .int a4), (6, .int x6)]) S.1 S.2.1 dX7_step_228 hl (k := 5) rfl (by rw [ev13]; rfl) (by decide) rfl (fun ls hl => ?_)
      refine lv_goto (tgt := 51) S.1 S.2.1 dX7_step_231 (by decide) ?_
      exact (e51 _ _).mp h H locs ls hW (lv_sub hl [1, 2, 3, 4, 5, 0] rfl)
    · have h := h.2 c12
      refine lv_iconst (v := 0) S.1 S.2.1 dX7_step_78 rfl ?_
      refine lv_istore (lv' := [(7, .int (0 : Int32)), (0, .ref (σ 0)), (1, .int a1), (2, .int a2), (3, .int a3), (4, .int a4), (5, .int x5), (6, .int x6)]) S.1 S.2.1 dX7_step_79 hl (by decide) rfl (fun ls hl => ?_)
      refine lv_iconst (v := 1) S.1 S.2.1 dX7_step_81 rfl ?_
      refine lv_istore (lv' := [(8, .int (1 : Int32)), (7, .int (0 : Int32)), (0, .ref (σ 0)), (1, .int a1), (2, .int a2), (3, .int a3), (4, .int a4), (5, .int x5), (6, .int x6)]) S.1 S.2.1 dX7_step_82 hl (by decide) rfl (fun ls hl => ?_)
      exact (e84 _ _ _ _ _).mp h H locs ls hW (lv_sub hl [2, 3, 4, 5, 6, 7, 8, 1, 0] rfl)
  have z84 : ∀ x5 x6 x7 x8 M, qX7_step_b84 a1 a2 a3 a4 post R28 R51 R60 R84 R184 x5 x6 x7 x8 M → R84 x5 x6 x7 x8 M := by
    intro x5 x6 x7 x8 M h
    refine (e84 _ _ _ _ _).mpr (fun H locs ls hW hl => ?_)
    refine lv_iload S.1 S.2.1 dX7_step_84 (lv_at hl 8 rfl) ?_
    refine lv_iload_n S.1 S.2.1 dX7_step_86 rfl (lv_at hl 3 rfl) ?_
    refine lv_icmp_ge (tgt := 117) S.1 S.2.1 dX7_step_87 (by decide) (fun c14 => ?_) (fun c14 => ?_)
    · have h := h.1 c14
      refine lv_iload S.1 S.2.1 dX7_step_117 (lv_at hl 5 rfl) ?_
      refine lv_aload_n S.1 S.2.1 dX7_step_119 rfl (lv_at hl 0 rfl) ?_
      refine r_getR (j := 29) S hW inX7 rfl f84 rfl LM_0 (by decide) rfl dX7_step_120 ?_
      refine lv_iload S.1 S.2.1 dX7_step_123 (lv_at hl 7 rfl) ?_
      have b15 := h.1
      have h := h.2
      refine r_iald S hW LM_25 b15 dX7_step_125 ?_
      refine r_max S hl.1 l208 smax iMath omax (Nat.le_of_ble_eq_true rfl) (Nat.le_of_ble_eq_true rfl) (Nat.zero_le _) (Nat.zero_le _) dX7_step_126 ?_
      refine lv_topi (fun v16 ev16 => ?_)
      have h := h v16 ev16
      refine lv_istore (lv' := [(8, .int v16), (0, .ref (σ 0)), (1, .int a1), (2, .int a2), (3, .int a3), (4, .int a4), (5, .int x5), (6, .int x6), (7, .int x7)]) S.1 S.2.1 dX7_step_129 hl (by decide) rfl (fun ls hl => ?_)
      refine lv_aload_n S.1 S.2.1 dX7_step_131 rfl (lv_at hl 1 rfl) ?_
      refine r_getR (j := 29) S hW inX7 rfl f84 rfl LM_0 (by decide) rfl dX7_step_132 ?_
      refine lv_iload S.1 S.2.1 dX7_step_135 (lv_at hl 8 rfl) ?_
      refine lv_iload S.1 S.2.1 dX7_step_137 (lv_at hl 0 rfl) ?_
      refine lv_iload S.1 S.2.1 dX7_step_139 (lv_at hl 5 rfl) ?_
      refine lv_iadd S.1 S.2.1 dX7_step_141 ?_
      have b17 := h.1
      have h := h.2
      refine r_iast S hW LM_25 b17 dX7_step_142 (fun M18 H locs eM18 hW => ?_)
      have h := h M18 eM18
      refine lv_aload_n S.1 S.2.1 dX7_step_143 rfl (lv_at hl 1 rfl) ?_
      refine lv_dup S.1 S.2.1 dX7_step_144 rfl ?_
      refine r_getI (j := 32) S hW inX7 rfl f199 rfl LM_0 (by decide) rfl dX7_step_145 ?_
      refine lv_iconst (v := 1) S.1 S.2.1 dX7_step_148 rfl ?_
      refine lv_iadd S.1 S.2.1 dX7_step_149 ?_
      refine r_putI (j := 32) S hW inX7 rfl f199 rfl LM_0 (by decide) rfl tyX7 tyX7_ok nmX7 rfl rfl rfl dX7_step_150 (fun M19 H locs eM19 hW => ?_)
      have h := h M19 eM19
      refine lv_aload_n S.1 S.2.1 dX7_step_153 rfl (lv_at hl 1 rfl) ?_
      refine lv_dup S.1 S.2.1 dX7_step_154 rfl ?_
      refine r_getI (j := 31) S hW inX7 rfl f196 rfl LM_0 (by decide) rfl dX7_step_155 ?_
      refine lv_iload S.1 S.2.1 dX7_step_158 (lv_at hl 0 rfl) ?_
      refine lv_iload S.1 S.2.1 dX7_step_160 (lv_at hl 6 rfl) ?_
      refine lv_isub S.1 S.2.1 dX7_step_162 ?_
      refine lv_iadd S.1 S.2.1 dX7_step_163 ?_
      refine r_putI (j := 31) S hW inX7 rfl f196 rfl LM_0 (by decide) rfl tyX7 tyX7_ok nmX7 rfl rfl rfl dX7_step_164 (fun M20 H locs eM20 hW => ?_)
      have h := h M20 eM20
      refine lv_aload_n S.1 S.2.1 dX7_step_167 rfl (lv_at hl 1 rfl) ?_
      refine lv_dup S.1 S.2.1 dX7_step_168 rfl ?_
      refine r_getI (j := 33) S hW inX7 rfl f202 rfl LM_0 (by decide) rfl dX7_step_169 ?_
      refine lv_iload S.1 S.2.1 dX7_step_172 (lv_at hl 0 rfl) ?_
      refine lv_iload S.1 S.2.1 dX7_step_174 (lv_at hl 6 rfl) ?_
      refine lv_icmp_le (tgt := 183) S.1 S.2.1 dX7_step_176 (by decide) (fun c21 => ?_) (fun c21 => ?_)
      · have h := h.1 c21
        refine lv_iconst (v := 0) S.1 S.2.1 dX7_step_183 rfl ?_
        exact (e184 _ _ _ _ _ _ _).mp h H locs ls hW (lv_sub hl [1, 2, 3, 4, 5, 6, 7, 8, 0] rfl)
      · have h := h.2 c21
        refine lv_iconst (v := 1) S.1 S.2.1 dX7_step_179 rfl ?_
        refine lv_goto (tgt := 184) S.1 S.2.1 dX7_step_180 (by decide) ?_
        exact (e184 _ _ _ _ _ _ _).mp h H locs ls hW (lv_sub hl [1, 2, 3, 4, 5, 6, 7, 8, 0] rfl)
    · have h := h.2 c14
      refine lv_aload_n S.1 S.2.1 dX7_step_90 rfl (lv_at hl 0 rfl) ?_
      refine r_getR (j := 29) S hW inX7 rfl f84 rfl LM_0 (by decide) rfl dX7_step_91 ?_
      refine lv_iload S.1 S.2.1 dX7_step_94 (lv_at hl 8 rfl) ?_
      have b22 := h.1
      have h := h.2
      refine r_iald S hW LM_25 b22 dX7_step_96 ?_
      refine lv_aload_n S.1 S.2.1 dX7_step_97 rfl (lv_at hl 0 rfl) ?_
      refine r_getR (j := 29) S hW inX7 rfl f84 rfl LM_0 (by decide) rfl dX7_step_98 ?_
      refine lv_iload S.1 S.2.1 dX7_step_101 (lv_at hl 7 rfl) ?_
      have b23 := h.1
      have h := h.2
      refine r_iald S hW LM_25 b23 dX7_step_103 ?_
      refine lv_icmp_ge (tgt := 111) S.1 S.2.1 dX7_step_104 (by decide) (fun c24 => ?_) (fun c24 => ?_)
      · have h := h.1 c24
        obtain ⟨v25, ev25⟩ : ∃ y : Int32, y = x8 + 1 := ⟨_, rfl⟩
        have h := h v25 ev25
        refine lv_iinc (v := v25) (lv' := [(8, .int v25), (0, .ref (σ 0)), (1, .int a1), (2, .int a2), (3, .int a3), (4, .int a4), (5, .int x5), (6, .int x6), (7, .int x7)]) S.1 S.2.1 dX7_step_111 hl (k := 8) rfl (by rw [ev25]; rfl) (by decide) rfl (fun ls hl => ?_)
        refine lv_goto (tgt := 84) S.1 S.2.1 dX7_step_114 (by decide) ?_
        exact (e84 _ _ _ _ _).mp h H locs ls hW (lv_sub hl [1, 2, 3, 4, 5, 6, 7, 8, 0] rfl)
      · have h := h.2 c24
        refine lv_iload S.1 S.2.1 dX7_step_107 (lv_at hl 8 rfl) ?_
        refine lv_istore (lv' := [(7, .int x8), (0, .ref (σ 0)), (1, .int a1), (2, .int a2), (3, .int a3), (4, .int a4), (5, .int x5), (6, .int x6), (8, .int x8)]) S.1 S.2.1 dX7_step_109 hl (by decide) rfl (fun ls hl => ?_)
        obtain ⟨v26, ev26⟩ : ∃ y : Int32, y = x8 + 1 := ⟨_, rfl⟩
        have h := h v26 ev26
        refine lv_iinc (v := v26) (lv' := [(8, .int v26), (7, .int x8), (0, .ref (σ 0)), (1, .int a1), (2, .int a2), (3, .int a3), (4, .int a4), (5, .int x5), (6, .int x6)]) S.1 S.2.1 dX7_step_111 hl (k := 8) rfl (by rw [ev26]; rfl) (by decide) rfl (fun ls hl => ?_)
        refine lv_goto (tgt := 84) S.1 S.2.1 dX7_step_114 (by decide) ?_
        exact (e84 _ _ _ _ _).mp h H locs ls hW (lv_sub hl [2, 3, 4, 5, 6, 7, 8, 1, 0] rfl)
  have z184 : ∀ x5 x6 x7 x8 s0 s1 M, qX7_step_b184 a1 a2 a3 a4 post R28 R51 R60 R84 R184 x5 x6 x7 x8 s0 s1 M → R184 x5 x6 x7 x8 s0 s1 M := by
    intro x5 x6 x7 x8 s0 s1 M h
    refine (e184 _ _ _ _ _ _ _).mpr (fun H locs ls hW hl => ?_)
    refine lv_iadd S.1 S.2.1 dX7_step_184 ?_
    refine r_putI (j := 33) S hW inX7 rfl f202 rfl LM_0 (by decide) rfl tyX7 tyX7_ok nmX7 rfl rfl rfl dX7_step_185 (fun M27 H locs eM27 hW => ?_)
    have h := h M27 eM27
    refine lv_aload_n S.1 S.2.1 dX7_step_188 rfl (lv_at hl 0 rfl) ?_
    refine lv_aload_n S.1 S.2.1 dX7_step_189 rfl (lv_at hl 0 rfl) ?_
    refine r_getI (j := 30) S hW inX7 rfl f193 rfl LM_0 (by decide) rfl dX7_step_190 ?_
    refine lv_iload S.1 S.2.1 dX7_step_193 (lv_at hl 8 rfl) ?_
    refine lv_iload S.1 S.2.1 dX7_step_195 (lv_at hl 5 rfl) ?_
    refine lv_isub S.1 S.2.1 dX7_step_197 ?_
    refine r_max S hl.1 l208 smax iMath omax (Nat.le_of_ble_eq_true rfl) (Nat.le_of_ble_eq_true rfl) (Nat.zero_le _) (Nat.zero_le _) dX7_step_198 ?_
    refine r_putI (j := 30) S hW inX7 rfl f193 rfl LM_0 (by decide) rfl tyX7 tyX7_ok nmX7 rfl rfl rfl dX7_step_201 (fun M28 H locs eM28 hW => ?_)
    have h := h M28 eM28
    refine lv_aload_n S.1 S.2.1 dX7_step_204 rfl (lv_at hl 0 rfl) ?_
    refine lv_aload_n S.1 S.2.1 dX7_step_205 rfl (lv_at hl 0 rfl) ?_
    refine r_getI (j := 34) S hW inX7 rfl f205 rfl LM_0 (by decide) rfl dX7_step_206 ?_
    refine lv_aload_n S.1 S.2.1 dX7_step_209 rfl (lv_at hl 0 rfl) ?_
    refine r_getR (j := 29) S hW inX7 rfl f84 rfl LM_0 (by decide) rfl dX7_step_210 ?_
    refine lv_iload S.1 S.2.1 dX7_step_213 (lv_at hl 7 rfl) ?_
    have b29 := h.1
    have h := h.2
    refine r_iald S hW LM_25 b29 dX7_step_215 ?_
    refine r_max S hl.1 l208 smax iMath omax (Nat.le_of_ble_eq_true rfl) (Nat.le_of_ble_eq_true rfl) (Nat.zero_le _) (Nat.zero_le _) dX7_step_216 ?_
    refine r_putI (j := 34) S hW inX7 rfl f205 rfl LM_0 (by decide) rfl tyX7 tyX7_ok nmX7 rfl rfl rfl dX7_step_219 (fun M30 H locs eM30 hW => ?_)
    have h := h M30 eM30
    obtain ⟨v31, ev31⟩ : ∃ y : Int32, y = x6 + 1 := ⟨_, rfl⟩
    have h := h v31 ev31
    refine lv_iinc (v := v31) (lv' := [(6, .int v31), (0, .ref (σ 0)), (1, .int a1), (2, .int a2), (3, .int a3), (4, .int a4), (5, .int x5), (7, .int x7), (8, .int x8)]) S.1 S.2.1 dX7_step_222 hl (k := 6) rfl (by rw [ev31]; rfl) (by decide) rfl (fun ls hl => ?_)
    refine lv_goto (tgt := 60) S.1 S.2.1 dX7_step_225 (by decide) ?_
    exact (e60 _ _ _).mp h H locs ls hW (lv_sub hl [1, 2, 3, 4, 5, 6, 0] rfl)
  have h := h z28 z51 z60 z84 z184
  refine lv_aload_n S.1 S.2.1 dX7_step_0 rfl (lv_at hl 0 rfl) ?_
  refine lv_iconst (v := 0) S.1 S.2.1 dX7_step_1 rfl ?_
  refine r_putI (j := 30) S hW inX7 rfl f193 rfl LM_0 (by decide) rfl tyX7 tyX7_ok nmX7 rfl rfl rfl dX7_step_2 (fun M1 H locs eM1 hW => ?_)
  have h := h M1 eM1
  refine lv_aload_n S.1 S.2.1 dX7_step_5 rfl (lv_at hl 0 rfl) ?_
  refine lv_iconst (v := 0) S.1 S.2.1 dX7_step_6 rfl ?_
  refine r_putI (j := 31) S hW inX7 rfl f196 rfl LM_0 (by decide) rfl tyX7 tyX7_ok nmX7 rfl rfl rfl dX7_step_7 (fun M2 H locs eM2 hW => ?_)
  have h := h M2 eM2
  refine lv_aload_n S.1 S.2.1 dX7_step_10 rfl (lv_at hl 0 rfl) ?_
  refine lv_iconst (v := 0) S.1 S.2.1 dX7_step_11 rfl ?_
  refine r_putI (j := 32) S hW inX7 rfl f199 rfl LM_0 (by decide) rfl tyX7 tyX7_ok nmX7 rfl rfl rfl dX7_step_12 (fun M3 H locs eM3 hW => ?_)
  have h := h M3 eM3
  refine lv_aload_n S.1 S.2.1 dX7_step_15 rfl (lv_at hl 0 rfl) ?_
  refine lv_iconst (v := 0) S.1 S.2.1 dX7_step_16 rfl ?_
  refine r_putI (j := 33) S hW inX7 rfl f202 rfl LM_0 (by decide) rfl tyX7 tyX7_ok nmX7 rfl rfl rfl dX7_step_17 (fun M4 H locs eM4 hW => ?_)
  have h := h M4 eM4
  refine lv_aload_n S.1 S.2.1 dX7_step_20 rfl (lv_at hl 0 rfl) ?_
  refine lv_iconst (v := 0) S.1 S.2.1 dX7_step_21 rfl ?_
  refine r_putI (j := 34) S hW inX7 rfl f205 rfl LM_0 (by decide) rfl tyX7 tyX7_ok nmX7 rfl rfl rfl dX7_step_22 (fun M5 H locs eM5 hW => ?_)
  have h := h M5 eM5
  refine lv_iconst (v := 0) S.1 S.2.1 dX7_step_25 rfl ?_
  refine lv_istore (lv' := [(5, .int (0 : Int32)), (0, .ref (σ 0)), (1, .int a1), (2, .int a2), (3, .int a3), (4, .int a4)]) S.1 S.2.1 dX7_step_26 hl (by decide) rfl (fun ls hl => ?_)
  exact (e28 _ _).mp h H locs ls hW (lv_sub hl [1, 2, 3, 4, 5, 0] rfl)
abbrev rmX7_line : Room := { frames := 2, cells := 0, slots := 0, locals := 51 }
set_option maxHeartbeats 4000000 in
set_option maxRecDepth 100000 in
theorem mX7_line (l : Launch) (D : va_G) (T : Nat → ClassId) (σ : Nat → Nat) (M : Mem) (a1 : Int32) (a2 : Int32) (a3 : Int32) (a4 : Int32) (a5 : Int32) (post : Int32 → Mem → Prop) (h : qX7_line a1 a2 a3 a4 a5 M post) : Met l yX7_line wsX7_line rmX7_line (preW D T LM σ [.ref (σ 0), .int a1, .int a2, .int a3, .int a4, .int a5] M) (postI D T LM σ post) 0 0 (fA LM σ) := by
  refine m_of (cc := cX7_line) (maxL := 7) (ret := (some .int)) (own := RX7) (by decide) rfl rfl (Nat.le_of_ble_eq_true rfl) ?_
  intro p e s m args below meth c H ls locs S hr hlk hl hW
  have hl : lv_has ls 7 [(0, .ref (σ 0)), (1, .int a1), (2, .int a2), (3, .int a3), (4, .int a4), (5, .int a5)] := hl
  have k211 := S.2.2.2.2 (.constantLong RX7 211 (100)) (by decide +kernel)
  have w213 := cwV (R := rmX7_line) (rm := rmX7_wrongNumbers) (mc := 0) (ms := 0) 3 S.2.2.2.2 gX7_line_X7_wrongNumbers rfl rfl rfl (by decide +kernel) ⟨Nat.le_of_ble_eq_true rfl, Nat.le_of_ble_eq_true rfl⟩
  have w217 := cwV (R := rmX7_line) (rm := rmX7_step) (mc := 0) (ms := 0) 4 S.2.2.2.2 gX7_line_X7_step rfl rfl rfl (by decide +kernel) ⟨Nat.le_of_ble_eq_true rfl, Nat.le_of_ble_eq_true rfl⟩
  have inX7 : ∀ w ∈ u_ws RX7 TX7 42, w ∈ wsX7_line := by decide +kernel
  have f105 := S.2.2.2.2 (.fieldLink RX7 105 "MachineHallModel" "status" "I") (by decide +kernel)
  have f205 := S.2.2.2.2 (.fieldLink RX7 205 "MachineHallModel" "end" "I") (by decide +kernel)
  have f202 := S.2.2.2.2 (.fieldLink RX7 202 "MachineHallModel" "waiting" "I") (by decide +kernel)
  have f199 := S.2.2.2.2 (.fieldLink RX7 199 "MachineHallModel" "comes" "I") (by decide +kernel)
  have f196 := S.2.2.2.2 (.fieldLink RX7 196 "MachineHallModel" "together" "I") (by decide +kernel)
  have f193 := S.2.2.2.2 (.fieldLink RX7 193 "MachineHallModel" "greatest" "I") (by decide +kernel)
  have w126 := cwV (R := rmX7_line) (rm := rmX7_refuse) (mc := 0) (ms := 0) 1 S.2.2.2.2 gX7_line_X7_refuse rfl rfl rfl (by decide +kernel) ⟨Nat.le_of_ble_eq_true rfl, Nat.le_of_ble_eq_true rfl⟩
  obtain ⟨R46, e46⟩ : ∃ R : Mem → Prop, ∀ M, R M ↔ WW p l e rmX7_line s m args below meth c D T LM σ 7 (MQ below (postI D T LM σ post) args s 0 0 (fA LM σ)) 46 [(0, .ref (σ 0)), (1, .int a1), (2, .int a2), (3, .int a3), (4, .int a4), (5, .int a5)] [] M := ⟨_, fun _ => Iff.rfl⟩
  obtain ⟨R59, e59⟩ : ∃ R : Int32 → Mem → Prop, ∀ s0 M, R s0 M ↔ WW p l e rmX7_line s m args below meth c D T LM σ 7 (MQ below (postI D T LM σ post) args s 0 0 (fA LM σ)) 59 [(0, .ref (σ 0)), (1, .int a1), (2, .int a2), (3, .int a3), (4, .int a4), (5, .int a5)] [.int s0] M := ⟨_, fun _ _ => Iff.rfl⟩
  have h := h R46 R59
  have z46 : ∀ M, qX7_line_b46 a1 a2 a3 a4 a5 post R46 R59 M → R46 M := by
    intro M h
    refine (e46 _).mpr (fun H locs ls hW hl => ?_)
    refine lv_iconst (v := 1) S.1 S.2.1 dX7_line_46 rfl ?_
    refine lv_goto (tgt := 59) S.1 S.2.1 dX7_line_47 (by decide) ?_
    exact (e59 _ _).mp h H locs ls hW (lv_sub hl [0, 1, 2, 3, 4, 5] rfl)
  have z59 : ∀ s0 M, qX7_line_b59 a1 a2 a3 a4 a5 post R46 R59 s0 M → R59 s0 M := by
    intro s0 M h
    refine (e59 _ _).mpr (fun H locs ls hW hl => ?_)
    refine lv_istore (lv' := [(6, .int s0), (0, .ref (σ 0)), (1, .int a1), (2, .int a2), (3, .int a3), (4, .int a4), (5, .int a5)]) S.1 S.2.1 dX7_line_59 hl (by decide) rfl (fun ls hl => ?_)
    refine lv_iload S.1 S.2.1 dX7_line_61 (lv_at hl 0 rfl) ?_
    refine lv_if_le (tgt := 73) S.1 S.2.1 dX7_line_63 (by decide) (fun c11 => ?_) (fun c11 => ?_)
    · have h := h.1 c11
      refine lv_aload_n S.1 S.2.1 dX7_line_73 rfl (lv_at hl 1 rfl) ?_
      refine lv_iload_n S.1 S.2.1 dX7_line_74 rfl (lv_at hl 2 rfl) ?_
      refine lv_iload_n S.1 S.2.1 dX7_line_75 rfl (lv_at hl 3 rfl) ?_
      refine lv_iload_n S.1 S.2.1 dX7_line_76 rfl (lv_at hl 4 rfl) ?_
      refine lv_iload S.1 S.2.1 dX7_line_77 (lv_at hl 5 rfl) ?_
      refine r_goV (r_runV (rest := []) S hW (mX7_step l D T σ M a1 a2 a3 a4 _ h) w217 rfl LM_0 rfl hl.1 rfl (Nat.le_of_ble_eq_true rfl) dX7_line_79 ⟨Nat.zero_le _, Nat.zero_le _⟩) hW (fun M13 H locs h hW => ?_)
      refine lv_aload_n S.1 S.2.1 dX7_line_82 rfl (lv_at hl 1 rfl) ?_
      refine lv_iconst (v := 0) S.1 S.2.1 dX7_line_83 rfl ?_
      refine r_putI (j := 0) S hW inX7 rfl f105 rfl LM_0 (by decide) rfl tyX7 tyX7_ok nmX7 rfl rfl rfl dX7_line_84 (fun M14 H locs eM14 hW => ?_)
      have h := h M14 eM14
      refine lv_iload S.1 S.2.1 dX7_line_87 (lv_at hl 6 rfl) ?_
      refine lv_if_ne (tgt := 99) S.1 S.2.1 dX7_line_89 (by decide) (fun c15 => ?_) (fun c15 => ?_)
      · have h := h.1 c15
        refine lv_iload S.1 S.2.1 dX7_line_99 (lv_at hl 6 rfl) ?_
        refine lv_iconst (v := 1) S.1 S.2.1 dX7_line_101 rfl ?_
        refine lv_icmp_ne (tgt := 112) S.1 S.2.1 dX7_line_102 (by decide) (fun c16 => ?_) (fun c16 => ?_)
        · have h := h.1 c16
          refine lv_iload S.1 S.2.1 dX7_line_112 (lv_at hl 6 rfl) ?_
          refine lv_iconst (v := 2) S.1 S.2.1 dX7_line_114 rfl ?_
          refine lv_icmp_ne (tgt := 125) S.1 S.2.1 dX7_line_115 (by decide) (fun c17 => ?_) (fun c17 => ?_)
          · have h := h.1 c17
            refine lv_iload S.1 S.2.1 dX7_line_125 (lv_at hl 6 rfl) ?_
            refine lv_iconst (v := 3) S.1 S.2.1 dX7_line_127 rfl ?_
            refine lv_icmp_ne (tgt := 138) S.1 S.2.1 dX7_line_128 (by decide) (fun c18 => ?_) (fun c18 => ?_)
            · have h := h.1 c18
              refine lv_aload_n S.1 S.2.1 dX7_line_138 rfl (lv_at hl 1 rfl) ?_
              refine r_getI (j := 34) S hW inX7 rfl f205 rfl LM_0 (by decide) rfl dX7_line_139 ?_
              exact r_iret S hr hlk hW h dX7_line_142
            · have h := h.2 c18
              refine lv_aload_n S.1 S.2.1 dX7_line_131 rfl (lv_at hl 1 rfl) ?_
              refine r_getI (j := 33) S hW inX7 rfl f202 rfl LM_0 (by decide) rfl dX7_line_132 ?_
              refine lv_goto (tgt := 142) S.1 S.2.1 dX7_line_135 (by decide) ?_
              exact r_iret S hr hlk hW h dX7_line_142
          · have h := h.2 c17
            refine lv_aload_n S.1 S.2.1 dX7_line_118 rfl (lv_at hl 1 rfl) ?_
            refine r_getI (j := 32) S hW inX7 rfl f199 rfl LM_0 (by decide) rfl dX7_line_119 ?_
            refine lv_goto (tgt := 142) S.1 S.2.1 dX7_line_122 (by decide) ?_
            exact r_iret S hr hlk hW h dX7_line_142
        · have h := h.2 c16
          refine lv_aload_n S.1 S.2.1 dX7_line_105 rfl (lv_at hl 1 rfl) ?_
          refine r_getI (j := 31) S hW inX7 rfl f196 rfl LM_0 (by decide) rfl dX7_line_106 ?_
          refine lv_goto (tgt := 142) S.1 S.2.1 dX7_line_109 (by decide) ?_
          exact r_iret S hr hlk hW h dX7_line_142
      · have h := h.2 c15
        refine lv_aload_n S.1 S.2.1 dX7_line_92 rfl (lv_at hl 1 rfl) ?_
        refine r_getI (j := 30) S hW inX7 rfl f193 rfl LM_0 (by decide) rfl dX7_line_93 ?_
        refine lv_goto (tgt := 142) S.1 S.2.1 dX7_line_96 (by decide) ?_
        exact r_iret S hr hlk hW h dX7_line_142
    · have h := h.2 c11
      refine lv_aload_n S.1 S.2.1 dX7_line_66 rfl (lv_at hl 1 rfl) ?_
      refine lv_iload S.1 S.2.1 dX7_line_67 (lv_at hl 0 rfl) ?_
      refine r_goI (r_runV (rest := []) S hW (mX7_refuse l D T σ M s0 _ h) w126 rfl LM_0 rfl hl.1 rfl (Nat.le_of_ble_eq_true rfl) dX7_line_69 ⟨Nat.zero_le _, Nat.zero_le _⟩) hW (fun r19 M20 H locs h hW => ?_)
      exact r_iret S hr hlk hW h dX7_line_72
  have h := h z46 z59
  refine lv_iload_n S.1 S.2.1 dX7_line_0 rfl (lv_at hl 2 rfl) ?_
  refine lv_iconst (v := 1) S.1 S.2.1 dX7_line_1 rfl ?_
  refine lv_icmp_lt (tgt := 46) S.1 S.2.1 dX7_line_2 (by decide) (fun c1 => ?_) (fun c1 => ?_)
  · have h := h.1 c1
    exact (e46  _).mp h H locs ls hW (lv_sub hl [0, 1, 2, 3, 4, 5] rfl)
  · have h := h.2 c1
    refine lv_iload_n S.1 S.2.1 dX7_line_5 rfl (lv_at hl 2 rfl) ?_
    refine lv_bipush (v := 64) S.1 S.2.1 dX7_line_6 rfl ?_
    refine lv_icmp_gt (tgt := 46) S.1 S.2.1 dX7_line_8 (by decide) (fun c2 => ?_) (fun c2 => ?_)
    · have h := h.1 c2
      exact (e46  _).mp h H locs ls hW (lv_sub hl [0, 1, 2, 3, 4, 5] rfl)
    · have h := h.2 c2
      refine lv_iload_n S.1 S.2.1 dX7_line_11 rfl (lv_at hl 3 rfl) ?_
      refine lv_iconst (v := 1) S.1 S.2.1 dX7_line_12 rfl ?_
      refine lv_icmp_lt (tgt := 46) S.1 S.2.1 dX7_line_13 (by decide) (fun c3 => ?_) (fun c3 => ?_)
      · have h := h.1 c3
        exact (e46  _).mp h H locs ls hW (lv_sub hl [0, 1, 2, 3, 4, 5] rfl)
      · have h := h.2 c3
        refine lv_iload_n S.1 S.2.1 dX7_line_16 rfl (lv_at hl 3 rfl) ?_
        refine lv_bipush (v := 20) S.1 S.2.1 dX7_line_17 rfl ?_
        refine lv_icmp_gt (tgt := 46) S.1 S.2.1 dX7_line_19 (by decide) (fun c4 => ?_) (fun c4 => ?_)
        · have h := h.1 c4
          exact (e46  _).mp h H locs ls hW (lv_sub hl [0, 1, 2, 3, 4, 5] rfl)
        · have h := h.2 c4
          refine lv_iload S.1 S.2.1 dX7_line_22 (lv_at hl 4 rfl) ?_
          refine lv_iconst (v := 1) S.1 S.2.1 dX7_line_24 rfl ?_
          refine lv_icmp_lt (tgt := 46) S.1 S.2.1 dX7_line_25 (by decide) (fun c5 => ?_) (fun c5 => ?_)
          · have h := h.1 c5
            exact (e46  _).mp h H locs ls hW (lv_sub hl [0, 1, 2, 3, 4, 5] rfl)
          · have h := h.2 c5
            refine lv_iload S.1 S.2.1 dX7_line_28 (lv_at hl 4 rfl) ?_
            refine lv_bipush (v := 100) S.1 S.2.1 dX7_line_30 rfl ?_
            refine lv_icmp_gt (tgt := 46) S.1 S.2.1 dX7_line_32 (by decide) (fun c6 => ?_) (fun c6 => ?_)
            · have h := h.1 c6
              exact (e46  _).mp h H locs ls hW (lv_sub hl [0, 1, 2, 3, 4, 5] rfl)
            · have h := h.2 c6
              refine lv_iload S.1 S.2.1 dX7_line_35 (lv_at hl 5 rfl) ?_
              refine lv_if_lt (tgt := 46) S.1 S.2.1 dX7_line_37 (by decide) (fun c7 => ?_) (fun c7 => ?_)
              · have h := h.1 c7
                exact (e46  _).mp h H locs ls hW (lv_sub hl [0, 1, 2, 3, 4, 5] rfl)
              · have h := h.2 c7
                refine lv_iload S.1 S.2.1 dX7_line_40 (lv_at hl 5 rfl) ?_
                refine lv_iconst (v := 4) S.1 S.2.1 dX7_line_42 rfl ?_
                refine lv_icmp_le (tgt := 50) S.1 S.2.1 dX7_line_43 (by decide) (fun c8 => ?_) (fun c8 => ?_)
                · have h := h.1 c8
                  refine lv_aload_n S.1 S.2.1 dX7_line_50 rfl (lv_at hl 0 rfl) ?_
                  refine lv_iload_n S.1 S.2.1 dX7_line_51 rfl (lv_at hl 1 rfl) ?_
                  refine lv_iload_n S.1 S.2.1 dX7_line_52 rfl (lv_at hl 2 rfl) ?_
                  refine lv_ldc2 S.1 S.2.1 S.2.2.2.1 k211 dX7_line_53 ?_
                  refine r_goI (r_runV (rest := []) S hW (mX7_wrongNumbers l D T σ M a1 a2 (100 : Int64) _ h) w213 rfl LM_0 rfl hl.1 rfl (Nat.le_of_ble_eq_true rfl) dX7_line_56 ⟨Nat.zero_le _, Nat.zero_le _⟩) hW (fun r9 M10 H locs h hW => ?_)
                  exact (e59 _ _).mp h H locs ls hW (lv_sub hl [0, 1, 2, 3, 4, 5] rfl)
                · have h := h.2 c8
                  exact (e46  _).mp h H locs ls hW (lv_sub hl [0, 1, 2, 3, 4, 5] rfl)
abbrev rmX7_hands : Room := { frames := 2, cells := 0, slots := 0, locals := 51 }
set_option maxHeartbeats 4000000 in
set_option maxRecDepth 100000 in
theorem mX7_hands (l : Launch) (D : va_G) (T : Nat → ClassId) (σ : Nat → Nat) (M : Mem) (a1 : Int32) (a2 : Int32) (a3 : Int32) (a4 : Int32) (post : Int32 → Mem → Prop) (h : qX7_hands a1 a2 a3 a4 M post) : Met l yX7_hands wsX7_hands rmX7_hands (preW D T LM σ [.ref (σ 0), .int a1, .int a2, .int a3, .int a4] M) (postI D T LM σ post) 0 0 (fA LM σ) := by
  refine m_of (cc := cX7_hands) (maxL := 7) (ret := (some .int)) (own := RX7) (by decide) rfl rfl (Nat.le_of_ble_eq_true rfl) ?_
  intro p e s m args below meth c H ls locs S hr hlk hl hW
  have hl : lv_has ls 7 [(0, .ref (σ 0)), (1, .int a1), (2, .int a2), (3, .int a3), (4, .int a4)] := hl
  have k211 := S.2.2.2.2 (.constantLong RX7 211 (100)) (by decide +kernel)
  have w213 := cwV (R := rmX7_hands) (rm := rmX7_wrongNumbers) (mc := 0) (ms := 0) 3 S.2.2.2.2 gX7_hands_X7_wrongNumbers rfl rfl rfl (by decide +kernel) ⟨Nat.le_of_ble_eq_true rfl, Nat.le_of_ble_eq_true rfl⟩
  have inX7 : ∀ w ∈ u_ws RX7 TX7 42, w ∈ wsX7_hands := by decide +kernel
  have f105 := S.2.2.2.2 (.fieldLink RX7 105 "MachineHallModel" "status" "I") (by decide +kernel)
  have w126 := cwV (R := rmX7_hands) (rm := rmX7_refuse) (mc := 0) (ms := 0) 1 S.2.2.2.2 gX7_hands_X7_refuse rfl rfl rfl (by decide +kernel) ⟨Nat.le_of_ble_eq_true rfl, Nat.le_of_ble_eq_true rfl⟩
  have w217 := cwV (R := rmX7_hands) (rm := rmX7_step) (mc := 0) (ms := 0) 4 S.2.2.2.2 gX7_hands_X7_step rfl rfl rfl (by decide +kernel) ⟨Nat.le_of_ble_eq_true rfl, Nat.le_of_ble_eq_true rfl⟩
  have f193 := S.2.2.2.2 (.fieldLink RX7 193 "MachineHallModel" "greatest" "I") (by decide +kernel)
  obtain ⟨R35, e35⟩ : ∃ R : Mem → Prop, ∀ M, R M ↔ WW p l e rmX7_hands s m args below meth c D T LM σ 7 (MQ below (postI D T LM σ post) args s 0 0 (fA LM σ)) 35 [(0, .ref (σ 0)), (1, .int a1), (2, .int a2), (3, .int a3), (4, .int a4)] [] M := ⟨_, fun _ => Iff.rfl⟩
  obtain ⟨R70, e70⟩ : ∃ R : Int32 → Mem → Prop, ∀ x6 M, R x6 M ↔ WW p l e rmX7_hands s m args below meth c D T LM σ 7 (MQ below (postI D T LM σ post) args s 0 0 (fA LM σ)) 70 [(0, .ref (σ 0)), (1, .int a1), (2, .int a2), (3, .int a3), (4, .int a4), (6, .int x6)] [] M := ⟨_, fun _ _ => Iff.rfl⟩
  have h := h R35 R70
  have z35 : ∀ M, qX7_hands_b35 a1 a2 a3 a4 post R35 R70 M → R35 M := by
    intro M h
    refine (e35 _).mpr (fun H locs ls hW hl => ?_)
    refine lv_iconst (v := 1) S.1 S.2.1 dX7_hands_35 rfl ?_
    refine lv_goto (tgt := 48) S.1 S.2.1 dX7_hands_36 (by decide) ?_
    refine lv_istore (lv' := [(5, .int (1 : Int32)), (0, .ref (σ 0)), (1, .int a1), (2, .int a2), (3, .int a3), (4, .int a4)]) S.1 S.2.1 dX7_hands_48 hl (by decide) rfl (fun ls hl => ?_)
    refine lv_iload S.1 S.2.1 dX7_hands_50 (lv_at hl 0 rfl) ?_
    refine lv_if_le (tgt := 62) S.1 S.2.1 dX7_hands_52 (by decide) (fun c13 => ?_) (fun c13 => ?_)
    · have h := h.1 c13
      refine lv_aload_n S.1 S.2.1 dX7_hands_62 rfl (lv_at hl 1 rfl) ?_
      refine lv_iconst (v := 0) S.1 S.2.1 dX7_hands_63 rfl ?_
      refine r_putI (j := 0) S hW inX7 rfl f105 rfl LM_0 (by decide) rfl tyX7 tyX7_ok nmX7 rfl rfl rfl dX7_hands_64 (fun M14 H locs eM14 hW => ?_)
      have h := h M14 eM14
      refine lv_iconst (v := 1) S.1 S.2.1 dX7_hands_67 rfl ?_
      refine lv_istore (lv' := [(6, .int (1 : Int32)), (5, .int (1 : Int32)), (0, .ref (σ 0)), (1, .int a1), (2, .int a2), (3, .int a3), (4, .int a4)]) S.1 S.2.1 dX7_hands_68 hl (by decide) rfl (fun ls hl => ?_)
      exact (e70 _ _).mp h H locs ls hW (lv_sub hl [2, 3, 4, 5, 6, 0] rfl)
    · have h := h.2 c13
      refine lv_aload_n S.1 S.2.1 dX7_hands_55 rfl (lv_at hl 1 rfl) ?_
      refine lv_iload S.1 S.2.1 dX7_hands_56 (lv_at hl 0 rfl) ?_
      refine r_goI (r_runV (rest := []) S hW (mX7_refuse l D T σ M (1 : Int32) _ h) w126 rfl LM_0 rfl hl.1 rfl (Nat.le_of_ble_eq_true rfl) dX7_hands_58 ⟨Nat.zero_le _, Nat.zero_le _⟩) hW (fun r15 M16 H locs h hW => ?_)
      exact r_iret S hr hlk hW h dX7_hands_61
  have z70 : ∀ x6 M, qX7_hands_b70 a1 a2 a3 a4 post R35 R70 x6 M → R70 x6 M := by
    intro x6 M h
    refine (e70 _ _).mpr (fun H locs ls hW hl => ?_)
    refine lv_iload S.1 S.2.1 dX7_hands_70 (lv_at hl 5 rfl) ?_
    refine lv_bipush (v := 20) S.1 S.2.1 dX7_hands_72 rfl ?_
    refine lv_icmp_gt (tgt := 104) S.1 S.2.1 dX7_hands_74 (by decide) (fun c17 => ?_) (fun c17 => ?_)
    · have h := h.1 c17
      refine lv_aload_n S.1 S.2.1 dX7_hands_104 rfl (lv_at hl 0 rfl) ?_
      refine lv_bipush (v := 7) S.1 S.2.1 dX7_hands_105 rfl ?_
      refine r_goI (r_runV (rest := []) S hW (mX7_refuse l D T σ M (7 : Int32) _ h) w126 rfl LM_0 rfl hl.1 rfl (Nat.le_of_ble_eq_true rfl) dX7_hands_107 ⟨Nat.zero_le _, Nat.zero_le _⟩) hW (fun r18 M19 H locs h hW => ?_)
      exact r_iret S hr hlk hW h dX7_hands_110
    · have h := h.2 c17
      refine lv_aload_n S.1 S.2.1 dX7_hands_77 rfl (lv_at hl 0 rfl) ?_
      refine lv_iload_n S.1 S.2.1 dX7_hands_78 rfl (lv_at hl 1 rfl) ?_
      refine lv_iload_n S.1 S.2.1 dX7_hands_79 rfl (lv_at hl 2 rfl) ?_
      refine lv_iload S.1 S.2.1 dX7_hands_80 (lv_at hl 5 rfl) ?_
      refine lv_iload_n S.1 S.2.1 dX7_hands_82 rfl (lv_at hl 3 rfl) ?_
      refine r_goV (r_runV (rest := []) S hW (mX7_step l D T σ M a1 a2 x6 a3 _ h) w217 rfl LM_0 rfl hl.1 rfl (Nat.le_of_ble_eq_true rfl) dX7_hands_83 ⟨Nat.zero_le _, Nat.zero_le _⟩) hW (fun M21 H locs h hW => ?_)
      refine lv_aload_n S.1 S.2.1 dX7_hands_86 rfl (lv_at hl 0 rfl) ?_
      refine r_getI (j := 30) S hW inX7 rfl f193 rfl LM_0 (by decide) rfl dX7_hands_87 ?_
      refine lv_iload S.1 S.2.1 dX7_hands_90 (lv_at hl 4 rfl) ?_
      refine lv_icmp_gt (tgt := 98) S.1 S.2.1 dX7_hands_92 (by decide) (fun c22 => ?_) (fun c22 => ?_)
      · have h := h.1 c22
        obtain ⟨v23, ev23⟩ : ∃ y : Int32, y = x6 + 1 := ⟨_, rfl⟩
        have h := h v23 ev23
        refine lv_iinc (v := v23) (lv' := [(6, .int v23), (0, .ref (σ 0)), (1, .int a1), (2, .int a2), (3, .int a3), (4, .int a4)]) S.1 S.2.1 dX7_hands_98 hl (k := 5) rfl (by rw [ev23]; rfl) (by decide) rfl (fun ls hl => ?_)
        refine lv_goto (tgt := 70) S.1 S.2.1 dX7_hands_101 (by decide) ?_
        exact (e70 _ _).mp h H locs ls hW (lv_sub hl [1, 2, 3, 4, 5, 0] rfl)
      · have h := h.2 c22
        refine lv_iload S.1 S.2.1 dX7_hands_95 (lv_at hl 5 rfl) ?_
        exact r_iret S hr hlk hW h dX7_hands_97
  have h := h z35 z70
  refine lv_iload_n S.1 S.2.1 dX7_hands_0 rfl (lv_at hl 2 rfl) ?_
  refine lv_iconst (v := 1) S.1 S.2.1 dX7_hands_1 rfl ?_
  refine lv_icmp_lt (tgt := 35) S.1 S.2.1 dX7_hands_2 (by decide) (fun c1 => ?_) (fun c1 => ?_)
  · have h := h.1 c1
    exact (e35  _).mp h H locs ls hW (lv_sub hl [0, 1, 2, 3, 4] rfl)
  · have h := h.2 c1
    refine lv_iload_n S.1 S.2.1 dX7_hands_5 rfl (lv_at hl 2 rfl) ?_
    refine lv_bipush (v := 64) S.1 S.2.1 dX7_hands_6 rfl ?_
    refine lv_icmp_gt (tgt := 35) S.1 S.2.1 dX7_hands_8 (by decide) (fun c2 => ?_) (fun c2 => ?_)
    · have h := h.1 c2
      exact (e35  _).mp h H locs ls hW (lv_sub hl [0, 1, 2, 3, 4] rfl)
    · have h := h.2 c2
      refine lv_iload_n S.1 S.2.1 dX7_hands_11 rfl (lv_at hl 3 rfl) ?_
      refine lv_iconst (v := 1) S.1 S.2.1 dX7_hands_12 rfl ?_
      refine lv_icmp_lt (tgt := 35) S.1 S.2.1 dX7_hands_13 (by decide) (fun c3 => ?_) (fun c3 => ?_)
      · have h := h.1 c3
        exact (e35  _).mp h H locs ls hW (lv_sub hl [0, 1, 2, 3, 4] rfl)
      · have h := h.2 c3
        refine lv_iload_n S.1 S.2.1 dX7_hands_16 rfl (lv_at hl 3 rfl) ?_
        refine lv_bipush (v := 100) S.1 S.2.1 dX7_hands_17 rfl ?_
        refine lv_icmp_gt (tgt := 35) S.1 S.2.1 dX7_hands_19 (by decide) (fun c4 => ?_) (fun c4 => ?_)
        · have h := h.1 c4
          exact (e35  _).mp h H locs ls hW (lv_sub hl [0, 1, 2, 3, 4] rfl)
        · have h := h.2 c4
          refine lv_iload S.1 S.2.1 dX7_hands_22 (lv_at hl 4 rfl) ?_
          refine lv_if_lt (tgt := 35) S.1 S.2.1 dX7_hands_24 (by decide) (fun c5 => ?_) (fun c5 => ?_)
          · have h := h.1 c5
            exact (e35  _).mp h H locs ls hW (lv_sub hl [0, 1, 2, 3, 4] rfl)
          · have h := h.2 c5
            refine lv_iload S.1 S.2.1 dX7_hands_27 (lv_at hl 4 rfl) ?_
            refine lv_sipush (v := 10000) S.1 S.2.1 dX7_hands_29 rfl ?_
            refine lv_icmp_le (tgt := 39) S.1 S.2.1 dX7_hands_32 (by decide) (fun c6 => ?_) (fun c6 => ?_)
            · have h := h.1 c6
              refine lv_aload_n S.1 S.2.1 dX7_hands_39 rfl (lv_at hl 0 rfl) ?_
              refine lv_iload_n S.1 S.2.1 dX7_hands_40 rfl (lv_at hl 1 rfl) ?_
              refine lv_iload_n S.1 S.2.1 dX7_hands_41 rfl (lv_at hl 2 rfl) ?_
              refine lv_ldc2 S.1 S.2.1 S.2.2.2.1 k211 dX7_hands_42 ?_
              refine r_goI (r_runV (rest := []) S hW (mX7_wrongNumbers l D T σ M a1 a2 (100 : Int64) _ h) w213 rfl LM_0 rfl hl.1 rfl (Nat.le_of_ble_eq_true rfl) dX7_hands_45 ⟨Nat.zero_le _, Nat.zero_le _⟩) hW (fun r7 M8 H locs h hW => ?_)
              refine lv_istore (lv' := [(5, .int r7), (0, .ref (σ 0)), (1, .int a1), (2, .int a2), (3, .int a3), (4, .int a4)]) S.1 S.2.1 dX7_hands_48 hl (by decide) rfl (fun ls hl => ?_)
              refine lv_iload S.1 S.2.1 dX7_hands_50 (lv_at hl 0 rfl) ?_
              refine lv_if_le (tgt := 62) S.1 S.2.1 dX7_hands_52 (by decide) (fun c9 => ?_) (fun c9 => ?_)
              · have h := h.1 c9
                refine lv_aload_n S.1 S.2.1 dX7_hands_62 rfl (lv_at hl 1 rfl) ?_
                refine lv_iconst (v := 0) S.1 S.2.1 dX7_hands_63 rfl ?_
                refine r_putI (j := 0) S hW inX7 rfl f105 rfl LM_0 (by decide) rfl tyX7 tyX7_ok nmX7 rfl rfl rfl dX7_hands_64 (fun M10 H locs eM10 hW => ?_)
                have h := h M10 eM10
                refine lv_iconst (v := 1) S.1 S.2.1 dX7_hands_67 rfl ?_
                refine lv_istore (lv' := [(6, .int (1 : Int32)), (5, .int r7), (0, .ref (σ 0)), (1, .int a1), (2, .int a2), (3, .int a3), (4, .int a4)]) S.1 S.2.1 dX7_hands_68 hl (by decide) rfl (fun ls hl => ?_)
                exact (e70 _ _).mp h H locs ls hW (lv_sub hl [2, 3, 4, 5, 6, 0] rfl)
              · have h := h.2 c9
                refine lv_aload_n S.1 S.2.1 dX7_hands_55 rfl (lv_at hl 1 rfl) ?_
                refine lv_iload S.1 S.2.1 dX7_hands_56 (lv_at hl 0 rfl) ?_
                refine r_goI (r_runV (rest := []) S hW (mX7_refuse l D T σ M8 r7 _ h) w126 rfl LM_0 rfl hl.1 rfl (Nat.le_of_ble_eq_true rfl) dX7_hands_58 ⟨Nat.zero_le _, Nat.zero_le _⟩) hW (fun r11 M12 H locs h hW => ?_)
                exact r_iret S hr hlk hW h dX7_hands_61
            · have h := h.2 c6
              exact (e35  _).mp h H locs ls hW (lv_sub hl [0, 1, 2, 3, 4] rfl)
abbrev rmX7_wanted : Room := { frames := 2, cells := 0, slots := 0, locals := 45 }
set_option maxHeartbeats 4000000 in
set_option maxRecDepth 100000 in
theorem mX7_wanted (l : Launch) (D : va_G) (T : Nat → ClassId) (σ : Nat → Nat) (M : Mem) (a1 : Int32) (post : Int32 → Mem → Prop) (h : qX7_wanted a1 M post) : Met l yX7_wanted wsX7_wanted rmX7_wanted (preW D T LM σ [.ref (σ 0), .int a1] M) (postI D T LM σ post) 0 0 (fA LM σ) := by
  refine m_of (cc := cX7_wanted) (maxL := 4) (ret := (some .boolean)) (own := RX7) (by decide) rfl rfl (Nat.le_of_ble_eq_true rfl) ?_
  intro p e s m args below meth c H ls locs S hr hlk hl hW
  have hl : lv_has ls 4 [(0, .ref (σ 0)), (1, .int a1)] := hl
  have k221 := S.2.2.2.2 (.constantLong RX7 221 (500)) (by decide +kernel)
  have w213 := cwV (R := rmX7_wanted) (rm := rmX7_wrongNumbers) (mc := 0) (ms := 0) 3 S.2.2.2.2 gX7_wanted_X7_wrongNumbers rfl rfl rfl (by decide +kernel) ⟨Nat.le_of_ble_eq_true rfl, Nat.le_of_ble_eq_true rfl⟩
  have w113 := cwV (R := rmX7_wanted) (rm := rmX7_is) (mc := 0) (ms := 0) 1 S.2.2.2.2 gX7_wanted_X7_is rfl rfl rfl (by decide +kernel) ⟨Nat.le_of_ble_eq_true rfl, Nat.le_of_ble_eq_true rfl⟩
  have inX7 : ∀ w ∈ u_ws RX7 TX7 42, w ∈ wsX7_wanted := by decide +kernel
  have f87 := S.2.2.2.2 (.fieldLink RX7 87 "MachineHallModel" "wanted" "[I") (by decide +kernel)
  have f16 := S.2.2.2.2 (.fieldLink RX7 16 "MachineHallModel" "sheets" "[J") (by decide +kernel)
  obtain ⟨R23, e23⟩ : ∃ R : Int32 → Mem → Prop, ∀ x3 M, R x3 M ↔ WW p l e rmX7_wanted s m args below meth c D T LM σ 4 (MQ below (postI D T LM σ post) args s 0 0 (fA LM σ)) 23 [(0, .ref (σ 0)), (1, .int a1), (3, .int x3)] [] M := ⟨_, fun _ _ => Iff.rfl⟩
  have h := h R23
  have z23 : ∀ x3 M, qX7_wanted_b23 a1 post R23 x3 M → R23 x3 M := by
    intro x3 M h
    refine (e23 _ _).mpr (fun H locs ls hW hl => ?_)
    refine lv_iload_n S.1 S.2.1 dX7_wanted_23 rfl (lv_at hl 2 rfl) ?_
    refine lv_bipush (v := 12) S.1 S.2.1 dX7_wanted_24 rfl ?_
    refine lv_icmp_ge (tgt := 53) S.1 S.2.1 dX7_wanted_26 (by decide) (fun c6 => ?_) (fun c6 => ?_)
    · have h := h.1 c6
      refine lv_aload_n S.1 S.2.1 dX7_wanted_53 rfl (lv_at hl 0 rfl) ?_
      refine lv_iconst (v := 0) S.1 S.2.1 dX7_wanted_54 rfl ?_
      refine r_goI (r_runV (rest := []) S hW (mX7_is l D T σ M (0 : Int32) _ h) w113 rfl LM_0 rfl hl.1 rfl (Nat.le_of_ble_eq_true rfl) dX7_wanted_55 ⟨Nat.zero_le _, Nat.zero_le _⟩) hW (fun r7 M8 H locs h hW => ?_)
      exact r_zret S hr hlk hW h.1 h.2 dX7_wanted_58
    · have h := h.2 c6
      refine lv_aload_n S.1 S.2.1 dX7_wanted_29 rfl (lv_at hl 0 rfl) ?_
      refine r_getR (j := 35) S hW inX7 rfl f87 rfl LM_0 (by decide) rfl dX7_wanted_30 ?_
      refine lv_iload_n S.1 S.2.1 dX7_wanted_33 rfl (lv_at hl 2 rfl) ?_
      refine lv_aload_n S.1 S.2.1 dX7_wanted_34 rfl (lv_at hl 0 rfl) ?_
      refine r_getR (j := 3) S hW inX7 rfl f16 rfl LM_0 (by decide) rfl dX7_wanted_35 ?_
      refine lv_bipush (v := 64) S.1 S.2.1 dX7_wanted_38 rfl ?_
      refine lv_iload_n S.1 S.2.1 dX7_wanted_40 rfl (lv_at hl 1 rfl) ?_
      refine lv_imul S.1 S.2.1 dX7_wanted_41 ?_
      refine lv_iload_n S.1 S.2.1 dX7_wanted_42 rfl (lv_at hl 2 rfl) ?_
      refine lv_iadd S.1 S.2.1 dX7_wanted_43 ?_
      have b9 := h.1
      have h := h.2
      refine r_lald S hW LM_3 b9 dX7_wanted_44 ?_
      refine lv_l2i S.1 S.2.1 dX7_wanted_45 rfl ?_
      have b10 := h.1
      have h := h.2
      refine r_iast S hW LM_26 b10 dX7_wanted_46 (fun M11 H locs eM11 hW => ?_)
      have h := h M11 eM11
      obtain ⟨v12, ev12⟩ : ∃ y : Int32, y = x3 + 1 := ⟨_, rfl⟩
      have h := h v12 ev12
      refine lv_iinc (v := v12) (lv' := [(3, .int v12), (0, .ref (σ 0)), (1, .int a1)]) S.1 S.2.1 dX7_wanted_47 hl (k := 2) rfl (by rw [ev12]; rfl) (by decide) rfl (fun ls hl => ?_)
      refine lv_goto (tgt := 23) S.1 S.2.1 dX7_wanted_50 (by decide) ?_
      exact (e23 _ _).mp h H locs ls hW (lv_sub hl [1, 2, 0] rfl)
  have h := h z23
  refine lv_aload_n S.1 S.2.1 dX7_wanted_0 rfl (lv_at hl 0 rfl) ?_
  refine lv_iload_n S.1 S.2.1 dX7_wanted_1 rfl (lv_at hl 1 rfl) ?_
  refine lv_bipush (v := 12) S.1 S.2.1 dX7_wanted_2 rfl ?_
  refine lv_ldc2 S.1 S.2.1 S.2.2.2.1 k221 dX7_wanted_4 ?_
  refine r_goI (r_runV (rest := []) S hW (mX7_wrongNumbers l D T σ M a1 (12 : Int32) (500 : Int64) _ h) w213 rfl LM_0 rfl hl.1 rfl (Nat.le_of_ble_eq_true rfl) dX7_wanted_7 ⟨Nat.zero_le _, Nat.zero_le _⟩) hW (fun r1 M2 H locs h hW => ?_)
  refine lv_istore_n (lv' := [(2, .int r1), (0, .ref (σ 0)), (1, .int a1)]) S.1 S.2.1 dX7_wanted_10 rfl hl (by decide) rfl (fun ls hl => ?_)
  refine lv_iload_n S.1 S.2.1 dX7_wanted_11 rfl (lv_at hl 0 rfl) ?_
  refine lv_if_le (tgt := 21) S.1 S.2.1 dX7_wanted_12 (by decide) (fun c3 => ?_) (fun c3 => ?_)
  · have h := h.1 c3
    refine lv_iconst (v := 0) S.1 S.2.1 dX7_wanted_21 rfl ?_
    refine lv_istore_n (lv' := [(3, .int (0 : Int32)), (2, .int r1), (0, .ref (σ 0)), (1, .int a1)]) S.1 S.2.1 dX7_wanted_22 rfl hl (by decide) rfl (fun ls hl => ?_)
    exact (e23 _ _).mp h H locs ls hW (lv_sub hl [2, 3, 0] rfl)
  · have h := h.2 c3
    refine lv_aload_n S.1 S.2.1 dX7_wanted_15 rfl (lv_at hl 1 rfl) ?_
    refine lv_iload_n S.1 S.2.1 dX7_wanted_16 rfl (lv_at hl 0 rfl) ?_
    refine r_goI (r_runV (rest := []) S hW (mX7_is l D T σ M2 r1 _ h) w113 rfl LM_0 rfl hl.1 rfl (Nat.le_of_ble_eq_true rfl) dX7_wanted_17 ⟨Nat.zero_le _, Nat.zero_le _⟩) hW (fun r4 M5 H locs h hW => ?_)
    exact r_zret S hr hlk hW h.1 h.2 dX7_wanted_20
abbrev rmX7_have : Room := { frames := 1, cells := 0, slots := 0, locals := 21 }
set_option maxHeartbeats 4000000 in
set_option maxRecDepth 100000 in
theorem mX7_have (l : Launch) (D : va_G) (T : Nat → ClassId) (σ : Nat → Nat) (M : Mem) (a1 : Int32) (post : Int32 → Mem → Prop) (h : qX7_have a1 M post) : Met l yX7_have wsX7_have rmX7_have (preW D T LM σ [.ref (σ 0), .int a1] M) (postI D T LM σ post) 0 0 (fA LM σ) := by
  refine m_of (cc := cX7_have) (maxL := 2) (ret := (some .boolean)) (own := RX7) (by decide) rfl rfl (Nat.le_of_ble_eq_true rfl) ?_
  intro p e s m args below meth c H ls locs S hr hlk hl hW
  have hl : lv_has ls 2 [(0, .ref (σ 0)), (1, .int a1)] := hl
  have w113 := cwV (R := rmX7_have) (rm := rmX7_is) (mc := 0) (ms := 0) 1 S.2.2.2.2 gX7_have_X7_is rfl rfl rfl (by decide +kernel) ⟨Nat.le_of_ble_eq_true rfl, Nat.le_of_ble_eq_true rfl⟩
  have inX7 : ∀ w ∈ u_ws RX7 TX7 42, w ∈ wsX7_have := by decide +kernel
  have f223 := S.2.2.2.2 (.fieldLink RX7 223 "MachineHallModel" "have" "I") (by decide +kernel)
  refine lv_iload_n S.1 S.2.1 dX7_have_0 rfl (lv_at hl 1 rfl) ?_
  refine lv_if_lt (tgt := 11) S.1 S.2.1 dX7_have_1 (by decide) (fun c1 => ?_) (fun c1 => ?_)
  · have h := h.1 c1
    refine lv_aload_n S.1 S.2.1 dX7_have_11 rfl (lv_at hl 0 rfl) ?_
    refine lv_iconst (v := 1) S.1 S.2.1 dX7_have_12 rfl ?_
    refine r_goI (r_runV (rest := []) S hW (mX7_is l D T σ M (1 : Int32) _ h) w113 rfl LM_0 rfl hl.1 rfl (Nat.le_of_ble_eq_true rfl) dX7_have_13 ⟨Nat.zero_le _, Nat.zero_le _⟩) hW (fun r2 M3 H locs h hW => ?_)
    exact r_zret S hr hlk hW h.1 h.2 dX7_have_16
  · have h := h.2 c1
    refine lv_iload_n S.1 S.2.1 dX7_have_4 rfl (lv_at hl 1 rfl) ?_
    refine lv_sipush (v := 500) S.1 S.2.1 dX7_have_5 rfl ?_
    refine lv_icmp_le (tgt := 17) S.1 S.2.1 dX7_have_8 (by decide) (fun c4 => ?_) (fun c4 => ?_)
    · have h := h.1 c4
      refine lv_aload_n S.1 S.2.1 dX7_have_17 rfl (lv_at hl 0 rfl) ?_
      refine lv_iload_n S.1 S.2.1 dX7_have_18 rfl (lv_at hl 1 rfl) ?_
      refine r_putI (j := 40) S hW inX7 rfl f223 rfl LM_0 (by decide) rfl tyX7 tyX7_ok nmX7 rfl rfl rfl dX7_have_19 (fun M5 H locs eM5 hW => ?_)
      have h := h M5 eM5
      refine lv_aload_n S.1 S.2.1 dX7_have_22 rfl (lv_at hl 0 rfl) ?_
      refine lv_iconst (v := 0) S.1 S.2.1 dX7_have_23 rfl ?_
      refine r_goI (r_runV (rest := []) S hW (mX7_is l D T σ M5 (0 : Int32) _ h) w113 rfl LM_0 rfl hl.1 rfl (Nat.le_of_ble_eq_true rfl) dX7_have_24 ⟨Nat.zero_le _, Nat.zero_le _⟩) hW (fun r6 M7 H locs h hW => ?_)
      exact r_zret S hr hlk hW h.1 h.2 dX7_have_27
    · have h := h.2 c4
      refine lv_aload_n S.1 S.2.1 dX7_have_11 rfl (lv_at hl 0 rfl) ?_
      refine lv_iconst (v := 1) S.1 S.2.1 dX7_have_12 rfl ?_
      refine r_goI (r_runV (rest := []) S hW (mX7_is l D T σ M (1 : Int32) _ h) w113 rfl LM_0 rfl hl.1 rfl (Nat.le_of_ble_eq_true rfl) dX7_have_13 ⟨Nat.zero_le _, Nat.zero_le _⟩) hW (fun r8 M9 H locs h hW => ?_)
      exact r_zret S hr hlk hW h.1 h.2 dX7_have_16
abbrev rmX7_type : Room := { frames := 2, cells := 0, slots := 0, locals := 45 }
set_option maxHeartbeats 4000000 in
set_option maxRecDepth 100000 in
theorem mX7_type (l : Launch) (D : va_G) (T : Nat → ClassId) (σ : Nat → Nat) (M : Mem) (a1 : Int32) (a2 : Int32) (a3 : Int32) (a4 : Int32) (post : Int32 → Mem → Prop) (h : qX7_type a1 a2 a3 a4 M post) : Met l yX7_type wsX7_type rmX7_type (preW D T LM σ [.ref (σ 0), .int a1, .int a2, .int a3, .int a4] M) (postI D T LM σ post) 0 0 (fA LM σ) := by
  refine m_of (cc := cX7_type) (maxL := 7) (ret := (some .int)) (own := RX7) (by decide) rfl rfl (Nat.le_of_ble_eq_true rfl) ?_
  intro p e s m args below meth c H ls locs S hr hlk hl hW
  have hl : lv_has ls 7 [(0, .ref (σ 0)), (1, .int a1), (2, .int a2), (3, .int a3), (4, .int a4)] := hl
  have k226 := S.2.2.2.2 (.constantLong RX7 226 (100000)) (by decide +kernel)
  have w213 := cwV (R := rmX7_type) (rm := rmX7_wrongNumbers) (mc := 0) (ms := 0) 3 S.2.2.2.2 gX7_type_X7_wrongNumbers rfl rfl rfl (by decide +kernel) ⟨Nat.le_of_ble_eq_true rfl, Nat.le_of_ble_eq_true rfl⟩
  have inX7 : ∀ w ∈ u_ws RX7 TX7 42, w ∈ wsX7_type := by decide +kernel
  have f146 := S.2.2.2.2 (.fieldLink RX7 146 "MachineHallModel" "types" "I") (by decide +kernel)
  have f90 := S.2.2.2.2 (.fieldLink RX7 90 "MachineHallModel" "typeSize" "[I") (by decide +kernel)
  have f93 := S.2.2.2.2 (.fieldLink RX7 93 "MachineHallModel" "lead" "[I") (by decide +kernel)
  have f96 := S.2.2.2.2 (.fieldLink RX7 96 "MachineHallModel" "power" "[I") (by decide +kernel)
  have w126 := cwV (R := rmX7_type) (rm := rmX7_refuse) (mc := 0) (ms := 0) 1 S.2.2.2.2 gX7_type_X7_refuse rfl rfl rfl (by decide +kernel) ⟨Nat.le_of_ble_eq_true rfl, Nat.le_of_ble_eq_true rfl⟩
  have f105 := S.2.2.2.2 (.fieldLink RX7 105 "MachineHallModel" "status" "I") (by decide +kernel)
  have f99 := S.2.2.2.2 (.fieldLink RX7 99 "MachineHallModel" "price" "[I") (by decide +kernel)
  have f16 := S.2.2.2.2 (.fieldLink RX7 16 "MachineHallModel" "sheets" "[J") (by decide +kernel)
  obtain ⟨R34, e34⟩ : ∃ R : Mem → Prop, ∀ M, R M ↔ WW p l e rmX7_type s m args below meth c D T LM σ 7 (MQ below (postI D T LM σ post) args s 0 0 (fA LM σ)) 34 [(0, .ref (σ 0)), (1, .int a1), (2, .int a2), (3, .int a3), (4, .int a4)] [] M := ⟨_, fun _ => Iff.rfl⟩
  obtain ⟨R66, e66⟩ : ∃ R : Int32 → Mem → Prop, ∀ x5 M, R x5 M ↔ WW p l e rmX7_type s m args below meth c D T LM σ 7 (MQ below (postI D T LM σ post) args s 0 0 (fA LM σ)) 66 [(0, .ref (σ 0)), (1, .int a1), (2, .int a2), (3, .int a3), (4, .int a4), (5, .int x5)] [] M := ⟨_, fun _ _ => Iff.rfl⟩
  obtain ⟨R112, e112⟩ : ∃ R : Int32 → Mem → Prop, ∀ x6 M, R x6 M ↔ WW p l e rmX7_type s m args below meth c D T LM σ 7 (MQ below (postI D T LM σ post) args s 0 0 (fA LM σ)) 112 [(0, .ref (σ 0)), (3, .int a3), (6, .int x6)] [] M := ⟨_, fun _ _ => Iff.rfl⟩
  have h := h R34 R66 R112
  have z34 : ∀ M, qX7_type_b34 a1 a2 a3 a4 post R34 R66 R112 M → R34 M := by
    intro M h
    refine (e34 _).mpr (fun H locs ls hW hl => ?_)
    refine lv_iconst (v := 1) S.1 S.2.1 dX7_type_34 rfl ?_
    refine lv_goto (tgt := 48) S.1 S.2.1 dX7_type_35 (by decide) ?_
    refine lv_istore (lv' := [(5, .int (1 : Int32)), (0, .ref (σ 0)), (1, .int a1), (2, .int a2), (3, .int a3), (4, .int a4)]) S.1 S.2.1 dX7_type_48 hl (by decide) rfl (fun ls hl => ?_)
    refine lv_iload S.1 S.2.1 dX7_type_50 (lv_at hl 0 rfl) ?_
    refine lv_if_ne (tgt := 66) S.1 S.2.1 dX7_type_52 (by decide) (fun c11 => ?_) (fun c11 => ?_)
    · have h := h.1 c11
      exact (e66 _ _).mp h H locs ls hW (lv_sub hl [1, 2, 3, 4, 5, 0] rfl)
    · have h := h.2 c11
      refine lv_aload_n S.1 S.2.1 dX7_type_55 rfl (lv_at hl 1 rfl) ?_
      refine r_getI (j := 7) S hW inX7 rfl f146 rfl LM_0 (by decide) rfl dX7_type_56 ?_
      refine lv_iconst (v := 4) S.1 S.2.1 dX7_type_59 rfl ?_
      refine lv_icmp_ne (tgt := 66) S.1 S.2.1 dX7_type_60 (by decide) (fun c12 => ?_) (fun c12 => ?_)
      · have h := h.1 c12
        exact (e66 _ _).mp h H locs ls hW (lv_sub hl [1, 2, 3, 4, 5, 0] rfl)
      · have h := h.2 c12
        refine lv_iconst (v := 4) S.1 S.2.1 dX7_type_63 rfl ?_
        refine lv_istore (lv' := [(5, .int (4 : Int32)), (0, .ref (σ 0)), (1, .int a1), (2, .int a2), (3, .int a3), (4, .int a4)]) S.1 S.2.1 dX7_type_64 hl (by decide) rfl (fun ls hl => ?_)
        exact (e66 _ _).mp h H locs ls hW (lv_sub hl [1, 2, 3, 4, 5, 0] rfl)
  have z66 : ∀ x5 M, qX7_type_b66 a1 a2 a3 a4 post R34 R66 R112 x5 M → R66 x5 M := by
    intro x5 M h
    refine (e66 _ _).mpr (fun H locs ls hW hl => ?_)
    refine lv_iload S.1 S.2.1 dX7_type_66 (lv_at hl 5 rfl) ?_
    refine lv_if_le (tgt := 78) S.1 S.2.1 dX7_type_68 (by decide) (fun c13 => ?_) (fun c13 => ?_)
    · have h := h.1 c13
      refine lv_aload_n S.1 S.2.1 dX7_type_78 rfl (lv_at hl 0 rfl) ?_
      refine r_getR (j := 36) S hW inX7 rfl f90 rfl LM_0 (by decide) rfl dX7_type_79 ?_
      refine lv_aload_n S.1 S.2.1 dX7_type_82 rfl (lv_at hl 0 rfl) ?_
      refine r_getI (j := 7) S hW inX7 rfl f146 rfl LM_0 (by decide) rfl dX7_type_83 ?_
      refine lv_iload_n S.1 S.2.1 dX7_type_86 rfl (lv_at hl 1 rfl) ?_
      have b14 := h.1
      have h := h.2
      refine r_iast S hW LM_27 b14 dX7_type_87 (fun M15 H locs eM15 hW => ?_)
      have h := h M15 eM15
      refine lv_aload_n S.1 S.2.1 dX7_type_88 rfl (lv_at hl 0 rfl) ?_
      refine r_getR (j := 37) S hW inX7 rfl f93 rfl LM_0 (by decide) rfl dX7_type_89 ?_
      refine lv_aload_n S.1 S.2.1 dX7_type_92 rfl (lv_at hl 0 rfl) ?_
      refine r_getI (j := 7) S hW inX7 rfl f146 rfl LM_0 (by decide) rfl dX7_type_93 ?_
      refine lv_iload_n S.1 S.2.1 dX7_type_96 rfl (lv_at hl 2 rfl) ?_
      have b16 := h.1
      have h := h.2
      refine r_iast S hW LM_28 b16 dX7_type_97 (fun M17 H locs eM17 hW => ?_)
      have h := h M17 eM17
      refine lv_aload_n S.1 S.2.1 dX7_type_98 rfl (lv_at hl 0 rfl) ?_
      refine r_getR (j := 38) S hW inX7 rfl f96 rfl LM_0 (by decide) rfl dX7_type_99 ?_
      refine lv_aload_n S.1 S.2.1 dX7_type_102 rfl (lv_at hl 0 rfl) ?_
      refine r_getI (j := 7) S hW inX7 rfl f146 rfl LM_0 (by decide) rfl dX7_type_103 ?_
      refine lv_iload S.1 S.2.1 dX7_type_106 (lv_at hl 4 rfl) ?_
      have b18 := h.1
      have h := h.2
      refine r_iast S hW LM_29 b18 dX7_type_108 (fun M19 H locs eM19 hW => ?_)
      have h := h M19 eM19
      refine lv_iconst (v := 0) S.1 S.2.1 dX7_type_109 rfl ?_
      refine lv_istore (lv' := [(6, .int (0 : Int32)), (0, .ref (σ 0)), (1, .int a1), (2, .int a2), (3, .int a3), (4, .int a4), (5, .int x5)]) S.1 S.2.1 dX7_type_110 hl (by decide) rfl (fun ls hl => ?_)
      exact (e112 _ _).mp h H locs ls hW (lv_sub hl [1, 4, 0] rfl)
    · have h := h.2 c13
      refine lv_aload_n S.1 S.2.1 dX7_type_71 rfl (lv_at hl 0 rfl) ?_
      refine lv_iload S.1 S.2.1 dX7_type_72 (lv_at hl 5 rfl) ?_
      refine r_goI (r_runV (rest := []) S hW (mX7_refuse l D T σ M x5 _ h) w126 rfl LM_0 rfl hl.1 rfl (Nat.le_of_ble_eq_true rfl) dX7_type_74 ⟨Nat.zero_le _, Nat.zero_le _⟩) hW (fun r20 M21 H locs h hW => ?_)
      exact r_iret S hr hlk hW h dX7_type_77
  have z112 : ∀ x6 M, qX7_type_b112 a1 a2 a3 a4 post R34 R66 R112 x6 M → R112 x6 M := by
    intro x6 M h
    refine (e112 _ _).mpr (fun H locs ls hW hl => ?_)
    refine lv_iload S.1 S.2.1 dX7_type_112 (lv_at hl 2 rfl) ?_
    refine lv_bipush (v := 12) S.1 S.2.1 dX7_type_114 rfl ?_
    refine lv_icmp_ge (tgt := 153) S.1 S.2.1 dX7_type_116 (by decide) (fun c22 => ?_) (fun c22 => ?_)
    · have h := h.1 c22
      refine lv_aload_n S.1 S.2.1 dX7_type_153 rfl (lv_at hl 0 rfl) ?_
      refine lv_dup S.1 S.2.1 dX7_type_154 rfl ?_
      refine r_getI (j := 7) S hW inX7 rfl f146 rfl LM_0 (by decide) rfl dX7_type_155 ?_
      refine lv_iconst (v := 1) S.1 S.2.1 dX7_type_158 rfl ?_
      refine lv_iadd S.1 S.2.1 dX7_type_159 ?_
      refine r_putI (j := 7) S hW inX7 rfl f146 rfl LM_0 (by decide) rfl tyX7 tyX7_ok nmX7 rfl rfl rfl dX7_type_160 (fun M23 H locs eM23 hW => ?_)
      have h := h M23 eM23
      refine lv_aload_n S.1 S.2.1 dX7_type_163 rfl (lv_at hl 0 rfl) ?_
      refine lv_iconst (v := 0) S.1 S.2.1 dX7_type_164 rfl ?_
      refine r_putI (j := 0) S hW inX7 rfl f105 rfl LM_0 (by decide) rfl tyX7 tyX7_ok nmX7 rfl rfl rfl dX7_type_165 (fun M24 H locs eM24 hW => ?_)
      have h := h M24 eM24
      refine lv_aload_n S.1 S.2.1 dX7_type_168 rfl (lv_at hl 0 rfl) ?_
      refine r_getI (j := 7) S hW inX7 rfl f146 rfl LM_0 (by decide) rfl dX7_type_169 ?_
      refine lv_iconst (v := 1) S.1 S.2.1 dX7_type_172 rfl ?_
      refine lv_isub S.1 S.2.1 dX7_type_173 ?_
      exact r_iret S hr hlk hW h dX7_type_174
    · have h := h.2 c22
      refine lv_aload_n S.1 S.2.1 dX7_type_119 rfl (lv_at hl 0 rfl) ?_
      refine r_getR (j := 39) S hW inX7 rfl f99 rfl LM_0 (by decide) rfl dX7_type_120 ?_
      refine lv_bipush (v := 12) S.1 S.2.1 dX7_type_123 rfl ?_
      refine lv_aload_n S.1 S.2.1 dX7_type_125 rfl (lv_at hl 0 rfl) ?_
      refine r_getI (j := 7) S hW inX7 rfl f146 rfl LM_0 (by decide) rfl dX7_type_126 ?_
      refine lv_imul S.1 S.2.1 dX7_type_129 ?_
      refine lv_iload S.1 S.2.1 dX7_type_130 (lv_at hl 2 rfl) ?_
      refine lv_iadd S.1 S.2.1 dX7_type_132 ?_
      refine lv_aload_n S.1 S.2.1 dX7_type_133 rfl (lv_at hl 0 rfl) ?_
      refine r_getR (j := 3) S hW inX7 rfl f16 rfl LM_0 (by decide) rfl dX7_type_134 ?_
      refine lv_bipush (v := 64) S.1 S.2.1 dX7_type_137 rfl ?_
      refine lv_iload_n S.1 S.2.1 dX7_type_139 rfl (lv_at hl 1 rfl) ?_
      refine lv_imul S.1 S.2.1 dX7_type_140 ?_
      refine lv_iload S.1 S.2.1 dX7_type_141 (lv_at hl 2 rfl) ?_
      refine lv_iadd S.1 S.2.1 dX7_type_143 ?_
      have b25 := h.1
      have h := h.2
      refine r_lald S hW LM_3 b25 dX7_type_144 ?_
      refine lv_l2i S.1 S.2.1 dX7_type_145 rfl ?_
      have b26 := h.1
      have h := h.2
      refine r_iast S hW LM_30 b26 dX7_type_146 (fun M27 H locs eM27 hW => ?_)
      have h := h M27 eM27
      obtain ⟨v28, ev28⟩ : ∃ y : Int32, y = x6 + 1 := ⟨_, rfl⟩
      have h := h v28 ev28
      refine lv_iinc (v := v28) (lv' := [(6, .int v28), (0, .ref (σ 0)), (3, .int a3)]) S.1 S.2.1 dX7_type_147 hl (k := 2) rfl (by rw [ev28]; rfl) (by decide) rfl (fun ls hl => ?_)
      refine lv_goto (tgt := 112) S.1 S.2.1 dX7_type_150 (by decide) ?_
      exact (e112 _ _).mp h H locs ls hW (lv_sub hl [1, 2, 0] rfl)
  have h := h z34 z66 z112
  refine lv_iload_n S.1 S.2.1 dX7_type_0 rfl (lv_at hl 1 rfl) ?_
  refine lv_iconst (v := 1) S.1 S.2.1 dX7_type_1 rfl ?_
  refine lv_icmp_lt (tgt := 34) S.1 S.2.1 dX7_type_2 (by decide) (fun c1 => ?_) (fun c1 => ?_)
  · have h := h.1 c1
    exact (e34  _).mp h H locs ls hW (lv_sub hl [0, 1, 2, 3, 4] rfl)
  · have h := h.2 c1
    refine lv_iload_n S.1 S.2.1 dX7_type_5 rfl (lv_at hl 1 rfl) ?_
    refine lv_bipush (v := 100) S.1 S.2.1 dX7_type_6 rfl ?_
    refine lv_icmp_gt (tgt := 34) S.1 S.2.1 dX7_type_8 (by decide) (fun c2 => ?_) (fun c2 => ?_)
    · have h := h.1 c2
      exact (e34  _).mp h H locs ls hW (lv_sub hl [0, 1, 2, 3, 4] rfl)
    · have h := h.2 c2
      refine lv_iload_n S.1 S.2.1 dX7_type_11 rfl (lv_at hl 2 rfl) ?_
      refine lv_if_lt (tgt := 34) S.1 S.2.1 dX7_type_12 (by decide) (fun c3 => ?_) (fun c3 => ?_)
      · have h := h.1 c3
        exact (e34  _).mp h H locs ls hW (lv_sub hl [0, 1, 2, 3, 4] rfl)
      · have h := h.2 c3
        refine lv_iload_n S.1 S.2.1 dX7_type_15 rfl (lv_at hl 2 rfl) ?_
        refine lv_bipush (v := 11) S.1 S.2.1 dX7_type_16 rfl ?_
        refine lv_icmp_gt (tgt := 34) S.1 S.2.1 dX7_type_18 (by decide) (fun c4 => ?_) (fun c4 => ?_)
        · have h := h.1 c4
          exact (e34  _).mp h H locs ls hW (lv_sub hl [0, 1, 2, 3, 4] rfl)
        · have h := h.2 c4
          refine lv_iload S.1 S.2.1 dX7_type_21 (lv_at hl 4 rfl) ?_
          refine lv_if_lt (tgt := 34) S.1 S.2.1 dX7_type_23 (by decide) (fun c5 => ?_) (fun c5 => ?_)
          · have h := h.1 c5
            exact (e34  _).mp h H locs ls hW (lv_sub hl [0, 1, 2, 3, 4] rfl)
          · have h := h.2 c5
            refine lv_iload S.1 S.2.1 dX7_type_26 (lv_at hl 4 rfl) ?_
            refine lv_sipush (v := 1000) S.1 S.2.1 dX7_type_28 rfl ?_
            refine lv_icmp_le (tgt := 38) S.1 S.2.1 dX7_type_31 (by decide) (fun c6 => ?_) (fun c6 => ?_)
            · have h := h.1 c6
              refine lv_aload_n S.1 S.2.1 dX7_type_38 rfl (lv_at hl 0 rfl) ?_
              refine lv_iload_n S.1 S.2.1 dX7_type_39 rfl (lv_at hl 3 rfl) ?_
              refine lv_bipush (v := 12) S.1 S.2.1 dX7_type_40 rfl ?_
              refine lv_ldc2 S.1 S.2.1 S.2.2.2.1 k226 dX7_type_42 ?_
              refine r_goI (r_runV (rest := []) S hW (mX7_wrongNumbers l D T σ M a3 (12 : Int32) (100000 : Int64) _ h) w213 rfl LM_0 rfl hl.1 rfl (Nat.le_of_ble_eq_true rfl) dX7_type_45 ⟨Nat.zero_le _, Nat.zero_le _⟩) hW (fun r7 M8 H locs h hW => ?_)
              refine lv_istore (lv' := [(5, .int r7), (0, .ref (σ 0)), (1, .int a1), (2, .int a2), (3, .int a3), (4, .int a4)]) S.1 S.2.1 dX7_type_48 hl (by decide) rfl (fun ls hl => ?_)
              refine lv_iload S.1 S.2.1 dX7_type_50 (lv_at hl 0 rfl) ?_
              refine lv_if_ne (tgt := 66) S.1 S.2.1 dX7_type_52 (by decide) (fun c9 => ?_) (fun c9 => ?_)
              · have h := h.1 c9
                exact (e66 _ _).mp h H locs ls hW (lv_sub hl [1, 2, 3, 4, 5, 0] rfl)
              · have h := h.2 c9
                refine lv_aload_n S.1 S.2.1 dX7_type_55 rfl (lv_at hl 1 rfl) ?_
                refine r_getI (j := 7) S hW inX7 rfl f146 rfl LM_0 (by decide) rfl dX7_type_56 ?_
                refine lv_iconst (v := 4) S.1 S.2.1 dX7_type_59 rfl ?_
                refine lv_icmp_ne (tgt := 66) S.1 S.2.1 dX7_type_60 (by decide) (fun c10 => ?_) (fun c10 => ?_)
                · have h := h.1 c10
                  exact (e66 _ _).mp h H locs ls hW (lv_sub hl [1, 2, 3, 4, 5, 0] rfl)
                · have h := h.2 c10
                  refine lv_iconst (v := 4) S.1 S.2.1 dX7_type_63 rfl ?_
                  refine lv_istore (lv' := [(5, .int (4 : Int32)), (0, .ref (σ 0)), (1, .int a1), (2, .int a2), (3, .int a3), (4, .int a4)]) S.1 S.2.1 dX7_type_64 hl (by decide) rfl (fun ls hl => ?_)
                  exact (e66 _ _).mp h H locs ls hW (lv_sub hl [1, 2, 3, 4, 5, 0] rfl)
            · have h := h.2 c6
              exact (e34  _).mp h H locs ls hW (lv_sub hl [0, 1, 2, 3, 4] rfl)
abbrev rmX7_at : Room := { frames := 0, cells := 0, slots := 0, locals := 0 }
set_option maxHeartbeats 4000000 in
set_option maxRecDepth 100000 in
theorem mX7_at (l : Launch) (D : va_G) (T : Nat → ClassId) (σ : Nat → Nat) (M : Mem) (a0 : Int32) (a1 : Int32) (a2 : Int32) (post : Int32 → Mem → Prop) (h : qX7_at a0 a1 a2 M post) : Met l yX7_at wsX7_at rmX7_at (preW D T LM σ [.int a0, .int a1, .int a2] M) (postI D T LM σ post) 0 0 (fA LM σ) := by
  refine m_of (cc := cX7_at) (maxL := 3) (ret := (some .int)) (own := RX7) (by decide) rfl rfl (Nat.le_of_ble_eq_true rfl) ?_
  intro p e s m args below meth c H ls locs S hr hlk hl hW
  have hl : lv_has ls 3 [(0, .int a0), (1, .int a1), (2, .int a2)] := hl
  refine lv_sipush (v := 501) S.1 S.2.1 dX7_at_0 rfl ?_
  refine lv_iconst (v := 4) S.1 S.2.1 dX7_at_3 rfl ?_
  refine lv_iload_n S.1 S.2.1 dX7_at_4 rfl (lv_at hl 0 rfl) ?_
  refine lv_imul S.1 S.2.1 dX7_at_5 ?_
  refine lv_iload_n S.1 S.2.1 dX7_at_6 rfl (lv_at hl 1 rfl) ?_
  refine lv_iadd S.1 S.2.1 dX7_at_7 ?_
  refine lv_imul S.1 S.2.1 dX7_at_8 ?_
  refine lv_iload_n S.1 S.2.1 dX7_at_9 rfl (lv_at hl 2 rfl) ?_
  refine lv_iadd S.1 S.2.1 dX7_at_10 ?_
  exact r_iret S hr hlk hW h dX7_at_11
abbrev rmX7_takes : Room := { frames := 0, cells := 0, slots := 0, locals := 0 }
set_option maxHeartbeats 4000000 in
set_option maxRecDepth 100000 in
theorem mX7_takes (l : Launch) (D : va_G) (T : Nat → ClassId) (σ : Nat → Nat) (M : Mem) (a1 : Int32) (a2 : Int32) (post : Int32 → Mem → Prop) (h : qX7_takes a1 a2 M post) : Met l yX7_takes wsX7_takes rmX7_takes (preW D T LM σ [.ref (σ 0), .int a1, .int a2] M) (postI D T LM σ post) 0 0 (fA LM σ) := by
  refine m_of (cc := cX7_takes) (maxL := 3) (ret := (some .int)) (own := RX7) (by decide) rfl rfl (Nat.le_of_ble_eq_true rfl) ?_
  intro p e s m args below meth c H ls locs S hr hlk hl hW
  have hl : lv_has ls 3 [(0, .ref (σ 0)), (1, .int a1), (2, .int a2)] := hl
  have inX7 : ∀ w ∈ u_ws RX7 TX7 42, w ∈ wsX7_takes := by decide +kernel
  have f99 := S.2.2.2.2 (.fieldLink RX7 99 "MachineHallModel" "price" "[I") (by decide +kernel)
  have f93 := S.2.2.2.2 (.fieldLink RX7 93 "MachineHallModel" "lead" "[I") (by decide +kernel)
  have f96 := S.2.2.2.2 (.fieldLink RX7 96 "MachineHallModel" "power" "[I") (by decide +kernel)
  refine lv_aload_n S.1 S.2.1 dX7_takes_0 rfl (lv_at hl 0 rfl) ?_
  refine r_getR (j := 39) S hW inX7 rfl f99 rfl LM_0 (by decide) rfl dX7_takes_1 ?_
  refine lv_bipush (v := 12) S.1 S.2.1 dX7_takes_4 rfl ?_
  refine lv_iload_n S.1 S.2.1 dX7_takes_6 rfl (lv_at hl 1 rfl) ?_
  refine lv_imul S.1 S.2.1 dX7_takes_7 ?_
  refine lv_iload_n S.1 S.2.1 dX7_takes_8 rfl (lv_at hl 2 rfl) ?_
  refine lv_iadd S.1 S.2.1 dX7_takes_9 ?_
  refine lv_aload_n S.1 S.2.1 dX7_takes_10 rfl (lv_at hl 0 rfl) ?_
  refine r_getR (j := 37) S hW inX7 rfl f93 rfl LM_0 (by decide) rfl dX7_takes_11 ?_
  refine lv_iload_n S.1 S.2.1 dX7_takes_14 rfl (lv_at hl 1 rfl) ?_
  have b1 := h.1
  have h := h.2
  refine r_iald S hW LM_28 b1 dX7_takes_15 ?_
  refine lv_isub S.1 S.2.1 dX7_takes_16 ?_
  have b2 := h.1
  have h := h.2
  refine r_iald S hW LM_30 b2 dX7_takes_17 ?_
  refine lv_aload_n S.1 S.2.1 dX7_takes_18 rfl (lv_at hl 0 rfl) ?_
  refine r_getR (j := 38) S hW inX7 rfl f96 rfl LM_0 (by decide) rfl dX7_takes_19 ?_
  refine lv_iload_n S.1 S.2.1 dX7_takes_22 rfl (lv_at hl 1 rfl) ?_
  have b3 := h.1
  have h := h.2
  refine r_iald S hW LM_29 b3 dX7_takes_23 ?_
  refine lv_bipush (v := 12) S.1 S.2.1 dX7_takes_24 rfl ?_
  refine lv_iload_n S.1 S.2.1 dX7_takes_26 rfl (lv_at hl 2 rfl) ?_
  refine lv_isub S.1 S.2.1 dX7_takes_27 ?_
  refine lv_imul S.1 S.2.1 dX7_takes_28 ?_
  refine lv_iadd S.1 S.2.1 dX7_takes_29 ?_
  exact r_iret S hr hlk hW h dX7_takes_30
abbrev rmX7_reckon : Room := { frames := 1, cells := 0, slots := 0, locals := 23 }
set_option maxHeartbeats 4000000 in
set_option maxRecDepth 100000 in
theorem mX7_reckon (l : Launch) (D : va_G) (T : Nat → ClassId) (σ : Nat → Nat) (M : Mem)  (post : Mem → Prop) (h : qX7_reckon M post) : Met l yX7_reckon wsX7_reckon rmX7_reckon (preW D T LM σ [.ref (σ 0)] M) (postV D T LM σ post) 0 0 (fA LM σ) := by
  refine m_of (cc := cX7_reckon) (maxL := 6) (ret := none) (own := RX7) (by decide) rfl rfl (Nat.le_of_ble_eq_true rfl) ?_
  intro p e s m args below meth c H ls locs S hr hlk hl hW
  have hl : lv_has ls 6 [(0, .ref (σ 0))] := hl
  have inX7 : ∀ w ∈ u_ws RX7 TX7 42, w ∈ wsX7_reckon := by decide +kernel
  have f102 := S.2.2.2.2 (.fieldLink RX7 102 "MachineHallModel" "least" "[I") (by decide +kernel)
  have w228 := va_cwS (R := rmX7_reckon) (rm := rmX7_at) (mc := 0) (ms := 0) 3 S.2.2.2.2 gX7_reckon_X7_at rfl rfl rfl (by decide +kernel) ⟨Nat.le_of_ble_eq_true rfl, Nat.le_of_ble_eq_true rfl⟩
  have f87 := S.2.2.2.2 (.fieldLink RX7 87 "MachineHallModel" "wanted" "[I") (by decide +kernel)
  have k231 := S.2.2.2.2 (.constant RX7 231 (2000000000)) (by decide +kernel)
  have f146 := S.2.2.2.2 (.fieldLink RX7 146 "MachineHallModel" "types" "I") (by decide +kernel)
  have f93 := S.2.2.2.2 (.fieldLink RX7 93 "MachineHallModel" "lead" "[I") (by decide +kernel)
  have f90 := S.2.2.2.2 (.fieldLink RX7 90 "MachineHallModel" "typeSize" "[I") (by decide +kernel)
  have l174 := S.2.2.2.2 (.methodLink RX7 174 Lib.Math.min.name) (by decide +kernel)
  have smin := S.2.2.2.2 (.static Lib.Math.min.name) (by decide +kernel)
  have omin := S.2.2.2.2 (.code Lib.Math.min.name Lib.Math.min.code 2 (some .int)) (by decide +kernel)
  have iMath := S.2.2.2.2 (.initialized "java/lang/Math") (by decide +kernel)
  have w232 := cwV (R := rmX7_reckon) (rm := rmX7_takes) (mc := 0) (ms := 0) 2 S.2.2.2.2 gX7_reckon_X7_takes rfl rfl rfl (by decide +kernel) ⟨Nat.le_of_ble_eq_true rfl, Nat.le_of_ble_eq_true rfl⟩
  obtain ⟨R2, e2⟩ : ∃ R : Int32 → Mem → Prop, ∀ x1 M, R x1 M ↔ WW p l e rmX7_reckon s m args below meth c D T LM σ 6 (MQ below (postV D T LM σ post) args s 0 0 (fA LM σ)) 2 [(0, .ref (σ 0)), (1, .int x1)] [] M := ⟨_, fun _ _ => Iff.rfl⟩
  obtain ⟨R31, e31⟩ : ∃ R : Int32 → Mem → Prop, ∀ x1 M, R x1 M ↔ WW p l e rmX7_reckon s m args below meth c D T LM σ 6 (MQ below (postV D T LM σ post) args s 0 0 (fA LM σ)) 31 [(0, .ref (σ 0)), (1, .int x1)] [] M := ⟨_, fun _ _ => Iff.rfl⟩
  obtain ⟨R37, e37⟩ : ∃ R : Int32 → Int32 → Mem → Prop, ∀ x1 x2 M, R x1 x2 M ↔ WW p l e rmX7_reckon s m args below meth c D T LM σ 6 (MQ below (postV D T LM σ post) args s 0 0 (fA LM σ)) 37 [(0, .ref (σ 0)), (1, .int x1), (2, .int x2)] [] M := ⟨_, fun _ _ _ => Iff.rfl⟩
  obtain ⟨R45, e45⟩ : ∃ R : Int32 → Int32 → Int32 → Mem → Prop, ∀ x1 x2 x3 M, R x1 x2 x3 M ↔ WW p l e rmX7_reckon s m args below meth c D T LM σ 6 (MQ below (postV D T LM σ post) args s 0 0 (fA LM σ)) 45 [(0, .ref (σ 0)), (1, .int x1), (2, .int x2), (3, .int x3)] [] M := ⟨_, fun _ _ _ _ => Iff.rfl⟩
  obtain ⟨R98, e98⟩ : ∃ R : Int32 → Int32 → Int32 → Int32 → Mem → Prop, ∀ x1 x2 x3 s0 M, R x1 x2 x3 s0 M ↔ WW p l e rmX7_reckon s m args below meth c D T LM σ 6 (MQ below (postV D T LM σ post) args s 0 0 (fA LM σ)) 98 [(0, .ref (σ 0)), (1, .int x1), (2, .int x2), (3, .int x3)] [.int s0] M := ⟨_, fun _ _ _ _ _ => Iff.rfl⟩
  obtain ⟨R174, e174⟩ : ∃ R : Int32 → Int32 → Int32 → Int32 → Mem → Prop, ∀ x1 x2 x3 x4 M, R x1 x2 x3 x4 M ↔ WW p l e rmX7_reckon s m args below meth c D T LM σ 6 (MQ below (postV D T LM σ post) args s 0 0 (fA LM σ)) 174 [(0, .ref (σ 0)), (1, .int x1), (2, .int x2), (3, .int x3), (4, .int x4)] [] M := ⟨_, fun _ _ _ _ _ => Iff.rfl⟩
  have h := h R2 R31 R37 R45 R98 R174
  have z2 : ∀ x1 M, qX7_reckon_b2 post R2 R31 R37 R45 R98 R174 x1 M → R2 x1 M := by
    intro x1 M h
    refine (e2 _ _).mpr (fun H locs ls hW hl => ?_)
    refine lv_iload_n S.1 S.2.1 dX7_reckon_2 rfl (lv_at hl 1 rfl) ?_
    refine lv_sipush (v := 500) S.1 S.2.1 dX7_reckon_3 rfl ?_
    refine lv_icmp_gt (tgt := 28) S.1 S.2.1 dX7_reckon_6 (by decide) (fun c1 => ?_) (fun c1 => ?_)
    · have h := h.1 c1
      refine lv_bipush (v := 11) S.1 S.2.1 dX7_reckon_28 rfl ?_
      refine lv_istore_n (lv' := [(1, .int (11 : Int32)), (0, .ref (σ 0))]) S.1 S.2.1 dX7_reckon_30 rfl hl (by decide) rfl (fun ls hl => ?_)
      exact (e31 _ _).mp h H locs ls hW (lv_sub hl [1, 0] rfl)
    · have h := h.2 c1
      refine lv_aload_n S.1 S.2.1 dX7_reckon_9 rfl (lv_at hl 0 rfl) ?_
      refine r_getR (j := 41) S hW inX7 rfl f102 rfl LM_0 (by decide) rfl dX7_reckon_10 ?_
      refine lv_bipush (v := 12) S.1 S.2.1 dX7_reckon_13 rfl ?_
      refine lv_iconst (v := 0) S.1 S.2.1 dX7_reckon_15 rfl ?_
      refine lv_iload_n S.1 S.2.1 dX7_reckon_16 rfl (lv_at hl 1 rfl) ?_
      refine r_goI (r_runS (rest := [.ref (σ 31)]) S hW (mX7_at l D T σ M (12 : Int32) (0 : Int32) x1 _ h) w228 rfl hl.1 rfl (Nat.le_of_ble_eq_true rfl) dX7_reckon_17 ⟨Nat.zero_le _, Nat.zero_le _⟩) hW (fun r2 M3 H locs h hW => ?_)
      refine lv_iconst (v := 0) S.1 S.2.1 dX7_reckon_20 rfl ?_
      have b4 := h.1
      have h := h.2
      refine r_iast S hW LM_31 b4 dX7_reckon_21 (fun M5 H locs eM5 hW => ?_)
      have h := h M5 eM5
      obtain ⟨v6, ev6⟩ : ∃ y : Int32, y = x1 + 1 := ⟨_, rfl⟩
      have h := h v6 ev6
      refine lv_iinc (v := v6) (lv' := [(1, .int v6), (0, .ref (σ 0))]) S.1 S.2.1 dX7_reckon_22 hl (k := 1) rfl (by rw [ev6]; rfl) (by decide) rfl (fun ls hl => ?_)
      refine lv_goto (tgt := 2) S.1 S.2.1 dX7_reckon_25 (by decide) ?_
      exact (e2 _ _).mp h H locs ls hW (lv_sub hl [1, 0] rfl)
  have z31 : ∀ x1 M, qX7_reckon_b31 post R2 R31 R37 R45 R98 R174 x1 M → R31 x1 M := by
    intro x1 M h
    refine (e31 _ _).mpr (fun H locs ls hW hl => ?_)
    refine lv_iload_n S.1 S.2.1 dX7_reckon_31 rfl (lv_at hl 1 rfl) ?_
    refine lv_if_lt (tgt := 205) S.1 S.2.1 dX7_reckon_32 (by decide) (fun c7 => ?_) (fun c7 => ?_)
    · have h := h.1 c7
      exact r_vret S hr hlk hW h dX7_reckon_205
    · have h := h.2 c7
      refine lv_iconst (v := 3) S.1 S.2.1 dX7_reckon_35 rfl ?_
      refine lv_istore_n (lv' := [(2, .int (3 : Int32)), (0, .ref (σ 0)), (1, .int x1)]) S.1 S.2.1 dX7_reckon_36 rfl hl (by decide) rfl (fun ls hl => ?_)
      exact (e37 _ _ _).mp h H locs ls hW (lv_sub hl [1, 2, 0] rfl)
  have z37 : ∀ x1 x2 M, qX7_reckon_b37 post R2 R31 R37 R45 R98 R174 x1 x2 M → R37 x1 x2 M := by
    intro x1 x2 M h
    refine (e37 _ _ _).mpr (fun H locs ls hW hl => ?_)
    refine lv_iload_n S.1 S.2.1 dX7_reckon_37 rfl (lv_at hl 2 rfl) ?_
    refine lv_if_lt (tgt := 199) S.1 S.2.1 dX7_reckon_38 (by decide) (fun c8 => ?_) (fun c8 => ?_)
    · have h := h.1 c8
      obtain ⟨v9, ev9⟩ : ∃ y : Int32, y = x1 + (-1) := ⟨_, rfl⟩
      have h := h v9 ev9
      refine lv_iinc (v := v9) (lv' := [(1, .int v9), (0, .ref (σ 0)), (2, .int x2)]) S.1 S.2.1 dX7_reckon_199 hl (k := 1) rfl (by rw [ev9]; rfl) (by decide) rfl (fun ls hl => ?_)
      refine lv_goto (tgt := 31) S.1 S.2.1 dX7_reckon_202 (by decide) ?_
      exact (e31 _ _).mp h H locs ls hW (lv_sub hl [1, 0] rfl)
    · have h := h.2 c8
      refine lv_sipush (v := 500) S.1 S.2.1 dX7_reckon_41 rfl ?_
      refine lv_istore_n (lv' := [(3, .int (500 : Int32)), (0, .ref (σ 0)), (1, .int x1), (2, .int x2)]) S.1 S.2.1 dX7_reckon_44 rfl hl (by decide) rfl (fun ls hl => ?_)
      exact (e45 _ _ _ _).mp h H locs ls hW (lv_sub hl [1, 2, 3, 0] rfl)
  have z45 : ∀ x1 x2 x3 M, qX7_reckon_b45 post R2 R31 R37 R45 R98 R174 x1 x2 x3 M → R45 x1 x2 x3 M := by
    intro x1 x2 x3 M h
    refine (e45 _ _ _ _).mpr (fun H locs ls hW hl => ?_)
    refine lv_iload_n S.1 S.2.1 dX7_reckon_45 rfl (lv_at hl 3 rfl) ?_
    refine lv_if_lt (tgt := 193) S.1 S.2.1 dX7_reckon_46 (by decide) (fun c10 => ?_) (fun c10 => ?_)
    · have h := h.1 c10
      obtain ⟨v11, ev11⟩ : ∃ y : Int32, y = x2 + (-1) := ⟨_, rfl⟩
      have h := h v11 ev11
      refine lv_iinc (v := v11) (lv' := [(2, .int v11), (0, .ref (σ 0)), (1, .int x1), (3, .int x3)]) S.1 S.2.1 dX7_reckon_193 hl (k := 2) rfl (by rw [ev11]; rfl) (by decide) rfl (fun ls hl => ?_)
      refine lv_goto (tgt := 37) S.1 S.2.1 dX7_reckon_196 (by decide) ?_
      exact (e37 _ _ _).mp h H locs ls hW (lv_sub hl [1, 2, 0] rfl)
    · have h := h.2 c10
      refine lv_iload_n S.1 S.2.1 dX7_reckon_49 rfl (lv_at hl 2 rfl) ?_
      refine lv_iconst (v := 3) S.1 S.2.1 dX7_reckon_50 rfl ?_
      refine lv_icmp_ge (tgt := 70) S.1 S.2.1 dX7_reckon_51 (by decide) (fun c12 => ?_) (fun c12 => ?_)
      · have h := h.1 c12
        refine lv_iload_n S.1 S.2.1 dX7_reckon_70 rfl (lv_at hl 3 rfl) ?_
        refine lv_aload_n S.1 S.2.1 dX7_reckon_71 rfl (lv_at hl 0 rfl) ?_
        refine r_getR (j := 35) S hW inX7 rfl f87 rfl LM_0 (by decide) rfl dX7_reckon_72 ?_
        refine lv_iload_n S.1 S.2.1 dX7_reckon_75 rfl (lv_at hl 1 rfl) ?_
        have b13 := h.1
        have h := h.2
        refine r_iald S hW LM_26 b13 dX7_reckon_76 ?_
        refine lv_icmp_lt (tgt := 96) S.1 S.2.1 dX7_reckon_77 (by decide) (fun c14 => ?_) (fun c14 => ?_)
        · have h := h.1 c14
          refine lv_ldc S.1 S.2.1 S.2.2.2.1 k231 dX7_reckon_96 ?_
          exact (e98 _ _ _ _ _).mp h H locs ls hW (lv_sub hl [0, 1, 2, 3] rfl)
        · have h := h.2 c14
          refine lv_aload_n S.1 S.2.1 dX7_reckon_80 rfl (lv_at hl 0 rfl) ?_
          refine r_getR (j := 41) S hW inX7 rfl f102 rfl LM_0 (by decide) rfl dX7_reckon_81 ?_
          refine lv_iload_n S.1 S.2.1 dX7_reckon_84 rfl (lv_at hl 1 rfl) ?_
          refine lv_iconst (v := 1) S.1 S.2.1 dX7_reckon_85 rfl ?_
          refine lv_iadd S.1 S.2.1 dX7_reckon_86 ?_
          refine lv_iconst (v := 0) S.1 S.2.1 dX7_reckon_87 rfl ?_
          refine lv_iload_n S.1 S.2.1 dX7_reckon_88 rfl (lv_at hl 3 rfl) ?_
          refine r_goI (r_runS (rest := [.ref (σ 31)]) S hW (mX7_at l D T σ M (x1 + (1 : Int32)) (0 : Int32) x3 _ h) w228 rfl hl.1 rfl (Nat.le_of_ble_eq_true rfl) dX7_reckon_89 ⟨Nat.zero_le _, Nat.zero_le _⟩) hW (fun r15 M16 H locs h hW => ?_)
          have b17 := h.1
          have h := h.2
          refine r_iald S hW LM_31 b17 dX7_reckon_92 ?_
          refine lv_goto (tgt := 98) S.1 S.2.1 dX7_reckon_93 (by decide) ?_
          exact (e98 _ _ _ _ _).mp h H locs ls hW (lv_sub hl [0, 1, 2, 3] rfl)
      · have h := h.2 c12
        refine lv_aload_n S.1 S.2.1 dX7_reckon_54 rfl (lv_at hl 0 rfl) ?_
        refine r_getR (j := 41) S hW inX7 rfl f102 rfl LM_0 (by decide) rfl dX7_reckon_55 ?_
        refine lv_iload_n S.1 S.2.1 dX7_reckon_58 rfl (lv_at hl 1 rfl) ?_
        refine lv_iload_n S.1 S.2.1 dX7_reckon_59 rfl (lv_at hl 2 rfl) ?_
        refine lv_iconst (v := 1) S.1 S.2.1 dX7_reckon_60 rfl ?_
        refine lv_iadd S.1 S.2.1 dX7_reckon_61 ?_
        refine lv_iload_n S.1 S.2.1 dX7_reckon_62 rfl (lv_at hl 3 rfl) ?_
        refine r_goI (r_runS (rest := [.ref (σ 31)]) S hW (mX7_at l D T σ M x1 (x2 + (1 : Int32)) x3 _ h) w228 rfl hl.1 rfl (Nat.le_of_ble_eq_true rfl) dX7_reckon_63 ⟨Nat.zero_le _, Nat.zero_le _⟩) hW (fun r18 M19 H locs h hW => ?_)
        have b20 := h.1
        have h := h.2
        refine r_iald S hW LM_31 b20 dX7_reckon_66 ?_
        refine lv_goto (tgt := 98) S.1 S.2.1 dX7_reckon_67 (by decide) ?_
        exact (e98 _ _ _ _ _).mp h H locs ls hW (lv_sub hl [0, 1, 2, 3] rfl)
  have z98 : ∀ x1 x2 x3 s0 M, qX7_reckon_b98 post R2 R31 R37 R45 R98 R174 x1 x2 x3 s0 M → R98 x1 x2 x3 s0 M := by
    intro x1 x2 x3 s0 M h
    refine (e98 _ _ _ _ _).mpr (fun H locs ls hW hl => ?_)
    refine lv_istore (lv' := [(4, .int s0), (0, .ref (σ 0)), (1, .int x1), (2, .int x2), (3, .int x3)]) S.1 S.2.1 dX7_reckon_98 hl (by decide) rfl (fun ls hl => ?_)
    refine lv_iload_n S.1 S.2.1 dX7_reckon_100 rfl (lv_at hl 3 rfl) ?_
    refine lv_aload_n S.1 S.2.1 dX7_reckon_101 rfl (lv_at hl 1 rfl) ?_
    refine r_getI (j := 7) S hW inX7 rfl f146 rfl LM_0 (by decide) rfl dX7_reckon_102 ?_
    refine lv_icmp_ge (tgt := 174) S.1 S.2.1 dX7_reckon_105 (by decide) (fun c21 => ?_) (fun c21 => ?_)
    · have h := h.1 c21
      exact (e174 _ _ _ _ _).mp h H locs ls hW (lv_sub hl [1, 2, 3, 4, 0] rfl)
    · have h := h.2 c21
      refine lv_iload_n S.1 S.2.1 dX7_reckon_108 rfl (lv_at hl 2 rfl) ?_
      refine lv_aload_n S.1 S.2.1 dX7_reckon_109 rfl (lv_at hl 1 rfl) ?_
      refine r_getR (j := 37) S hW inX7 rfl f93 rfl LM_0 (by decide) rfl dX7_reckon_110 ?_
      refine lv_iload_n S.1 S.2.1 dX7_reckon_113 rfl (lv_at hl 3 rfl) ?_
      have b22 := h.1
      have h := h.2
      refine r_iald S hW LM_28 b22 dX7_reckon_114 ?_
      refine lv_icmp_lt (tgt := 174) S.1 S.2.1 dX7_reckon_115 (by decide) (fun c23 => ?_) (fun c23 => ?_)
      · have h := h.1 c23
        exact (e174 _ _ _ _ _).mp h H locs ls hW (lv_sub hl [1, 2, 3, 4, 0] rfl)
      · have h := h.2 c23
        refine lv_iload_n S.1 S.2.1 dX7_reckon_118 rfl (lv_at hl 4 rfl) ?_
        refine lv_sipush (v := 500) S.1 S.2.1 dX7_reckon_119 rfl ?_
        refine lv_icmp_ge (tgt := 174) S.1 S.2.1 dX7_reckon_122 (by decide) (fun c24 => ?_) (fun c24 => ?_)
        · have h := h.1 c24
          exact (e174 _ _ _ _ _).mp h H locs ls hW (lv_sub hl [1, 2, 3, 4, 0] rfl)
        · have h := h.2 c24
          refine lv_aload_n S.1 S.2.1 dX7_reckon_125 rfl (lv_at hl 1 rfl) ?_
          refine r_getR (j := 41) S hW inX7 rfl f102 rfl LM_0 (by decide) rfl dX7_reckon_126 ?_
          refine lv_iload_n S.1 S.2.1 dX7_reckon_129 rfl (lv_at hl 2 rfl) ?_
          refine lv_iload_n S.1 S.2.1 dX7_reckon_130 rfl (lv_at hl 3 rfl) ?_
          refine lv_sipush (v := 500) S.1 S.2.1 dX7_reckon_131 rfl ?_
          refine lv_iload_n S.1 S.2.1 dX7_reckon_134 rfl (lv_at hl 4 rfl) ?_
          refine lv_aload_n S.1 S.2.1 dX7_reckon_135 rfl (lv_at hl 1 rfl) ?_
          refine r_getR (j := 36) S hW inX7 rfl f90 rfl LM_0 (by decide) rfl dX7_reckon_136 ?_
          refine lv_iload_n S.1 S.2.1 dX7_reckon_139 rfl (lv_at hl 3 rfl) ?_
          have b25 := h.1
          have h := h.2
          refine r_iald S hW LM_27 b25 dX7_reckon_140 ?_
          refine lv_iadd S.1 S.2.1 dX7_reckon_141 ?_
          refine r_min S hl.1 l174 smin iMath omin (Nat.le_of_ble_eq_true rfl) (Nat.le_of_ble_eq_true rfl) (Nat.zero_le _) (Nat.zero_le _) dX7_reckon_142 ?_
          refine r_goI (r_runS (rest := [.ref (σ 31)]) S hW (mX7_at l D T σ M x1 x2 (jmin (500 : Int32) (x3 + (M.1 27 x2.toNatClampNeg))) _ h) w228 rfl hl.1 rfl (Nat.le_of_ble_eq_true rfl) dX7_reckon_145 ⟨Nat.zero_le _, Nat.zero_le _⟩) hW (fun r26 M27 H locs h hW => ?_)
          have b28 := h.1
          have h := h.2
          refine r_iald S hW LM_31 b28 dX7_reckon_148 ?_
          refine lv_topi (fun v29 ev29 => ?_)
          have h := h v29 ev29
          refine lv_istore (lv' := [(5, .int v29), (4, .int s0), (0, .ref (σ 0)), (1, .int x1), (2, .int x2), (3, .int x3)]) S.1 S.2.1 dX7_reckon_149 hl (by decide) rfl (fun ls hl => ?_)
          refine lv_iload S.1 S.2.1 dX7_reckon_151 (lv_at hl 0 rfl) ?_
          refine lv_ldc S.1 S.2.1 S.2.2.2.1 k231 dX7_reckon_153 ?_
          refine lv_icmp_ge (tgt := 174) S.1 S.2.1 dX7_reckon_155 (by decide) (fun c30 => ?_) (fun c30 => ?_)
          · have h := h.1 c30
            exact (e174 _ _ _ _ _).mp h H locs ls hW (lv_sub hl [2, 3, 4, 5, 1] rfl)
          · have h := h.2 c30
            refine lv_iload S.1 S.2.1 dX7_reckon_158 (lv_at hl 1 rfl) ?_
            refine lv_iload S.1 S.2.1 dX7_reckon_160 (lv_at hl 0 rfl) ?_
            refine lv_aload_n S.1 S.2.1 dX7_reckon_162 rfl (lv_at hl 2 rfl) ?_
            refine lv_iload_n S.1 S.2.1 dX7_reckon_163 rfl (lv_at hl 4 rfl) ?_
            refine lv_iload_n S.1 S.2.1 dX7_reckon_164 rfl (lv_at hl 3 rfl) ?_
            refine r_goI (r_runV (rest := [.int v29, .int s0]) S hW (mX7_takes l D T σ M27 x2 x1 _ h) w232 rfl LM_0 rfl hl.1 rfl (Nat.le_of_ble_eq_true rfl) dX7_reckon_165 ⟨Nat.zero_le _, Nat.zero_le _⟩) hW (fun r31 M32 H locs h hW => ?_)
            refine lv_iadd S.1 S.2.1 dX7_reckon_168 ?_
            refine r_min S hl.1 l174 smin iMath omin (Nat.le_of_ble_eq_true rfl) (Nat.le_of_ble_eq_true rfl) (Nat.zero_le _) (Nat.zero_le _) dX7_reckon_169 ?_
            refine lv_topi (fun v33 ev33 => ?_)
            have h := h v33 ev33
            refine lv_istore (lv' := [(4, .int v33), (5, .int v29), (0, .ref (σ 0)), (1, .int x1), (2, .int x2), (3, .int x3)]) S.1 S.2.1 dX7_reckon_172 hl (by decide) rfl (fun ls hl => ?_)
            exact (e174 _ _ _ _ _).mp h H locs ls hW (lv_sub hl [2, 3, 4, 5, 0] rfl)
  have z174 : ∀ x1 x2 x3 x4 M, qX7_reckon_b174 post R2 R31 R37 R45 R98 R174 x1 x2 x3 x4 M → R174 x1 x2 x3 x4 M := by
    intro x1 x2 x3 x4 M h
    refine (e174 _ _ _ _ _).mpr (fun H locs ls hW hl => ?_)
    refine lv_aload_n S.1 S.2.1 dX7_reckon_174 rfl (lv_at hl 0 rfl) ?_
    refine r_getR (j := 41) S hW inX7 rfl f102 rfl LM_0 (by decide) rfl dX7_reckon_175 ?_
    refine lv_iload_n S.1 S.2.1 dX7_reckon_178 rfl (lv_at hl 1 rfl) ?_
    refine lv_iload_n S.1 S.2.1 dX7_reckon_179 rfl (lv_at hl 2 rfl) ?_
    refine lv_iload_n S.1 S.2.1 dX7_reckon_180 rfl (lv_at hl 3 rfl) ?_
    refine r_goI (r_runS (rest := [.ref (σ 31)]) S hW (mX7_at l D T σ M x1 x2 x3 _ h) w228 rfl hl.1 rfl (Nat.le_of_ble_eq_true rfl) dX7_reckon_181 ⟨Nat.zero_le _, Nat.zero_le _⟩) hW (fun r34 M35 H locs h hW => ?_)
    refine lv_iload S.1 S.2.1 dX7_reckon_184 (lv_at hl 4 rfl) ?_
    have b36 := h.1
    have h := h.2
    refine r_iast S hW LM_31 b36 dX7_reckon_186 (fun M37 H locs eM37 hW => ?_)
    have h := h M37 eM37
    obtain ⟨v38, ev38⟩ : ∃ y : Int32, y = x3 + (-1) := ⟨_, rfl⟩
    have h := h v38 ev38
    refine lv_iinc (v := v38) (lv' := [(3, .int v38), (0, .ref (σ 0)), (1, .int x1), (2, .int x2), (4, .int x4)]) S.1 S.2.1 dX7_reckon_187 hl (k := 3) rfl (by rw [ev38]; rfl) (by decide) rfl (fun ls hl => ?_)
    refine lv_goto (tgt := 45) S.1 S.2.1 dX7_reckon_190 (by decide) ?_
    exact (e45 _ _ _ _).mp h H locs ls hW (lv_sub hl [1, 2, 3, 0] rfl)
  have h := h z2 z31 z37 z45 z98 z174
  refine lv_iconst (v := 0) S.1 S.2.1 dX7_reckon_0 rfl ?_
  refine lv_istore_n (lv' := [(1, .int (0 : Int32)), (0, .ref (σ 0))]) S.1 S.2.1 dX7_reckon_1 rfl hl (by decide) rfl (fun ls hl => ?_)
  exact (e2 _ _).mp h H locs ls hW (lv_sub hl [1, 0] rfl)
abbrev rmX7_cheapest : Room := { frames := 2, cells := 0, slots := 0, locals := 48 }
set_option maxHeartbeats 4000000 in
set_option maxRecDepth 100000 in
theorem mX7_cheapest (l : Launch) (D : va_G) (T : Nat → ClassId) (σ : Nat → Nat) (M : Mem)  (post : Int32 → Mem → Prop) (h : qX7_cheapest M post) : Met l yX7_cheapest wsX7_cheapest rmX7_cheapest (preW D T LM σ [.ref (σ 0)] M) (postI D T LM σ post) 0 0 (fA LM σ) := by
  refine m_of (cc := cX7_cheapest) (maxL := 2) (ret := (some .int)) (own := RX7) (by decide) rfl rfl (Nat.le_of_ble_eq_true rfl) ?_
  intro p e s m args below meth c H ls locs S hr hlk hl hW
  have hl : lv_has ls 2 [(0, .ref (σ 0))] := hl
  have w235 := cwV (R := rmX7_cheapest) (rm := rmX7_reckon) (mc := 0) (ms := 0) 0 S.2.2.2.2 gX7_cheapest_X7_reckon rfl rfl rfl (by decide +kernel) ⟨Nat.le_of_ble_eq_true rfl, Nat.le_of_ble_eq_true rfl⟩
  have inX7 : ∀ w ∈ u_ws RX7 TX7 42, w ∈ wsX7_cheapest := by decide +kernel
  have f102 := S.2.2.2.2 (.fieldLink RX7 102 "MachineHallModel" "least" "[I") (by decide +kernel)
  have f223 := S.2.2.2.2 (.fieldLink RX7 223 "MachineHallModel" "have" "I") (by decide +kernel)
  have w228 := va_cwS (R := rmX7_cheapest) (rm := rmX7_at) (mc := 0) (ms := 0) 3 S.2.2.2.2 gX7_cheapest_X7_at rfl rfl rfl (by decide +kernel) ⟨Nat.le_of_ble_eq_true rfl, Nat.le_of_ble_eq_true rfl⟩
  have k231 := S.2.2.2.2 (.constant RX7 231 (2000000000)) (by decide +kernel)
  have f105 := S.2.2.2.2 (.fieldLink RX7 105 "MachineHallModel" "status" "I") (by decide +kernel)
  have w126 := cwV (R := rmX7_cheapest) (rm := rmX7_refuse) (mc := 0) (ms := 0) 1 S.2.2.2.2 gX7_cheapest_X7_refuse rfl rfl rfl (by decide +kernel) ⟨Nat.le_of_ble_eq_true rfl, Nat.le_of_ble_eq_true rfl⟩
  refine lv_aload_n S.1 S.2.1 dX7_cheapest_0 rfl (lv_at hl 0 rfl) ?_
  refine r_goV (r_runV (rest := []) S hW (mX7_reckon l D T σ M _ h) w235 rfl LM_0 rfl hl.1 rfl (Nat.le_of_ble_eq_true rfl) dX7_cheapest_1 ⟨Nat.zero_le _, Nat.zero_le _⟩) hW (fun M2 H locs h hW => ?_)
  refine lv_aload_n S.1 S.2.1 dX7_cheapest_4 rfl (lv_at hl 0 rfl) ?_
  refine r_getR (j := 41) S hW inX7 rfl f102 rfl LM_0 (by decide) rfl dX7_cheapest_5 ?_
  refine lv_iconst (v := 0) S.1 S.2.1 dX7_cheapest_8 rfl ?_
  refine lv_iconst (v := 0) S.1 S.2.1 dX7_cheapest_9 rfl ?_
  refine lv_aload_n S.1 S.2.1 dX7_cheapest_10 rfl (lv_at hl 0 rfl) ?_
  refine r_getI (j := 40) S hW inX7 rfl f223 rfl LM_0 (by decide) rfl dX7_cheapest_11 ?_
  refine r_goI (r_runS (rest := [.ref (σ 31)]) S hW (mX7_at l D T σ M2 (0 : Int32) (0 : Int32) (M2.1 0 40) _ h) w228 rfl hl.1 rfl (Nat.le_of_ble_eq_true rfl) dX7_cheapest_14 ⟨Nat.zero_le _, Nat.zero_le _⟩) hW (fun r3 M4 H locs h hW => ?_)
  have b5 := h.1
  have h := h.2
  refine r_iald S hW LM_31 b5 dX7_cheapest_17 ?_
  refine lv_topi (fun v6 ev6 => ?_)
  have h := h v6 ev6
  refine lv_istore_n (lv' := [(1, .int v6), (0, .ref (σ 0))]) S.1 S.2.1 dX7_cheapest_18 rfl hl (by decide) rfl (fun ls hl => ?_)
  refine lv_iload_n S.1 S.2.1 dX7_cheapest_19 rfl (lv_at hl 0 rfl) ?_
  refine lv_ldc S.1 S.2.1 S.2.2.2.1 k231 dX7_cheapest_20 ?_
  refine lv_icmp_ne (tgt := 32) S.1 S.2.1 dX7_cheapest_22 (by decide) (fun c7 => ?_) (fun c7 => ?_)
  · have h := h.1 c7
    refine lv_aload_n S.1 S.2.1 dX7_cheapest_32 rfl (lv_at hl 1 rfl) ?_
    refine lv_iconst (v := 0) S.1 S.2.1 dX7_cheapest_33 rfl ?_
    refine r_putI (j := 0) S hW inX7 rfl f105 rfl LM_0 (by decide) rfl tyX7 tyX7_ok nmX7 rfl rfl rfl dX7_cheapest_34 (fun M8 H locs eM8 hW => ?_)
    have h := h M8 eM8
    refine lv_iload_n S.1 S.2.1 dX7_cheapest_37 rfl (lv_at hl 0 rfl) ?_
    exact r_iret S hr hlk hW h dX7_cheapest_38
  · have h := h.2 c7
    refine lv_aload_n S.1 S.2.1 dX7_cheapest_25 rfl (lv_at hl 1 rfl) ?_
    refine lv_bipush (v := 7) S.1 S.2.1 dX7_cheapest_26 rfl ?_
    refine r_goI (r_runV (rest := []) S hW (mX7_refuse l D T σ M4 (7 : Int32) _ h) w126 rfl LM_0 rfl hl.1 rfl (Nat.le_of_ble_eq_true rfl) dX7_cheapest_28 ⟨Nat.zero_le _, Nat.zero_le _⟩) hW (fun r9 M10 H locs h hW => ?_)
    exact r_iret S hr hlk hW h dX7_cheapest_31
abbrev rmX7_buys : Room := { frames := 2, cells := 0, slots := 0, locals := 48 }
set_option maxHeartbeats 4000000 in
set_option maxRecDepth 100000 in
theorem mX7_buys (l : Launch) (D : va_G) (T : Nat → ClassId) (σ : Nat → Nat) (M : Mem) (a1 : Int32) (a2 : Int32) (post : Int32 → Mem → Prop) (h : qX7_buys a1 a2 M post) : Met l yX7_buys wsX7_buys rmX7_buys (preW D T LM σ [.ref (σ 0), .int a1, .int a2] M) (postI D T LM σ post) 0 0 (fA LM σ) := by
  refine m_of (cc := cX7_buys) (maxL := 7) (ret := (some .int)) (own := RX7) (by decide) rfl rfl (Nat.le_of_ble_eq_true rfl) ?_
  intro p e s m args below meth c H ls locs S hr hlk hl hW
  have hl : lv_has ls 7 [(0, .ref (σ 0)), (1, .int a1), (2, .int a2)] := hl
  have w126 := cwV (R := rmX7_buys) (rm := rmX7_refuse) (mc := 0) (ms := 0) 1 S.2.2.2.2 gX7_buys_X7_refuse rfl rfl rfl (by decide +kernel) ⟨Nat.le_of_ble_eq_true rfl, Nat.le_of_ble_eq_true rfl⟩
  have inX7 : ∀ w ∈ u_ws RX7 TX7 42, w ∈ wsX7_buys := by decide +kernel
  have f146 := S.2.2.2.2 (.fieldLink RX7 146 "MachineHallModel" "types" "I") (by decide +kernel)
  have w235 := cwV (R := rmX7_buys) (rm := rmX7_reckon) (mc := 0) (ms := 0) 0 S.2.2.2.2 gX7_buys_X7_reckon rfl rfl rfl (by decide +kernel) ⟨Nat.le_of_ble_eq_true rfl, Nat.le_of_ble_eq_true rfl⟩
  have f102 := S.2.2.2.2 (.fieldLink RX7 102 "MachineHallModel" "least" "[I") (by decide +kernel)
  have f223 := S.2.2.2.2 (.fieldLink RX7 223 "MachineHallModel" "have" "I") (by decide +kernel)
  have w228 := va_cwS (R := rmX7_buys) (rm := rmX7_at) (mc := 0) (ms := 0) 3 S.2.2.2.2 gX7_buys_X7_at rfl rfl rfl (by decide +kernel) ⟨Nat.le_of_ble_eq_true rfl, Nat.le_of_ble_eq_true rfl⟩
  have k231 := S.2.2.2.2 (.constant RX7 231 (2000000000)) (by decide +kernel)
  have f105 := S.2.2.2.2 (.fieldLink RX7 105 "MachineHallModel" "status" "I") (by decide +kernel)
  have f87 := S.2.2.2.2 (.fieldLink RX7 87 "MachineHallModel" "wanted" "[I") (by decide +kernel)
  have f90 := S.2.2.2.2 (.fieldLink RX7 90 "MachineHallModel" "typeSize" "[I") (by decide +kernel)
  have l174 := S.2.2.2.2 (.methodLink RX7 174 Lib.Math.min.name) (by decide +kernel)
  have smin := S.2.2.2.2 (.static Lib.Math.min.name) (by decide +kernel)
  have omin := S.2.2.2.2 (.code Lib.Math.min.name Lib.Math.min.code 2 (some .int)) (by decide +kernel)
  have iMath := S.2.2.2.2 (.initialized "java/lang/Math") (by decide +kernel)
  obtain ⟨R71, e71⟩ : ∃ R : Int32 → Int32 → Mem → Prop, ∀ x3 x4 M, R x3 x4 M ↔ WW p l e rmX7_buys s m args below meth c D T LM σ 7 (MQ below (postI D T LM σ post) args s 0 0 (fA LM σ)) 71 [(0, .ref (σ 0)), (1, .int a1), (2, .int a2), (3, .int x3), (4, .int x4)] [] M := ⟨_, fun _ _ _ => Iff.rfl⟩
  obtain ⟨R81, e81⟩ : ∃ R : Int32 → Int32 → Int32 → Mem → Prop, ∀ x3 x4 x5 M, R x3 x4 x5 M ↔ WW p l e rmX7_buys s m args below meth c D T LM σ 7 (MQ below (postI D T LM σ post) args s 0 0 (fA LM σ)) 81 [(0, .ref (σ 0)), (1, .int a1), (2, .int a2), (3, .int x3), (4, .int x4), (5, .int x5)] [] M := ⟨_, fun _ _ _ _ => Iff.rfl⟩
  obtain ⟨R90, e90⟩ : ∃ R : Int32 → Int32 → Int32 → Int32 → Mem → Prop, ∀ x3 x4 x5 x6 M, R x3 x4 x5 x6 M ↔ WW p l e rmX7_buys s m args below meth c D T LM σ 7 (MQ below (postI D T LM σ post) args s 0 0 (fA LM σ)) 90 [(0, .ref (σ 0)), (1, .int a1), (2, .int a2), (3, .int x3), (4, .int x4), (5, .int x5), (6, .int x6)] [] M := ⟨_, fun _ _ _ _ _ => Iff.rfl⟩
  obtain ⟨R157, e157⟩ : ∃ R : Int32 → Int32 → Int32 → Int32 → Int32 → Int32 → Mem → Prop, ∀ x3 x4 x5 x6 s0 s1 M, R x3 x4 x5 x6 s0 s1 M ↔ WW p l e rmX7_buys s m args below meth c D T LM σ 7 (MQ below (postI D T LM σ post) args s 0 0 (fA LM σ)) 157 [(0, .ref (σ 0)), (1, .int a1), (2, .int a2), (3, .int x3), (4, .int x4), (5, .int x5), (6, .int x6)] [.int s0, .int s1] M := ⟨_, fun _ _ _ _ _ _ _ => Iff.rfl⟩
  have h := h R71 R81 R90 R157
  have z71 : ∀ x3 x4 M, qX7_buys_b71 a1 a2 post R71 R81 R90 R157 x3 x4 M → R71 x3 x4 M := by
    intro x3 x4 M h
    refine (e71 _ _ _).mpr (fun H locs ls hW hl => ?_)
    refine lv_iload S.1 S.2.1 dX7_buys_71 (lv_at hl 4 rfl) ?_
    refine lv_bipush (v := 12) S.1 S.2.1 dX7_buys_73 rfl ?_
    refine lv_icmp_ge (tgt := 209) S.1 S.2.1 dX7_buys_75 (by decide) (fun c23 => ?_) (fun c23 => ?_)
    · have h := h.1 c23
      refine lv_iconst (v := -1) S.1 S.2.1 dX7_buys_209 rfl ?_
      exact r_iret S hr hlk hW h dX7_buys_210
    · have h := h.2 c23
      refine lv_iconst (v := 0) S.1 S.2.1 dX7_buys_78 rfl ?_
      refine lv_istore (lv' := [(5, .int (0 : Int32)), (0, .ref (σ 0)), (1, .int a1), (2, .int a2), (3, .int x3), (4, .int x4)]) S.1 S.2.1 dX7_buys_79 hl (by decide) rfl (fun ls hl => ?_)
      exact (e81 _ _ _ _).mp h H locs ls hW (lv_sub hl [1, 2, 3, 4, 5, 0] rfl)
  have z81 : ∀ x3 x4 x5 M, qX7_buys_b81 a1 a2 post R71 R81 R90 R157 x3 x4 x5 M → R81 x3 x4 x5 M := by
    intro x3 x4 x5 M h
    refine (e81 _ _ _ _).mpr (fun H locs ls hW hl => ?_)
    refine lv_iload S.1 S.2.1 dX7_buys_81 (lv_at hl 5 rfl) ?_
    refine lv_iconst (v := 4) S.1 S.2.1 dX7_buys_83 rfl ?_
    refine lv_icmp_ge (tgt := 203) S.1 S.2.1 dX7_buys_84 (by decide) (fun c24 => ?_) (fun c24 => ?_)
    · have h := h.1 c24
      obtain ⟨v25, ev25⟩ : ∃ y : Int32, y = x4 + 1 := ⟨_, rfl⟩
      have h := h v25 ev25
      refine lv_iinc (v := v25) (lv' := [(4, .int v25), (0, .ref (σ 0)), (1, .int a1), (2, .int a2), (3, .int x3), (5, .int x5)]) S.1 S.2.1 dX7_buys_203 hl (k := 4) rfl (by rw [ev25]; rfl) (by decide) rfl (fun ls hl => ?_)
      refine lv_goto (tgt := 71) S.1 S.2.1 dX7_buys_206 (by decide) ?_
      exact (e71 _ _ _).mp h H locs ls hW (lv_sub hl [1, 2, 3, 4, 0] rfl)
    · have h := h.2 c24
      refine lv_iconst (v := 0) S.1 S.2.1 dX7_buys_87 rfl ?_
      refine lv_istore (lv' := [(6, .int (0 : Int32)), (0, .ref (σ 0)), (1, .int a1), (2, .int a2), (3, .int x3), (4, .int x4), (5, .int x5)]) S.1 S.2.1 dX7_buys_88 hl (by decide) rfl (fun ls hl => ?_)
      exact (e90 _ _ _ _ _).mp h H locs ls hW (lv_sub hl [1, 2, 3, 4, 5, 6, 0] rfl)
  have z90 : ∀ x3 x4 x5 x6 M, qX7_buys_b90 a1 a2 post R71 R81 R90 R157 x3 x4 x5 x6 M → R90 x3 x4 x5 x6 M := by
    intro x3 x4 x5 x6 M h
    refine (e90 _ _ _ _ _).mpr (fun H locs ls hW hl => ?_)
    refine lv_aload_n S.1 S.2.1 dX7_buys_90 rfl (lv_at hl 0 rfl) ?_
    refine r_getR (j := 41) S hW inX7 rfl f102 rfl LM_0 (by decide) rfl dX7_buys_91 ?_
    refine lv_iload S.1 S.2.1 dX7_buys_94 (lv_at hl 4 rfl) ?_
    refine lv_iload S.1 S.2.1 dX7_buys_96 (lv_at hl 5 rfl) ?_
    refine lv_iload_n S.1 S.2.1 dX7_buys_98 rfl (lv_at hl 3 rfl) ?_
    refine r_goI (r_runS (rest := [.ref (σ 31)]) S hW (mX7_at l D T σ M x4 x5 x3 _ h) w228 rfl hl.1 rfl (Nat.le_of_ble_eq_true rfl) dX7_buys_99 ⟨Nat.zero_le _, Nat.zero_le _⟩) hW (fun r26 M27 H locs h hW => ?_)
    have b28 := h.1
    have h := h.2
    refine r_iald S hW LM_31 b28 dX7_buys_102 ?_
    refine lv_iload S.1 S.2.1 dX7_buys_103 (lv_at hl 5 rfl) ?_
    refine lv_iconst (v := 3) S.1 S.2.1 dX7_buys_105 rfl ?_
    refine lv_icmp_ge (tgt := 127) S.1 S.2.1 dX7_buys_106 (by decide) (fun c29 => ?_) (fun c29 => ?_)
    · have h := h.1 c29
      refine lv_iload_n S.1 S.2.1 dX7_buys_127 rfl (lv_at hl 3 rfl) ?_
      refine lv_aload_n S.1 S.2.1 dX7_buys_128 rfl (lv_at hl 0 rfl) ?_
      refine r_getR (j := 35) S hW inX7 rfl f87 rfl LM_0 (by decide) rfl dX7_buys_129 ?_
      refine lv_iload S.1 S.2.1 dX7_buys_132 (lv_at hl 4 rfl) ?_
      have b30 := h.1
      have h := h.2
      refine r_iald S hW LM_26 b30 dX7_buys_134 ?_
      refine lv_icmp_lt (tgt := 155) S.1 S.2.1 dX7_buys_135 (by decide) (fun c31 => ?_) (fun c31 => ?_)
      · have h := h.1 c31
        refine lv_ldc S.1 S.2.1 S.2.2.2.1 k231 dX7_buys_155 ?_
        exact (e157 _ _ _ _ _ _ _).mp h H locs ls hW (lv_sub hl [0, 1, 2, 3, 4, 5, 6] rfl)
      · have h := h.2 c31
        refine lv_aload_n S.1 S.2.1 dX7_buys_138 rfl (lv_at hl 0 rfl) ?_
        refine r_getR (j := 41) S hW inX7 rfl f102 rfl LM_0 (by decide) rfl dX7_buys_139 ?_
        refine lv_iload S.1 S.2.1 dX7_buys_142 (lv_at hl 4 rfl) ?_
        refine lv_iconst (v := 1) S.1 S.2.1 dX7_buys_144 rfl ?_
        refine lv_iadd S.1 S.2.1 dX7_buys_145 ?_
        refine lv_iconst (v := 0) S.1 S.2.1 dX7_buys_146 rfl ?_
        refine lv_iload_n S.1 S.2.1 dX7_buys_147 rfl (lv_at hl 3 rfl) ?_
        refine r_goI (r_runS (rest := [.ref (σ 31), .int (M27.1 31 r26.toNatClampNeg)]) S hW (mX7_at l D T σ M27 (x4 + (1 : Int32)) (0 : Int32) x3 _ h) w228 rfl hl.1 rfl (Nat.le_of_ble_eq_true rfl) dX7_buys_148 ⟨Nat.zero_le _, Nat.zero_le _⟩) hW (fun r32 M33 H locs h hW => ?_)
        have b34 := h.1
        have h := h.2
        refine r_iald S hW LM_31 b34 dX7_buys_151 ?_
        refine lv_goto (tgt := 157) S.1 S.2.1 dX7_buys_152 (by decide) ?_
        exact (e157 _ _ _ _ _ _ _).mp h H locs ls hW (lv_sub hl [0, 1, 2, 3, 4, 5, 6] rfl)
    · have h := h.2 c29
      refine lv_aload_n S.1 S.2.1 dX7_buys_109 rfl (lv_at hl 0 rfl) ?_
      refine r_getR (j := 41) S hW inX7 rfl f102 rfl LM_0 (by decide) rfl dX7_buys_110 ?_
      refine lv_iload S.1 S.2.1 dX7_buys_113 (lv_at hl 4 rfl) ?_
      refine lv_iload S.1 S.2.1 dX7_buys_115 (lv_at hl 5 rfl) ?_
      refine lv_iconst (v := 1) S.1 S.2.1 dX7_buys_117 rfl ?_
      refine lv_iadd S.1 S.2.1 dX7_buys_118 ?_
      refine lv_iload_n S.1 S.2.1 dX7_buys_119 rfl (lv_at hl 3 rfl) ?_
      refine r_goI (r_runS (rest := [.ref (σ 31), .int (M27.1 31 r26.toNatClampNeg)]) S hW (mX7_at l D T σ M27 x4 (x5 + (1 : Int32)) x3 _ h) w228 rfl hl.1 rfl (Nat.le_of_ble_eq_true rfl) dX7_buys_120 ⟨Nat.zero_le _, Nat.zero_le _⟩) hW (fun r35 M36 H locs h hW => ?_)
      have b37 := h.1
      have h := h.2
      refine r_iald S hW LM_31 b37 dX7_buys_123 ?_
      refine lv_goto (tgt := 157) S.1 S.2.1 dX7_buys_124 (by decide) ?_
      exact (e157 _ _ _ _ _ _ _).mp h H locs ls hW (lv_sub hl [0, 1, 2, 3, 4, 5, 6] rfl)
  have z157 : ∀ x3 x4 x5 x6 s0 s1 M, qX7_buys_b157 a1 a2 post R71 R81 R90 R157 x3 x4 x5 x6 s0 s1 M → R157 x3 x4 x5 x6 s0 s1 M := by
    intro x3 x4 x5 x6 s0 s1 M h
    refine (e157 _ _ _ _ _ _ _).mpr (fun H locs ls hW hl => ?_)
    refine lv_icmp_ge (tgt := 182) S.1 S.2.1 dX7_buys_157 (by decide) (fun c38 => ?_) (fun c38 => ?_)
    · have h := h.1 c38
      refine lv_iload S.1 S.2.1 dX7_buys_182 (lv_at hl 4 rfl) ?_
      refine lv_iload_n S.1 S.2.1 dX7_buys_184 rfl (lv_at hl 1 rfl) ?_
      refine lv_icmp_ne (tgt := 197) S.1 S.2.1 dX7_buys_185 (by decide) (fun c39 => ?_) (fun c39 => ?_)
      · have h := h.1 c39
        obtain ⟨v40, ev40⟩ : ∃ y : Int32, y = x5 + 1 := ⟨_, rfl⟩
        have h := h v40 ev40
        refine lv_iinc (v := v40) (lv' := [(5, .int v40), (0, .ref (σ 0)), (1, .int a1), (2, .int a2), (3, .int x3), (4, .int x4), (6, .int x6)]) S.1 S.2.1 dX7_buys_197 hl (k := 5) rfl (by rw [ev40]; rfl) (by decide) rfl (fun ls hl => ?_)
        refine lv_goto (tgt := 81) S.1 S.2.1 dX7_buys_200 (by decide) ?_
        exact (e81 _ _ _ _).mp h H locs ls hW (lv_sub hl [1, 2, 3, 4, 5, 0] rfl)
      · have h := h.2 c39
        refine lv_iload S.1 S.2.1 dX7_buys_188 (lv_at hl 5 rfl) ?_
        refine lv_iload_n S.1 S.2.1 dX7_buys_190 rfl (lv_at hl 2 rfl) ?_
        refine lv_icmp_ne (tgt := 197) S.1 S.2.1 dX7_buys_191 (by decide) (fun c41 => ?_) (fun c41 => ?_)
        · have h := h.1 c41
          obtain ⟨v42, ev42⟩ : ∃ y : Int32, y = x5 + 1 := ⟨_, rfl⟩
          have h := h v42 ev42
          refine lv_iinc (v := v42) (lv' := [(5, .int v42), (0, .ref (σ 0)), (1, .int a1), (2, .int a2), (3, .int x3), (4, .int x4), (6, .int x6)]) S.1 S.2.1 dX7_buys_197 hl (k := 5) rfl (by rw [ev42]; rfl) (by decide) rfl (fun ls hl => ?_)
          refine lv_goto (tgt := 81) S.1 S.2.1 dX7_buys_200 (by decide) ?_
          exact (e81 _ _ _ _).mp h H locs ls hW (lv_sub hl [1, 2, 3, 4, 5, 0] rfl)
        · have h := h.2 c41
          refine lv_iload S.1 S.2.1 dX7_buys_194 (lv_at hl 6 rfl) ?_
          exact r_iret S hr hlk hW h dX7_buys_196
    · have h := h.2 c38
      refine lv_sipush (v := 500) S.1 S.2.1 dX7_buys_160 rfl ?_
      refine lv_iload_n S.1 S.2.1 dX7_buys_163 rfl (lv_at hl 3 rfl) ?_
      refine lv_aload_n S.1 S.2.1 dX7_buys_164 rfl (lv_at hl 0 rfl) ?_
      refine r_getR (j := 36) S hW inX7 rfl f90 rfl LM_0 (by decide) rfl dX7_buys_165 ?_
      refine lv_iload S.1 S.2.1 dX7_buys_168 (lv_at hl 5 rfl) ?_
      have b43 := h.1
      have h := h.2
      refine r_iald S hW LM_27 b43 dX7_buys_170 ?_
      refine lv_iadd S.1 S.2.1 dX7_buys_171 ?_
      refine r_min S hl.1 l174 smin iMath omin (Nat.le_of_ble_eq_true rfl) (Nat.le_of_ble_eq_true rfl) (Nat.zero_le _) (Nat.zero_le _) dX7_buys_172 ?_
      refine lv_topi (fun v44 ev44 => ?_)
      have h := h v44 ev44
      refine lv_istore_n (lv' := [(3, .int v44), (0, .ref (σ 0)), (1, .int a1), (2, .int a2), (4, .int x4), (5, .int x5), (6, .int x6)]) S.1 S.2.1 dX7_buys_175 rfl hl (by decide) rfl (fun ls hl => ?_)
      obtain ⟨v45, ev45⟩ : ∃ y : Int32, y = x6 + 1 := ⟨_, rfl⟩
      have h := h v45 ev45
      refine lv_iinc (v := v45) (lv' := [(6, .int v45), (3, .int v44), (0, .ref (σ 0)), (1, .int a1), (2, .int a2), (4, .int x4), (5, .int x5)]) S.1 S.2.1 dX7_buys_176 hl (k := 6) rfl (by rw [ev45]; rfl) (by decide) rfl (fun ls hl => ?_)
      refine lv_goto (tgt := 90) S.1 S.2.1 dX7_buys_179 (by decide) ?_
      exact (e90 _ _ _ _ _).mp h H locs ls hW (lv_sub hl [2, 3, 4, 1, 5, 6, 0] rfl)
  have h := h z71 z81 z90 z157
  refine lv_iload_n S.1 S.2.1 dX7_buys_0 rfl (lv_at hl 1 rfl) ?_
  refine lv_if_lt (tgt := 22) S.1 S.2.1 dX7_buys_1 (by decide) (fun c1 => ?_) (fun c1 => ?_)
  · have h := h.1 c1
    refine lv_aload_n S.1 S.2.1 dX7_buys_22 rfl (lv_at hl 0 rfl) ?_
    refine lv_iconst (v := 1) S.1 S.2.1 dX7_buys_23 rfl ?_
    refine r_goI (r_runV (rest := []) S hW (mX7_refuse l D T σ M (1 : Int32) _ h) w126 rfl LM_0 rfl hl.1 rfl (Nat.le_of_ble_eq_true rfl) dX7_buys_24 ⟨Nat.zero_le _, Nat.zero_le _⟩) hW (fun r2 M3 H locs h hW => ?_)
    exact r_iret S hr hlk hW h dX7_buys_27
  · have h := h.2 c1
    refine lv_iload_n S.1 S.2.1 dX7_buys_4 rfl (lv_at hl 1 rfl) ?_
    refine lv_bipush (v := 12) S.1 S.2.1 dX7_buys_5 rfl ?_
    refine lv_icmp_ge (tgt := 22) S.1 S.2.1 dX7_buys_7 (by decide) (fun c4 => ?_) (fun c4 => ?_)
    · have h := h.1 c4
      refine lv_aload_n S.1 S.2.1 dX7_buys_22 rfl (lv_at hl 0 rfl) ?_
      refine lv_iconst (v := 1) S.1 S.2.1 dX7_buys_23 rfl ?_
      refine r_goI (r_runV (rest := []) S hW (mX7_refuse l D T σ M (1 : Int32) _ h) w126 rfl LM_0 rfl hl.1 rfl (Nat.le_of_ble_eq_true rfl) dX7_buys_24 ⟨Nat.zero_le _, Nat.zero_le _⟩) hW (fun r5 M6 H locs h hW => ?_)
      exact r_iret S hr hlk hW h dX7_buys_27
    · have h := h.2 c4
      refine lv_iload_n S.1 S.2.1 dX7_buys_10 rfl (lv_at hl 2 rfl) ?_
      refine lv_if_lt (tgt := 22) S.1 S.2.1 dX7_buys_11 (by decide) (fun c7 => ?_) (fun c7 => ?_)
      · have h := h.1 c7
        refine lv_aload_n S.1 S.2.1 dX7_buys_22 rfl (lv_at hl 0 rfl) ?_
        refine lv_iconst (v := 1) S.1 S.2.1 dX7_buys_23 rfl ?_
        refine r_goI (r_runV (rest := []) S hW (mX7_refuse l D T σ M (1 : Int32) _ h) w126 rfl LM_0 rfl hl.1 rfl (Nat.le_of_ble_eq_true rfl) dX7_buys_24 ⟨Nat.zero_le _, Nat.zero_le _⟩) hW (fun r8 M9 H locs h hW => ?_)
        exact r_iret S hr hlk hW h dX7_buys_27
      · have h := h.2 c7
        refine lv_iload_n S.1 S.2.1 dX7_buys_14 rfl (lv_at hl 2 rfl) ?_
        refine lv_aload_n S.1 S.2.1 dX7_buys_15 rfl (lv_at hl 0 rfl) ?_
        refine r_getI (j := 7) S hW inX7 rfl f146 rfl LM_0 (by decide) rfl dX7_buys_16 ?_
        refine lv_icmp_lt (tgt := 28) S.1 S.2.1 dX7_buys_19 (by decide) (fun c10 => ?_) (fun c10 => ?_)
        · have h := h.1 c10
          refine lv_aload_n S.1 S.2.1 dX7_buys_28 rfl (lv_at hl 0 rfl) ?_
          refine r_goV (r_runV (rest := []) S hW (mX7_reckon l D T σ M _ h) w235 rfl LM_0 rfl hl.1 rfl (Nat.le_of_ble_eq_true rfl) dX7_buys_29 ⟨Nat.zero_le _, Nat.zero_le _⟩) hW (fun M12 H locs h hW => ?_)
          refine lv_aload_n S.1 S.2.1 dX7_buys_32 rfl (lv_at hl 0 rfl) ?_
          refine r_getR (j := 41) S hW inX7 rfl f102 rfl LM_0 (by decide) rfl dX7_buys_33 ?_
          refine lv_iconst (v := 0) S.1 S.2.1 dX7_buys_36 rfl ?_
          refine lv_iconst (v := 0) S.1 S.2.1 dX7_buys_37 rfl ?_
          refine lv_aload_n S.1 S.2.1 dX7_buys_38 rfl (lv_at hl 0 rfl) ?_
          refine r_getI (j := 40) S hW inX7 rfl f223 rfl LM_0 (by decide) rfl dX7_buys_39 ?_
          refine r_goI (r_runS (rest := [.ref (σ 31)]) S hW (mX7_at l D T σ M12 (0 : Int32) (0 : Int32) (M12.1 0 40) _ h) w228 rfl hl.1 rfl (Nat.le_of_ble_eq_true rfl) dX7_buys_42 ⟨Nat.zero_le _, Nat.zero_le _⟩) hW (fun r13 M14 H locs h hW => ?_)
          have b15 := h.1
          have h := h.2
          refine r_iald S hW LM_31 b15 dX7_buys_45 ?_
          refine lv_ldc S.1 S.2.1 S.2.2.2.1 k231 dX7_buys_46 ?_
          refine lv_icmp_ne (tgt := 58) S.1 S.2.1 dX7_buys_48 (by decide) (fun c16 => ?_) (fun c16 => ?_)
          · have h := h.1 c16
            refine lv_aload_n S.1 S.2.1 dX7_buys_58 rfl (lv_at hl 0 rfl) ?_
            refine lv_iconst (v := 0) S.1 S.2.1 dX7_buys_59 rfl ?_
            refine r_putI (j := 0) S hW inX7 rfl f105 rfl LM_0 (by decide) rfl tyX7 tyX7_ok nmX7 rfl rfl rfl dX7_buys_60 (fun M17 H locs eM17 hW => ?_)
            have h := h M17 eM17
            refine lv_aload_n S.1 S.2.1 dX7_buys_63 rfl (lv_at hl 0 rfl) ?_
            refine r_getI (j := 40) S hW inX7 rfl f223 rfl LM_0 (by decide) rfl dX7_buys_64 ?_
            refine lv_topi (fun v18 ev18 => ?_)
            have h := h v18 ev18
            refine lv_istore_n (lv' := [(3, .int v18), (0, .ref (σ 0)), (1, .int a1), (2, .int a2)]) S.1 S.2.1 dX7_buys_67 rfl hl (by decide) rfl (fun ls hl => ?_)
            refine lv_iconst (v := 0) S.1 S.2.1 dX7_buys_68 rfl ?_
            refine lv_istore (lv' := [(4, .int (0 : Int32)), (3, .int v18), (0, .ref (σ 0)), (1, .int a1), (2, .int a2)]) S.1 S.2.1 dX7_buys_69 hl (by decide) rfl (fun ls hl => ?_)
            exact (e71 _ _ _).mp h H locs ls hW (lv_sub hl [2, 3, 4, 1, 0] rfl)
          · have h := h.2 c16
            refine lv_aload_n S.1 S.2.1 dX7_buys_51 rfl (lv_at hl 0 rfl) ?_
            refine lv_bipush (v := 7) S.1 S.2.1 dX7_buys_52 rfl ?_
            refine r_goI (r_runV (rest := []) S hW (mX7_refuse l D T σ M14 (7 : Int32) _ h) w126 rfl LM_0 rfl hl.1 rfl (Nat.le_of_ble_eq_true rfl) dX7_buys_54 ⟨Nat.zero_le _, Nat.zero_le _⟩) hW (fun r19 M20 H locs h hW => ?_)
            exact r_iret S hr hlk hW h dX7_buys_57
        · have h := h.2 c10
          refine lv_aload_n S.1 S.2.1 dX7_buys_22 rfl (lv_at hl 0 rfl) ?_
          refine lv_iconst (v := 1) S.1 S.2.1 dX7_buys_23 rfl ?_
          refine r_goI (r_runV (rest := []) S hW (mX7_refuse l D T σ M (1 : Int32) _ h) w126 rfl LM_0 rfl hl.1 rfl (Nat.le_of_ble_eq_true rfl) dX7_buys_24 ⟨Nat.zero_le _, Nat.zero_le _⟩) hW (fun r21 M22 H locs h hW => ?_)
          exact r_iret S hr hlk hW h dX7_buys_27

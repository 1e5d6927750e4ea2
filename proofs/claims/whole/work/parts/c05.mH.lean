abbrev rmX6_within : Room := { frames := 0, cells := 0, slots := 0, locals := 0 }
set_option maxHeartbeats 4000000 in
set_option maxRecDepth 100000 in
theorem mX6_within (l : Launch) (D : va_G) (T : Nat → ClassId) (L : Lay) (σ : Nat → Nat) (M : Mem) (a0 : Int64) (a2 : Int32) (a3 : Int32) (post : Int32 → Mem → Prop) (h : qX6_within a0 a2 a3 M post) : Met l yX6_within wsX6_within rmX6_within (preW D T L σ [.long a0, .int a2, .int a3] M) (postI D T L σ post) 0 0 (fA L σ) := by
  refine m_of (cc := cX6_within) (maxL := 4) (ret := (some .boolean)) (own := RX6) (by decide) rfl rfl (Nat.le_of_ble_eq_true rfl) ?_
  intro p e s m args below meth c H ls locs S hr hlk hl hW
  have hl : lv_has ls 4 [(0, .long a0), (2, .int a2), (3, .int a3)] := hl
  refine lv_lload_n S.1 S.2.1 dX6_within_0 rfl (lv_at hl 0 rfl) ?_
  refine lv_iload_n S.1 S.2.1 dX6_within_1 rfl (lv_at hl 1 rfl) ?_
  refine lv_i2l S.1 S.2.1 dX6_within_2 rfl ?_
  refine W.lcmp S.1 S.2.1 dX6_within_3 ?_
  refine lv_if_lt (tgt := 18) S.1 S.2.1 dX6_within_4 (by decide) (fun c1 => ?_) (fun c1 => ?_)
  · have h := h.1 c1
    refine lv_iconst (v := 0) S.1 S.2.1 dX6_within_18 rfl ?_
    exact r_zret S hr hlk hW rfl h dX6_within_19
  · have h := h.2 c1
    refine lv_lload_n S.1 S.2.1 dX6_within_7 rfl (lv_at hl 0 rfl) ?_
    refine lv_iload_n S.1 S.2.1 dX6_within_8 rfl (lv_at hl 2 rfl) ?_
    refine lv_i2l S.1 S.2.1 dX6_within_9 rfl ?_
    refine W.lcmp S.1 S.2.1 dX6_within_10 ?_
    refine lv_if_gt (tgt := 18) S.1 S.2.1 dX6_within_11 (by decide) (fun c2 => ?_) (fun c2 => ?_)
    · have h := h.1 c2
      refine lv_iconst (v := 0) S.1 S.2.1 dX6_within_18 rfl ?_
      exact r_zret S hr hlk hW rfl h dX6_within_19
    · have h := h.2 c2
      refine lv_iconst (v := 1) S.1 S.2.1 dX6_within_14 rfl ?_
      refine lv_goto (tgt := 19) S.1 S.2.1 dX6_within_15 (by decide) ?_
      exact r_zret S hr hlk hW rfl h dX6_within_19
abbrev rmX4_isNumber : Room := { frames := 1, cells := 0, slots := 0, locals := 23 }
set_option maxHeartbeats 4000000 in
set_option maxRecDepth 100000 in
theorem mX4_isNumber (l : Launch) (D : va_G) (T : Nat → ClassId) (σ : Nat → Nat) (M : Mem) (a0 : Int32) (post : Int32 → Mem → Prop) (h : qX4_isNumber a0 M post) : Met l yX4_isNumber wsX4_isNumber rmX4_isNumber (preW D T LH σ [.int a0] M) (postI D T LH σ post) 0 0 (fA LH σ) := by
  refine m_of (cc := cX4_isNumber) (maxL := 1) (ret := (some .boolean)) (own := RX4) (by decide) rfl rfl (Nat.le_of_ble_eq_true rfl) ?_
  intro p e s m args below meth c H ls locs S hr hlk hl hW
  have hl : lv_has ls 1 [(0, .int a0)] := hl
  have w29 := va_cnB (args := args) (R := rmX4_isNumber) (rm := rmX6_within) (mc := 0) (ms := 0) 3 S.2.2.2.2 gX4_isNumber_X6_within_n29 rfl rfl rfl hW.2.2.2.2.1 (S.2.2.2.2 (.initialized RX6) (by decide +kernel)) (by decide +kernel) ⟨Nat.le_of_ble_eq_true rfl, Nat.le_of_ble_eq_true rfl⟩
  have stX6_within := S.2.2.2.2 (.static yX6_within) (by decide +kernel)
  refine lv_iload_n S.1 S.2.1 dX4_isNumber_0 rfl (lv_at hl 0 rfl) ?_
  refine lv_i2l S.1 S.2.1 dX4_isNumber_1 rfl ?_
  refine lv_iconst (v := 0) S.1 S.2.1 dX4_isNumber_2 rfl ?_
  refine lv_iconst (v := 5) S.1 S.2.1 dX4_isNumber_3 rfl ?_
  refine r_goI (r_runN (rest := []) S hW (mX6_within l D T LH σ M (a0.toInt64) (0 : Int32) (5 : Int32) _ h) w29 stX6_within rfl hl.1 rfl (Nat.le_of_ble_eq_true rfl) dX4_isNumber_4 ⟨Nat.zero_le _, Nat.zero_le _⟩) hW (fun r1 M2 H locs h hW => ?_)
  exact r_zret S hr hlk hW h.1 h.2 dX4_isNumber_7
abbrev rmJ7_fill_d0a16 : Room := { frames := 0, cells := 0, slots := 0, locals := 0 }
set_option maxHeartbeats 4000000 in
set_option maxRecDepth 100000 in
theorem mJ7_fill_d0a16 (l : Launch) (D : va_G) (T : Nat → ClassId) (L : Lay) (σ : Nat → Nat) (k : Nat) {n b : Nat} {sl : List (Option Nat)} (hk : L[k]? = some (3, n, b, sl)) (M : Mem) (a1 : Int64) (post : Mem → Prop) (h : qJ7_fill_d0a16 k n a1 M post) : Met l yJ7_fill_d0a16 wsJ7_fill_d0a16 rmJ7_fill_d0a16 (preW D T L σ [.ref (σ k), .long a1] M) (postV D T L σ post) 0 0 (fA L σ) := by
  refine m_of (cc := cJ7_fill_d0a16) (maxL := 5) (ret := none) (own := RJ7) (by decide) rfl rfl (Nat.le_of_ble_eq_true rfl) ?_
  intro p e s m args below meth c H ls locs S hr hlk hl hW
  have hl : lv_has ls 5 [(0, .ref (σ k)), (1, .long a1)] := hl
  obtain ⟨R6, e6⟩ : ∃ R : Int32 → Int32 → Mem → Prop, ∀ x3 x4 M, R x3 x4 M ↔ WW p l e rmJ7_fill_d0a16 s m args below meth c D T L σ 5 (MQ below (postV D T L σ post) args s 0 0 (fA L σ)) 6 [(0, .ref (σ k)), (1, .long a1), (3, .int x3), (4, .int x4)] [] M := ⟨_, fun _ _ _ => Iff.rfl⟩
  have h := h R6
  have z6 : ∀ x3 x4 M, qJ7_fill_d0a16_b6 k n a1 post R6 x3 x4 M → R6 x3 x4 M := by
    intro x3 x4 M h
    refine (e6 _ _ _).mpr (fun H locs ls hW hl => ?_)
    refine lv_iload_n S.1 S.2.1 dJ7_fill_d0a16_6 rfl (lv_at hl 2 rfl) ?_
    refine lv_iload S.1 S.2.1 dJ7_fill_d0a16_7 (lv_at hl 3 rfl) ?_
    refine lv_icmp_ge (tgt := 22) S.1 S.2.1 dJ7_fill_d0a16_9 (by decide) (fun c2 => ?_) (fun c2 => ?_)
    · have h := h.1 c2
      exact r_vret S hr hlk hW h dJ7_fill_d0a16_22
    · have h := h.2 c2
      refine lv_aload_n S.1 S.2.1 dJ7_fill_d0a16_12 rfl (lv_at hl 0 rfl) ?_
      refine lv_iload_n S.1 S.2.1 dJ7_fill_d0a16_13 rfl (lv_at hl 2 rfl) ?_
      refine lv_lload_n S.1 S.2.1 dJ7_fill_d0a16_14 rfl (lv_at hl 1 rfl) ?_
      have b3 := h.1
      have h := h.2
      refine r_last S hW hk b3 dJ7_fill_d0a16_15 (fun M4 H locs eM4 hW => ?_)
      have h := h M4 eM4
      obtain ⟨v5, ev5⟩ : ∃ y : Int32, y = x3 + 1 := ⟨_, rfl⟩
      have h := h v5 ev5
      refine lv_iinc (v := v5) (lv' := [(3, .int v5), (0, .ref (σ k)), (1, .long a1), (4, .int x4)]) S.1 S.2.1 dJ7_fill_d0a16_16 hl (k := 2) rfl (by rw [ev5]; rfl) (by decide) rfl (fun ls hl => ?_)
      refine lv_goto (tgt := 6) S.1 S.2.1 dJ7_fill_d0a16_19 (by decide) ?_
      exact (e6 _ _ _).mp h H locs ls hW (lv_sub hl [1, 2, 0, 3] rfl)
  have h := h z6
  refine lv_iconst (v := 0) S.1 S.2.1 dJ7_fill_d0a16_0 rfl ?_
  refine lv_istore_n (lv' := [(3, .int (0 : Int32)), (0, .ref (σ k)), (1, .long a1)]) S.1 S.2.1 dJ7_fill_d0a16_1 rfl hl (by decide) rfl (fun ls hl => ?_)
  refine lv_aload_n S.1 S.2.1 dJ7_fill_d0a16_2 rfl (lv_at hl 1 rfl) ?_
  refine r_alenL S hW hk dJ7_fill_d0a16_3 ?_
  refine lv_topi (fun v1 ev1 => ?_)
  have h := h v1 ev1
  refine lv_istore (lv' := [(4, .int v1), (3, .int (0 : Int32)), (0, .ref (σ k)), (1, .long a1)]) S.1 S.2.1 dJ7_fill_d0a16_4 hl (by decide) rfl (fun ls hl => ?_)
  exact (e6 _ _ _).mp h H locs ls hW (lv_sub hl [2, 3, 1, 0] rfl)
abbrev rmX4_make : Room := { frames := 1, cells := 0, slots := 0, locals := 24 }
set_option maxHeartbeats 4000000 in
set_option maxRecDepth 100000 in
theorem mX4_make (l : Launch) (D : va_G) (T : Nat → ClassId) (σ : Nat → Nat) (M : Mem) (a1 : Int32) (a2 : Int32) (a3 : Int32) (post : Mem → Prop) (h : qX4_make a1 a2 a3 M post) : Met l yX4_make wsX4_make rmX4_make (preW D T LH σ [.ref (σ 1), .int a1, .int a2, .int a3] M) (postV D T LH σ post) 0 0 (fA LH σ) := by
  refine m_of (cc := cX4_make) (maxL := 4) (ret := none) (own := RX4) (by decide) rfl rfl (Nat.le_of_ble_eq_true rfl) ?_
  intro p e s m args below meth c H ls locs S hr hlk hl hW
  have hl : lv_has ls 4 [(0, .ref (σ 1)), (1, .int a1), (2, .int a2), (3, .int a3)] := hl
  have inX4 : ∀ w ∈ u_ws RX4 TX4 3, w ∈ wsX4_make := by decide +kernel
  have f13 := S.2.2.2.2 (.fieldLink RX4 13 "MachineHall$Sheets" "numbers" "[[J") (by decide +kernel)
  have w33 := va_cwS (R := rmX4_make) (rm := rmJ7_fill_d0a16) (mc := 0) (ms := 0) 2 S.2.2.2.2 gX4_make_J7_fill_d0a16 rfl rfl rfl (by decide +kernel) ⟨Nat.le_of_ble_eq_true rfl, Nat.le_of_ble_eq_true rfl⟩
  have f16 := S.2.2.2.2 (.fieldLink RX4 16 "MachineHall$Sheets" "sorts" "[I") (by decide +kernel)
  have f20 := S.2.2.2.2 (.fieldLink RX4 20 "MachineHall$Sheets" "lengths" "[I") (by decide +kernel)
  refine lv_aload_n S.1 S.2.1 dX4_make_0 rfl (lv_at hl 0 rfl) ?_
  refine r_getR (j := 0) S hW inX4 rfl f13 rfl LH_1 (by decide) rfl dX4_make_1 ?_
  refine lv_iload_n S.1 S.2.1 dX4_make_4 rfl (lv_at hl 1 rfl) ?_
  have b1 := h.1
  have h := h.2
  refine r_aald (t := 1) S hW LH_2 (by decide) b1 dX4_make_5 ?_
  refine lv_lconst (v := 0) S.1 S.2.1 dX4_make_6 rfl ?_
  refine r_goV (r_runS (rest := []) S hW (mJ7_fill_d0a16 l D T LH σ (3 + a1.toNatClampNeg) (LHr_2 (vp_lt b1))  M (0 : Int64) _ h) w33 rfl hl.1 rfl (Nat.le_of_ble_eq_true rfl) dX4_make_7 ⟨Nat.zero_le _, Nat.zero_le _⟩) hW (fun M3 H locs h hW => ?_)
  refine lv_aload_n S.1 S.2.1 dX4_make_10 rfl (lv_at hl 0 rfl) ?_
  refine r_getR (j := 1) S hW inX4 rfl f16 rfl LH_1 (by decide) rfl dX4_make_11 ?_
  refine lv_iload_n S.1 S.2.1 dX4_make_14 rfl (lv_at hl 1 rfl) ?_
  refine lv_iload_n S.1 S.2.1 dX4_make_15 rfl (lv_at hl 2 rfl) ?_
  have b4 := h.1
  have h := h.2
  refine r_iast S hW LH_9 b4 dX4_make_16 (fun M5 H locs eM5 hW => ?_)
  have h := h M5 eM5
  refine lv_aload_n S.1 S.2.1 dX4_make_17 rfl (lv_at hl 0 rfl) ?_
  refine r_getR (j := 2) S hW inX4 rfl f20 rfl LH_1 (by decide) rfl dX4_make_18 ?_
  refine lv_iload_n S.1 S.2.1 dX4_make_21 rfl (lv_at hl 1 rfl) ?_
  refine lv_iload_n S.1 S.2.1 dX4_make_22 rfl (lv_at hl 3 rfl) ?_
  have b6 := h.1
  have h := h.2
  refine r_iast S hW LH_10 b6 dX4_make_23 (fun M7 H locs eM7 hW => ?_)
  have h := h M7 eM7
  exact r_vret S hr hlk hW h dX4_make_24
abbrev rmX4_isMissing : Room := { frames := 0, cells := 0, slots := 0, locals := 0 }
set_option maxHeartbeats 4000000 in
set_option maxRecDepth 100000 in
theorem mX4_isMissing (l : Launch) (D : va_G) (T : Nat → ClassId) (σ : Nat → Nat) (M : Mem) (a1 : Int32) (post : Int32 → Mem → Prop) (h : qX4_isMissing a1 M post) : Met l yX4_isMissing wsX4_isMissing rmX4_isMissing (preW D T LH σ [.ref (σ 1), .int a1] M) (postI D T LH σ post) 0 0 (fA LH σ) := by
  refine m_of (cc := cX4_isMissing) (maxL := 2) (ret := (some .boolean)) (own := RX4) (by decide) rfl rfl (Nat.le_of_ble_eq_true rfl) ?_
  intro p e s m args below meth c H ls locs S hr hlk hl hW
  have hl : lv_has ls 2 [(0, .ref (σ 1)), (1, .int a1)] := hl
  have inX4 : ∀ w ∈ u_ws RX4 TX4 3, w ∈ wsX4_isMissing := by decide +kernel
  have f20 := S.2.2.2.2 (.fieldLink RX4 20 "MachineHall$Sheets" "lengths" "[I") (by decide +kernel)
  refine lv_aload_n S.1 S.2.1 dX4_isMissing_0 rfl (lv_at hl 0 rfl) ?_
  refine r_getR (j := 2) S hW inX4 rfl f20 rfl LH_1 (by decide) rfl dX4_isMissing_1 ?_
  refine lv_iload_n S.1 S.2.1 dX4_isMissing_4 rfl (lv_at hl 1 rfl) ?_
  have b1 := h.1
  have h := h.2
  refine r_iald S hW LH_10 b1 dX4_isMissing_5 ?_
  refine lv_iconst (v := -1) S.1 S.2.1 dX4_isMissing_6 rfl ?_
  refine lv_icmp_ne (tgt := 14) S.1 S.2.1 dX4_isMissing_7 (by decide) (fun c2 => ?_) (fun c2 => ?_)
  · have h := h.1 c2
    refine lv_iconst (v := 0) S.1 S.2.1 dX4_isMissing_14 rfl ?_
    exact r_zret S hr hlk hW rfl h dX4_isMissing_15
  · have h := h.2 c2
    refine lv_iconst (v := 1) S.1 S.2.1 dX4_isMissing_10 rfl ?_
    refine lv_goto (tgt := 15) S.1 S.2.1 dX4_isMissing_11 (by decide) ?_
    exact r_zret S hr hlk hW rfl h dX4_isMissing_15
abbrev rmX4_whyNoPlace : Room := { frames := 2, cells := 0, slots := 0, locals := 43 }
set_option maxHeartbeats 4000000 in
set_option maxRecDepth 100000 in
theorem mX4_whyNoPlace (l : Launch) (D : va_G) (T : Nat → ClassId) (σ : Nat → Nat) (M : Mem) (a1 : Int32) (a2 : Int32) (post : Int32 → Mem → Prop) (h : qX4_whyNoPlace a1 a2 M post) : Met l yX4_whyNoPlace wsX4_whyNoPlace rmX4_whyNoPlace (preW D T LH σ [.ref (σ 1), .int a1, .int a2] M) (postI D T LH σ post) 0 0 (fA LH σ) := by
  refine m_of (cc := cX4_whyNoPlace) (maxL := 3) (ret := (some .int)) (own := RX4) (by decide) rfl rfl (Nat.le_of_ble_eq_true rfl) ?_
  intro p e s m args below meth c H ls locs S hr hlk hl hW
  have hl : lv_has ls 3 [(0, .ref (σ 1)), (1, .int a1), (2, .int a2)] := hl
  have w40 := va_cwS (R := rmX4_whyNoPlace) (rm := rmX4_isNumber) (mc := 0) (ms := 0) 1 S.2.2.2.2 gX4_whyNoPlace_X4_isNumber rfl rfl rfl (by decide +kernel) ⟨Nat.le_of_ble_eq_true rfl, Nat.le_of_ble_eq_true rfl⟩
  have w44 := cwV (R := rmX4_whyNoPlace) (rm := rmX4_isMissing) (mc := 0) (ms := 0) 1 S.2.2.2.2 gX4_whyNoPlace_X4_isMissing rfl rfl rfl (by decide +kernel) ⟨Nat.le_of_ble_eq_true rfl, Nat.le_of_ble_eq_true rfl⟩
  have inX4 : ∀ w ∈ u_ws RX4 TX4 3, w ∈ wsX4_whyNoPlace := by decide +kernel
  have f20 := S.2.2.2.2 (.fieldLink RX4 20 "MachineHall$Sheets" "lengths" "[I") (by decide +kernel)
  have w29 := va_cnB (args := args) (R := rmX4_whyNoPlace) (rm := rmX6_within) (mc := 0) (ms := 0) 3 S.2.2.2.2 gX4_whyNoPlace_X6_within_n29 rfl rfl rfl hW.2.2.2.2.1 (S.2.2.2.2 (.initialized RX6) (by decide +kernel)) (by decide +kernel) ⟨Nat.le_of_ble_eq_true rfl, Nat.le_of_ble_eq_true rfl⟩
  have stX6_within := S.2.2.2.2 (.static yX6_within) (by decide +kernel)
  refine lv_iload_n S.1 S.2.1 dX4_whyNoPlace_0 rfl (lv_at hl 1 rfl) ?_
  refine r_goI (r_runS (rest := []) S hW (mX4_isNumber l D T σ M a1 _ h) w40 rfl hl.1 rfl (Nat.le_of_ble_eq_true rfl) dX4_whyNoPlace_1 ⟨Nat.zero_le _, Nat.zero_le _⟩) hW (fun r1 M2 H locs h hW => ?_)
  refine lv_if_ne (tgt := 9) S.1 S.2.1 dX4_whyNoPlace_4 (by decide) (fun c3 => ?_) (fun c3 => ?_)
  · have h := h.1 c3
    refine lv_aload_n S.1 S.2.1 dX4_whyNoPlace_9 rfl (lv_at hl 0 rfl) ?_
    refine lv_iload_n S.1 S.2.1 dX4_whyNoPlace_10 rfl (lv_at hl 1 rfl) ?_
    refine r_goI (r_runV (rest := []) S hW (mX4_isMissing l D T σ M2 a1 _ h) w44 rfl LH_1 rfl hl.1 rfl (Nat.le_of_ble_eq_true rfl) dX4_whyNoPlace_11 ⟨Nat.zero_le _, Nat.zero_le _⟩) hW (fun r4 M5 H locs h hW => ?_)
    refine lv_if_eq (tgt := 19) S.1 S.2.1 dX4_whyNoPlace_14 (by decide) (fun c6 => ?_) (fun c6 => ?_)
    · have h := h.1 c6
      refine lv_iload_n S.1 S.2.1 dX4_whyNoPlace_19 rfl (lv_at hl 2 rfl) ?_
      refine lv_i2l S.1 S.2.1 dX4_whyNoPlace_20 rfl ?_
      refine lv_iconst (v := 0) S.1 S.2.1 dX4_whyNoPlace_21 rfl ?_
      refine lv_aload_n S.1 S.2.1 dX4_whyNoPlace_22 rfl (lv_at hl 0 rfl) ?_
      refine r_getR (j := 2) S hW inX4 rfl f20 rfl LH_1 (by decide) rfl dX4_whyNoPlace_23 ?_
      refine lv_iload_n S.1 S.2.1 dX4_whyNoPlace_26 rfl (lv_at hl 1 rfl) ?_
      have b7 := h.1
      have h := h.2
      refine r_iald S hW LH_10 b7 dX4_whyNoPlace_27 ?_
      refine lv_iconst (v := 1) S.1 S.2.1 dX4_whyNoPlace_28 rfl ?_
      refine lv_isub S.1 S.2.1 dX4_whyNoPlace_29 ?_
      refine r_goI (r_runN (rest := []) S hW (mX6_within l D T LH σ M5 (a2.toInt64) (0 : Int32) ((M5.1 10 a1.toNatClampNeg) - (1 : Int32)) _ h) w29 stX6_within rfl hl.1 rfl (Nat.le_of_ble_eq_true rfl) dX4_whyNoPlace_30 ⟨Nat.zero_le _, Nat.zero_le _⟩) hW (fun r8 M9 H locs h hW => ?_)
      refine lv_if_eq (tgt := 40) S.1 S.2.1 dX4_whyNoPlace_33 (by decide) (fun c10 => ?_) (fun c10 => ?_)
      · have h := h.1 c10
        refine lv_iconst (v := 3) S.1 S.2.1 dX4_whyNoPlace_40 rfl ?_
        exact r_iret S hr hlk hW h dX4_whyNoPlace_41
      · have h := h.2 c10
        refine lv_iconst (v := 0) S.1 S.2.1 dX4_whyNoPlace_36 rfl ?_
        refine lv_goto (tgt := 41) S.1 S.2.1 dX4_whyNoPlace_37 (by decide) ?_
        exact r_iret S hr hlk hW h dX4_whyNoPlace_41
    · have h := h.2 c6
      refine lv_iconst (v := 2) S.1 S.2.1 dX4_whyNoPlace_17 rfl ?_
      exact r_iret S hr hlk hW h dX4_whyNoPlace_18
  · have h := h.2 c3
    refine lv_iconst (v := 1) S.1 S.2.1 dX4_whyNoPlace_7 rfl ?_
    exact r_iret S hr hlk hW h dX4_whyNoPlace_8
abbrev rmX4_cut : Room := { frames := 0, cells := 0, slots := 0, locals := 0 }
set_option maxHeartbeats 4000000 in
set_option maxRecDepth 100000 in
theorem mX4_cut (l : Launch) (D : va_G) (T : Nat → ClassId) (σ : Nat → Nat) (M : Mem) (a0 : Int64) (a2 : Int32) (post : Int64 → Mem → Prop) (h : qX4_cut a0 a2 M post) : Met l yX4_cut wsX4_cut rmX4_cut (preW D T LH σ [.long a0, .int a2] M) (postL D T LH σ post) 0 0 (fA LH σ) := by
  refine m_of (cc := cX4_cut) (maxL := 3) (ret := (some .long)) (own := RX4) (by decide) rfl rfl (Nat.le_of_ble_eq_true rfl) ?_
  intro p e s m args below meth c H ls locs S hr hlk hl hW
  have hl : lv_has ls 3 [(0, .long a0), (2, .int a2)] := hl
  refine lv_iload_n S.1 S.2.1 dX4_cut_0 rfl (lv_at hl 1 rfl) ?_
  refine r_ts S dX4_cut_1 (by decide) (fun k off ho hx => ?_) (by decide) (by decide) (fun hx => ?_)
  · match k, ho with
    | 0, ho =>
      cases ho
      have h := h.1 hx
      refine lv_lload_n S.1 S.2.1 dX4_cut_28 rfl (lv_at hl 0 rfl) ?_
      refine lv_l2i S.1 S.2.1 dX4_cut_29 rfl ?_
      refine lv_i2b S.1 S.2.1 dX4_cut_30 rfl ?_
      refine lv_i2l S.1 S.2.1 dX4_cut_31 rfl ?_
      exact r_lret S hr hlk hW h dX4_cut_32
    | 1, ho =>
      cases ho
      have h := h.2.1 hx
      refine lv_lload_n S.1 S.2.1 dX4_cut_33 rfl (lv_at hl 0 rfl) ?_
      refine lv_l2i S.1 S.2.1 dX4_cut_34 rfl ?_
      refine lv_i2s S.1 S.2.1 dX4_cut_35 rfl ?_
      refine lv_i2l S.1 S.2.1 dX4_cut_36 rfl ?_
      exact r_lret S hr hlk hW h dX4_cut_37
    | 2, ho =>
      cases ho
      have h := h.2.2.1 hx
      refine lv_lload_n S.1 S.2.1 dX4_cut_38 rfl (lv_at hl 0 rfl) ?_
      refine lv_l2i S.1 S.2.1 dX4_cut_39 rfl ?_
      refine lv_i2l S.1 S.2.1 dX4_cut_40 rfl ?_
      exact r_lret S hr hlk hW h dX4_cut_41
    | k + 3, ho => simp at ho
  · have h := h.2.2.2 hx
    refine lv_lload_n S.1 S.2.1 dX4_cut_42 rfl (lv_at hl 0 rfl) ?_
    exact r_lret S hr hlk hW h dX4_cut_43
abbrev rmX4_put : Room := { frames := 1, cells := 0, slots := 0, locals := 22 }
set_option maxHeartbeats 4000000 in
set_option maxRecDepth 100000 in
theorem mX4_put (l : Launch) (D : va_G) (T : Nat → ClassId) (σ : Nat → Nat) (M : Mem) (a1 : Int32) (a2 : Int32) (a3 : Int64) (post : Mem → Prop) (h : qX4_put a1 a2 a3 M post) : Met l yX4_put wsX4_put rmX4_put (preW D T LH σ [.ref (σ 1), .int a1, .int a2, .long a3] M) (postV D T LH σ post) 0 0 (fA LH σ) := by
  refine m_of (cc := cX4_put) (maxL := 5) (ret := none) (own := RX4) (by decide) rfl rfl (Nat.le_of_ble_eq_true rfl) ?_
  intro p e s m args below meth c H ls locs S hr hlk hl hW
  have hl : lv_has ls 5 [(0, .ref (σ 1)), (1, .int a1), (2, .int a2), (3, .long a3)] := hl
  have inX4 : ∀ w ∈ u_ws RX4 TX4 3, w ∈ wsX4_put := by decide +kernel
  have f13 := S.2.2.2.2 (.fieldLink RX4 13 "MachineHall$Sheets" "numbers" "[[J") (by decide +kernel)
  have f16 := S.2.2.2.2 (.fieldLink RX4 16 "MachineHall$Sheets" "sorts" "[I") (by decide +kernel)
  have w36 := va_cwS (R := rmX4_put) (rm := rmX4_cut) (mc := 0) (ms := 0) 2 S.2.2.2.2 gX4_put_X4_cut rfl rfl rfl (by decide +kernel) ⟨Nat.le_of_ble_eq_true rfl, Nat.le_of_ble_eq_true rfl⟩
  refine lv_aload_n S.1 S.2.1 dX4_put_0 rfl (lv_at hl 0 rfl) ?_
  refine r_getR (j := 0) S hW inX4 rfl f13 rfl LH_1 (by decide) rfl dX4_put_1 ?_
  refine lv_iload_n S.1 S.2.1 dX4_put_4 rfl (lv_at hl 1 rfl) ?_
  have b1 := h.1
  have h := h.2
  refine r_aald (t := 1) S hW LH_2 (by decide) b1 dX4_put_5 ?_
  refine lv_iload_n S.1 S.2.1 dX4_put_6 rfl (lv_at hl 2 rfl) ?_
  refine lv_lload_n S.1 S.2.1 dX4_put_7 rfl (lv_at hl 3 rfl) ?_
  refine lv_aload_n S.1 S.2.1 dX4_put_8 rfl (lv_at hl 0 rfl) ?_
  refine r_getR (j := 1) S hW inX4 rfl f16 rfl LH_1 (by decide) rfl dX4_put_9 ?_
  refine lv_iload_n S.1 S.2.1 dX4_put_12 rfl (lv_at hl 1 rfl) ?_
  have b2 := h.1
  have h := h.2
  refine r_iald S hW LH_9 b2 dX4_put_13 ?_
  refine r_goL (r_runS (rest := [.int a2, .ref (σ (3 + a1.toNatClampNeg))]) S hW (mX4_cut l D T σ M a3 (M.1 9 a1.toNatClampNeg) _ h) w36 rfl hl.1 rfl (Nat.le_of_ble_eq_true rfl) dX4_put_14 ⟨Nat.zero_le _, Nat.zero_le _⟩) hW (fun r3 M4 H locs h hW => ?_)
  have b5 := h.1
  have h := h.2
  refine r_last S hW (LHr_2 (vp_lt b1)) b5 dX4_put_17 (fun M6 H locs eM6 hW => ?_)
  have h := h M6 eM6
  exact r_vret S hr hlk hW h dX4_put_18
abbrev rmX4_at : Room := { frames := 0, cells := 0, slots := 0, locals := 0 }
set_option maxHeartbeats 4000000 in
set_option maxRecDepth 100000 in
theorem mX4_at (l : Launch) (D : va_G) (T : Nat → ClassId) (σ : Nat → Nat) (M : Mem) (a1 : Int32) (a2 : Int32) (post : Int64 → Mem → Prop) (h : qX4_at a1 a2 M post) : Met l yX4_at wsX4_at rmX4_at (preW D T LH σ [.ref (σ 1), .int a1, .int a2] M) (postL D T LH σ post) 0 0 (fA LH σ) := by
  refine m_of (cc := cX4_at) (maxL := 3) (ret := (some .long)) (own := RX4) (by decide) rfl rfl (Nat.le_of_ble_eq_true rfl) ?_
  intro p e s m args below meth c H ls locs S hr hlk hl hW
  have hl : lv_has ls 3 [(0, .ref (σ 1)), (1, .int a1), (2, .int a2)] := hl
  have inX4 : ∀ w ∈ u_ws RX4 TX4 3, w ∈ wsX4_at := by decide +kernel
  have f13 := S.2.2.2.2 (.fieldLink RX4 13 "MachineHall$Sheets" "numbers" "[[J") (by decide +kernel)
  refine lv_aload_n S.1 S.2.1 dX4_at_0 rfl (lv_at hl 0 rfl) ?_
  refine r_getR (j := 0) S hW inX4 rfl f13 rfl LH_1 (by decide) rfl dX4_at_1 ?_
  refine lv_iload_n S.1 S.2.1 dX4_at_4 rfl (lv_at hl 1 rfl) ?_
  have b1 := h.1
  have h := h.2
  refine r_aald (t := 1) S hW LH_2 (by decide) b1 dX4_at_5 ?_
  refine lv_iload_n S.1 S.2.1 dX4_at_6 rfl (lv_at hl 2 rfl) ?_
  have b2 := h.1
  have h := h.2
  refine r_lald S hW (LHr_2 (vp_lt b1)) b2 dX4_at_7 ?_
  exact r_lret S hr hlk hW h dX4_at_8
abbrev rmX4_lose : Room := { frames := 0, cells := 0, slots := 0, locals := 0 }
set_option maxHeartbeats 4000000 in
set_option maxRecDepth 100000 in
theorem mX4_lose (l : Launch) (D : va_G) (T : Nat → ClassId) (σ : Nat → Nat) (M : Mem) (a1 : Int32) (post : Mem → Prop) (h : qX4_lose a1 M post) : Met l yX4_lose wsX4_lose rmX4_lose (preW D T LH σ [.ref (σ 1), .int a1] M) (postV D T LH σ post) 0 0 (fA LH σ) := by
  refine m_of (cc := cX4_lose) (maxL := 2) (ret := none) (own := RX4) (by decide) rfl rfl (Nat.le_of_ble_eq_true rfl) ?_
  intro p e s m args below meth c H ls locs S hr hlk hl hW
  have hl : lv_has ls 2 [(0, .ref (σ 1)), (1, .int a1)] := hl
  have inX4 : ∀ w ∈ u_ws RX4 TX4 3, w ∈ wsX4_lose := by decide +kernel
  have f20 := S.2.2.2.2 (.fieldLink RX4 20 "MachineHall$Sheets" "lengths" "[I") (by decide +kernel)
  refine lv_aload_n S.1 S.2.1 dX4_lose_0 rfl (lv_at hl 0 rfl) ?_
  refine r_getR (j := 2) S hW inX4 rfl f20 rfl LH_1 (by decide) rfl dX4_lose_1 ?_
  refine lv_iload_n S.1 S.2.1 dX4_lose_4 rfl (lv_at hl 1 rfl) ?_
  refine lv_iconst (v := -1) S.1 S.2.1 dX4_lose_5 rfl ?_
  have b1 := h.1
  have h := h.2
  refine r_iast S hW LH_10 b1 dX4_lose_6 (fun M2 H locs eM2 hW => ?_)
  have h := h M2 eM2
  exact r_vret S hr hlk hW h dX4_lose_7
abbrev rmX4_spans : Room := { frames := 0, cells := 0, slots := 0, locals := 0 }
set_option maxHeartbeats 4000000 in
set_option maxRecDepth 100000 in
theorem mX4_spans (l : Launch) (D : va_G) (T : Nat → ClassId) (σ : Nat → Nat) (M : Mem) (a1 : Int32) (a2 : Int32) (a3 : Int32) (post : Int32 → Mem → Prop) (h : qX4_spans a1 a2 a3 M post) : Met l yX4_spans wsX4_spans rmX4_spans (preW D T LH σ [.ref (σ 1), .int a1, .int a2, .int a3] M) (postI D T LH σ post) 0 0 (fA LH σ) := by
  refine m_of (cc := cX4_spans) (maxL := 4) (ret := (some .boolean)) (own := RX4) (by decide) rfl rfl (Nat.le_of_ble_eq_true rfl) ?_
  intro p e s m args below meth c H ls locs S hr hlk hl hW
  have hl : lv_has ls 4 [(0, .ref (σ 1)), (1, .int a1), (2, .int a2), (3, .int a3)] := hl
  have inX4 : ∀ w ∈ u_ws RX4 TX4 3, w ∈ wsX4_spans := by decide +kernel
  have f20 := S.2.2.2.2 (.fieldLink RX4 20 "MachineHall$Sheets" "lengths" "[I") (by decide +kernel)
  refine lv_iload_n S.1 S.2.1 dX4_spans_0 rfl (lv_at hl 2 rfl) ?_
  refine lv_i2l S.1 S.2.1 dX4_spans_1 rfl ?_
  refine lv_iload_n S.1 S.2.1 dX4_spans_2 rfl (lv_at hl 3 rfl) ?_
  refine lv_i2l S.1 S.2.1 dX4_spans_3 rfl ?_
  refine lv_ladd S.1 S.2.1 dX4_spans_4 ?_
  refine lv_aload_n S.1 S.2.1 dX4_spans_5 rfl (lv_at hl 0 rfl) ?_
  refine r_getR (j := 2) S hW inX4 rfl f20 rfl LH_1 (by decide) rfl dX4_spans_6 ?_
  refine lv_iload_n S.1 S.2.1 dX4_spans_9 rfl (lv_at hl 1 rfl) ?_
  have b1 := h.1
  have h := h.2
  refine r_iald S hW LH_10 b1 dX4_spans_10 ?_
  refine lv_i2l S.1 S.2.1 dX4_spans_11 rfl ?_
  refine W.lcmp S.1 S.2.1 dX4_spans_12 ?_
  refine lv_if_gt (tgt := 20) S.1 S.2.1 dX4_spans_13 (by decide) (fun c2 => ?_) (fun c2 => ?_)
  · have h := h.1 c2
    refine lv_iconst (v := 0) S.1 S.2.1 dX4_spans_20 rfl ?_
    exact r_zret S hr hlk hW rfl h dX4_spans_21
  · have h := h.2 c2
    refine lv_iconst (v := 1) S.1 S.2.1 dX4_spans_16 rfl ?_
    refine lv_goto (tgt := 21) S.1 S.2.1 dX4_spans_17 (by decide) ?_
    exact r_zret S hr hlk hW rfl h dX4_spans_21
abbrev rmX4_carry : Room := { frames := 2, cells := 0, slots := 0, locals := 60 }
set_option maxHeartbeats 4000000 in
set_option maxRecDepth 100000 in
theorem mX4_carry (l : Launch) (D : va_G) (T : Nat → ClassId) (σ : Nat → Nat) (M : Mem) (a1 : Int32) (a2 : Int32) (a3 : Int32) (a4 : Int32) (a5 : Int32) (post : Mem → Prop) (h : qX4_carry a1 a2 a3 a4 a5 M post) : Met l yX4_carry wsX4_carry rmX4_carry (preW D T LH σ [.ref (σ 1), .int a1, .int a2, .int a3, .int a4, .int a5] M) (postV D T LH σ post) 0 0 (fA LH σ) := by
  refine m_of (cc := cX4_carry) (maxL := 7) (ret := none) (own := RX4) (by decide) rfl rfl (Nat.le_of_ble_eq_true rfl) ?_
  intro p e s m args below meth c H ls locs S hr hlk hl hW
  have hl : lv_has ls 7 [(0, .ref (σ 1)), (1, .int a1), (2, .int a2), (3, .int a3), (4, .int a4), (5, .int a5)] := hl
  have inX4 : ∀ w ∈ u_ws RX4 TX4 3, w ∈ wsX4_carry := by decide +kernel
  have f13 := S.2.2.2.2 (.fieldLink RX4 13 "MachineHall$Sheets" "numbers" "[[J") (by decide +kernel)
  have ac1 := S.2.2.2.2 (.methodLink RX4 47 arraycopyName) (by decide +kernel)
  have ac2 := S.2.2.2.2 (.native arraycopyName) (by decide +kernel)
  have ac3 := S.2.2.2.2 (.static arraycopyName) (by decide +kernel)
  have ac4 := S.2.2.2.2 (.initialized "java/lang/System") (by decide +kernel)
  have w53 := cwV (R := rmX4_carry) (rm := rmX4_put) (mc := 0) (ms := 0) 3 S.2.2.2.2 gX4_carry_X4_put rfl rfl rfl (by decide +kernel) ⟨Nat.le_of_ble_eq_true rfl, Nat.le_of_ble_eq_true rfl⟩
  obtain ⟨R24, e24⟩ : ∃ R : Int32 → Mem → Prop, ∀ x6 M, R x6 M ↔ WW p l e rmX4_carry s m args below meth c D T LH σ 7 (MQ below (postV D T LH σ post) args s 0 0 (fA LH σ)) 24 [(0, .ref (σ 1)), (3, .int a3), (4, .int a4), (5, .int a5), (6, .int x6)] [] M := ⟨_, fun _ _ => Iff.rfl⟩
  have h := h R24
  have z24 : ∀ x6 M, qX4_carry_b24 a1 a2 a3 a4 a5 post R24 x6 M → R24 x6 M := by
    intro x6 M h
    refine (e24 _ _).mpr (fun H locs ls hW hl => ?_)
    refine lv_iload S.1 S.2.1 dX4_carry_24 (lv_at hl 4 rfl) ?_
    refine lv_iload S.1 S.2.1 dX4_carry_26 (lv_at hl 2 rfl) ?_
    refine lv_iload S.1 S.2.1 dX4_carry_28 (lv_at hl 3 rfl) ?_
    refine lv_iadd S.1 S.2.1 dX4_carry_30 ?_
    refine lv_icmp_ge (tgt := 56) S.1 S.2.1 dX4_carry_31 (by decide) (fun c5 => ?_) (fun c5 => ?_)
    · have h := h.1 c5
      exact r_vret S hr hlk hW h dX4_carry_56
    · have h := h.2 c5
      refine lv_aload_n S.1 S.2.1 dX4_carry_34 rfl (lv_at hl 0 rfl) ?_
      refine lv_iload_n S.1 S.2.1 dX4_carry_35 rfl (lv_at hl 1 rfl) ?_
      refine lv_iload S.1 S.2.1 dX4_carry_36 (lv_at hl 4 rfl) ?_
      refine lv_aload_n S.1 S.2.1 dX4_carry_38 rfl (lv_at hl 0 rfl) ?_
      refine r_getR (j := 0) S hW inX4 rfl f13 rfl LH_1 (by decide) rfl dX4_carry_39 ?_
      refine lv_iload_n S.1 S.2.1 dX4_carry_42 rfl (lv_at hl 1 rfl) ?_
      have b6 := h.1
      have h := h.2
      refine r_aald (t := 1) S hW LH_2 (by decide) b6 dX4_carry_43 ?_
      refine lv_iload S.1 S.2.1 dX4_carry_44 (lv_at hl 4 rfl) ?_
      have b7 := h.1
      have h := h.2
      refine r_lald S hW (LHr_2 (vp_lt b6)) b7 dX4_carry_46 ?_
      refine r_goV (r_runV (rest := []) S hW (mX4_put l D T σ M a3 x6 (M.2 (3 + a3.toNatClampNeg) x6.toNatClampNeg) _ h) w53 rfl LH_1 rfl hl.1 rfl (Nat.le_of_ble_eq_true rfl) dX4_carry_47 ⟨Nat.zero_le _, Nat.zero_le _⟩) hW (fun M9 H locs h hW => ?_)
      obtain ⟨v10, ev10⟩ : ∃ y : Int32, y = x6 + 1 := ⟨_, rfl⟩
      have h := h v10 ev10
      refine lv_iinc (v := v10) (lv' := [(6, .int v10), (0, .ref (σ 1)), (3, .int a3), (4, .int a4), (5, .int a5)]) S.1 S.2.1 dX4_carry_50 hl (k := 4) rfl (by rw [ev10]; rfl) (by decide) rfl (fun ls hl => ?_)
      refine lv_goto (tgt := 24) S.1 S.2.1 dX4_carry_53 (by decide) ?_
      exact (e24 _ _).mp h H locs ls hW (lv_sub hl [1, 2, 3, 4, 0] rfl)
  have h := h z24
  refine lv_aload_n S.1 S.2.1 dX4_carry_0 rfl (lv_at hl 0 rfl) ?_
  refine r_getR (j := 0) S hW inX4 rfl f13 rfl LH_1 (by decide) rfl dX4_carry_1 ?_
  refine lv_iload_n S.1 S.2.1 dX4_carry_4 rfl (lv_at hl 1 rfl) ?_
  have b1 := h.1
  have h := h.2
  refine r_aald (t := 1) S hW LH_2 (by decide) b1 dX4_carry_5 ?_
  refine lv_iload_n S.1 S.2.1 dX4_carry_6 rfl (lv_at hl 2 rfl) ?_
  refine lv_aload_n S.1 S.2.1 dX4_carry_7 rfl (lv_at hl 0 rfl) ?_
  refine r_getR (j := 0) S hW inX4 rfl f13 rfl LH_1 (by decide) rfl dX4_carry_8 ?_
  refine lv_iload_n S.1 S.2.1 dX4_carry_11 rfl (lv_at hl 3 rfl) ?_
  have b2 := h.1
  have h := h.2
  refine r_aald (t := 1) S hW LH_2 (by decide) b2 dX4_carry_12 ?_
  refine lv_iload S.1 S.2.1 dX4_carry_13 (lv_at hl 4 rfl) ?_
  refine lv_iload S.1 S.2.1 dX4_carry_15 (lv_at hl 5 rfl) ?_
  have b4 := h.1
  have h := h.2
  refine r_acopy S hl.1 hW ac1 ac2 ac3 ac4 (LHr_2 (vp_lt b1)) (LHr_2 (vp_lt b2)) b4 (Nat.le_of_ble_eq_true rfl) (Nat.le_of_ble_eq_true rfl) dX4_carry_17 (fun M3 H locs eM3 hW => ?_)
  have h := h M3 eM3
  refine lv_iload S.1 S.2.1 dX4_carry_20 (lv_at hl 4 rfl) ?_
  refine lv_istore (lv' := [(6, .int a4), (0, .ref (σ 1)), (1, .int a1), (2, .int a2), (3, .int a3), (4, .int a4), (5, .int a5)]) S.1 S.2.1 dX4_carry_22 hl (by decide) rfl (fun ls hl => ?_)
  exact (e24 _ _).mp h H locs ls hW (lv_sub hl [1, 4, 5, 6, 0] rfl)
abbrev rmX1_addMachine : Room := { frames := 0, cells := 0, slots := 0, locals := 0 }
set_option maxHeartbeats 4000000 in
set_option maxRecDepth 100000 in
theorem mX1_addMachine (l : Launch) (D : va_G) (T : Nat → ClassId) (σ : Nat → Nat) (M : Mem) (a1 : Int32) (a2 : Int32) (post : Int32 → Mem → Prop) (h : qX1_addMachine a1 a2 M post) : Met l yX1_addMachine wsX1_addMachine rmX1_addMachine (preW D T LH σ [.ref (σ 11), .int a1, .int a2] M) (postI D T LH σ post) 0 0 (fA LH σ) := by
  refine m_of (cc := cX1_addMachine) (maxL := 4) (ret := (some .int)) (own := RX1) (by decide) rfl rfl (Nat.le_of_ble_eq_true rfl) ?_
  intro p e s m args below meth c H ls locs S hr hlk hl hW
  have hl : lv_has ls 4 [(0, .ref (σ 11)), (1, .int a1), (2, .int a2)] := hl
  have inX1 : ∀ w ∈ u_ws RX1 TX1 13, w ∈ wsX1_addMachine := by decide +kernel
  have f48 := S.2.2.2.2 (.fieldLink RX1 48 "MachineHall$Hall" "machines" "I") (by decide +kernel)
  have f11 := S.2.2.2.2 (.fieldLink RX1 11 "MachineHall$Hall" "sizes" "[I") (by decide +kernel)
  have f15 := S.2.2.2.2 (.fieldLink RX1 15 "MachineHall$Hall" "inRoom" "[I") (by decide +kernel)
  have f54 := S.2.2.2.2 (.fieldLink RX1 54 "MachineHall$Hall" "ups" "I") (by decide +kernel)
  refine lv_aload_n S.1 S.2.1 dX1_addMachine_0 rfl (lv_at hl 0 rfl) ?_
  refine lv_dup S.1 S.2.1 dX1_addMachine_1 rfl ?_
  refine r_getI (j := 0) S hW inX1 rfl f48 rfl LH_11 (by decide) rfl dX1_addMachine_2 ?_
  refine lv_dup_x1 S.1 S.2.1 dX1_addMachine_5 rfl rfl ?_
  refine lv_iconst (v := 1) S.1 S.2.1 dX1_addMachine_6 rfl ?_
  refine lv_iadd S.1 S.2.1 dX1_addMachine_7 ?_
  refine r_putI (j := 0) S hW inX1 rfl f48 rfl LH_11 (by decide) rfl tyX1 tyX1_ok nmX1 rfl rfl rfl dX1_addMachine_8 (fun M1 H locs eM1 hW => ?_)
  have h := h M1 eM1
  refine lv_topi (fun v2 ev2 => ?_)
  have h := h v2 ev2
  refine lv_istore_n (lv' := [(3, .int v2), (0, .ref (σ 11)), (1, .int a1), (2, .int a2)]) S.1 S.2.1 dX1_addMachine_11 rfl hl (by decide) rfl (fun ls hl => ?_)
  refine lv_aload_n S.1 S.2.1 dX1_addMachine_12 rfl (lv_at hl 1 rfl) ?_
  refine r_getR (j := 2) S hW inX1 rfl f11 rfl LH_11 (by decide) rfl dX1_addMachine_13 ?_
  refine lv_iload_n S.1 S.2.1 dX1_addMachine_16 rfl (lv_at hl 0 rfl) ?_
  refine lv_iload_n S.1 S.2.1 dX1_addMachine_17 rfl (lv_at hl 2 rfl) ?_
  have b3 := h.1
  have h := h.2
  refine r_iast S hW LH_12 b3 dX1_addMachine_18 (fun M4 H locs eM4 hW => ?_)
  have h := h M4 eM4
  refine lv_aload_n S.1 S.2.1 dX1_addMachine_19 rfl (lv_at hl 1 rfl) ?_
  refine r_getR (j := 3) S hW inX1 rfl f15 rfl LH_11 (by decide) rfl dX1_addMachine_20 ?_
  refine lv_iload_n S.1 S.2.1 dX1_addMachine_23 rfl (lv_at hl 3 rfl) ?_
  refine lv_dup2_11 S.1 S.2.1 dX1_addMachine_24 rfl rfl ?_
  have b5 := h.1
  have h := h.2
  refine r_iald S hW LH_13 b5 dX1_addMachine_25 ?_
  refine lv_iconst (v := 1) S.1 S.2.1 dX1_addMachine_26 rfl ?_
  refine lv_iload_n S.1 S.2.1 dX1_addMachine_27 rfl (lv_at hl 0 rfl) ?_
  refine lv_ishl S.1 S.2.1 dX1_addMachine_28 ?_
  refine lv_ior S.1 S.2.1 dX1_addMachine_29 ?_
  have b6 := h.1
  have h := h.2
  refine r_iast S hW LH_13 b6 dX1_addMachine_30 (fun M7 H locs eM7 hW => ?_)
  have h := h M7 eM7
  refine lv_aload_n S.1 S.2.1 dX1_addMachine_31 rfl (lv_at hl 1 rfl) ?_
  refine lv_dup S.1 S.2.1 dX1_addMachine_32 rfl ?_
  refine r_getI (j := 4) S hW inX1 rfl f54 rfl LH_11 (by decide) rfl dX1_addMachine_33 ?_
  refine lv_iconst (v := 1) S.1 S.2.1 dX1_addMachine_36 rfl ?_
  refine lv_iload_n S.1 S.2.1 dX1_addMachine_37 rfl (lv_at hl 0 rfl) ?_
  refine lv_ishl S.1 S.2.1 dX1_addMachine_38 ?_
  refine lv_ior S.1 S.2.1 dX1_addMachine_39 ?_
  refine r_putI (j := 4) S hW inX1 rfl f54 rfl LH_11 (by decide) rfl tyX1 tyX1_ok nmX1 rfl rfl rfl dX1_addMachine_40 (fun M8 H locs eM8 hW => ?_)
  have h := h M8 eM8
  refine lv_iload_n S.1 S.2.1 dX1_addMachine_43 rfl (lv_at hl 0 rfl) ?_
  exact r_iret S hr hlk hW h dX1_addMachine_44
abbrev rmX1_hasMachine : Room := { frames := 1, cells := 0, slots := 0, locals := 23 }
set_option maxHeartbeats 4000000 in
set_option maxRecDepth 100000 in
theorem mX1_hasMachine (l : Launch) (D : va_G) (T : Nat → ClassId) (σ : Nat → Nat) (M : Mem) (a1 : Int32) (post : Int32 → Mem → Prop) (h : qX1_hasMachine a1 M post) : Met l yX1_hasMachine wsX1_hasMachine rmX1_hasMachine (preW D T LH σ [.ref (σ 11), .int a1] M) (postI D T LH σ post) 0 0 (fA LH σ) := by
  refine m_of (cc := cX1_hasMachine) (maxL := 2) (ret := (some .boolean)) (own := RX1) (by decide) rfl rfl (Nat.le_of_ble_eq_true rfl) ?_
  intro p e s m args below meth c H ls locs S hr hlk hl hW
  have hl : lv_has ls 2 [(0, .ref (σ 11)), (1, .int a1)] := hl
  have inX1 : ∀ w ∈ u_ws RX1 TX1 13, w ∈ wsX1_hasMachine := by decide +kernel
  have f48 := S.2.2.2.2 (.fieldLink RX1 48 "MachineHall$Hall" "machines" "I") (by decide +kernel)
  have w44 := va_cnB (args := args) (R := rmX1_hasMachine) (rm := rmX6_within) (mc := 0) (ms := 0) 3 S.2.2.2.2 gX1_hasMachine_X6_within_n44 rfl rfl rfl hW.2.2.2.2.2.1 (S.2.2.2.2 (.initialized RX6) (by decide +kernel)) (by decide +kernel) ⟨Nat.le_of_ble_eq_true rfl, Nat.le_of_ble_eq_true rfl⟩
  have stX6_within := S.2.2.2.2 (.static yX6_within) (by decide +kernel)
  refine lv_iload_n S.1 S.2.1 dX1_hasMachine_0 rfl (lv_at hl 1 rfl) ?_
  refine lv_i2l S.1 S.2.1 dX1_hasMachine_1 rfl ?_
  refine lv_iconst (v := 0) S.1 S.2.1 dX1_hasMachine_2 rfl ?_
  refine lv_aload_n S.1 S.2.1 dX1_hasMachine_3 rfl (lv_at hl 0 rfl) ?_
  refine r_getI (j := 0) S hW inX1 rfl f48 rfl LH_11 (by decide) rfl dX1_hasMachine_4 ?_
  refine lv_iconst (v := 1) S.1 S.2.1 dX1_hasMachine_7 rfl ?_
  refine lv_isub S.1 S.2.1 dX1_hasMachine_8 ?_
  refine r_goI (r_runN (rest := []) S hW (mX6_within l D T LH σ M (a1.toInt64) (0 : Int32) ((M.1 11 0) - (1 : Int32)) _ h) w44 stX6_within rfl hl.1 rfl (Nat.le_of_ble_eq_true rfl) dX1_hasMachine_9 ⟨Nat.zero_le _, Nat.zero_le _⟩) hW (fun r1 M2 H locs h hW => ?_)
  exact r_zret S hr hlk hW h.1 h.2 dX1_hasMachine_12
abbrev rmX1_has : Room := { frames := 0, cells := 0, slots := 0, locals := 0 }
set_option maxHeartbeats 4000000 in
set_option maxRecDepth 100000 in
theorem mX1_has (l : Launch) (D : va_G) (T : Nat → ClassId) (σ : Nat → Nat) (M : Mem) (a0 : Int32) (a1 : Int32) (post : Int32 → Mem → Prop) (h : qX1_has a0 a1 M post) : Met l yX1_has wsX1_has rmX1_has (preW D T LH σ [.int a0, .int a1] M) (postI D T LH σ post) 0 0 (fA LH σ) := by
  refine m_of (cc := cX1_has) (maxL := 2) (ret := (some .boolean)) (own := RX1) (by decide) rfl rfl (Nat.le_of_ble_eq_true rfl) ?_
  intro p e s m args below meth c H ls locs S hr hlk hl hW
  have hl : lv_has ls 2 [(0, .int a0), (1, .int a1)] := hl
  refine lv_iload_n S.1 S.2.1 dX1_has_0 rfl (lv_at hl 0 rfl) ?_
  refine lv_iload_n S.1 S.2.1 dX1_has_1 rfl (lv_at hl 1 rfl) ?_
  refine lv_ishr S.1 S.2.1 dX1_has_2 ?_
  refine lv_iconst (v := 1) S.1 S.2.1 dX1_has_3 rfl ?_
  refine lv_iand S.1 S.2.1 dX1_has_4 ?_
  refine lv_if_eq (tgt := 12) S.1 S.2.1 dX1_has_5 (by decide) (fun c1 => ?_) (fun c1 => ?_)
  · have h := h.1 c1
    refine lv_iconst (v := 0) S.1 S.2.1 dX1_has_12 rfl ?_
    exact r_zret S hr hlk hW rfl h dX1_has_13
  · have h := h.2 c1
    refine lv_iconst (v := 1) S.1 S.2.1 dX1_has_8 rfl ?_
    refine lv_goto (tgt := 13) S.1 S.2.1 dX1_has_9 (by decide) ?_
    exact r_zret S hr hlk hW rfl h dX1_has_13
abbrev rmX1_isUp : Room := { frames := 1, cells := 0, slots := 0, locals := 21 }
set_option maxHeartbeats 4000000 in
set_option maxRecDepth 100000 in
theorem mX1_isUp (l : Launch) (D : va_G) (T : Nat → ClassId) (σ : Nat → Nat) (M : Mem) (a1 : Int32) (post : Int32 → Mem → Prop) (h : qX1_isUp a1 M post) : Met l yX1_isUp wsX1_isUp rmX1_isUp (preW D T LH σ [.ref (σ 11), .int a1] M) (postI D T LH σ post) 0 0 (fA LH σ) := by
  refine m_of (cc := cX1_isUp) (maxL := 2) (ret := (some .boolean)) (own := RX1) (by decide) rfl rfl (Nat.le_of_ble_eq_true rfl) ?_
  intro p e s m args below meth c H ls locs S hr hlk hl hW
  have hl : lv_has ls 2 [(0, .ref (σ 11)), (1, .int a1)] := hl
  have inX1 : ∀ w ∈ u_ws RX1 TX1 13, w ∈ wsX1_isUp := by decide +kernel
  have f54 := S.2.2.2.2 (.fieldLink RX1 54 "MachineHall$Hall" "ups" "I") (by decide +kernel)
  have w57 := va_cwS (R := rmX1_isUp) (rm := rmX1_has) (mc := 0) (ms := 0) 2 S.2.2.2.2 gX1_isUp_X1_has rfl rfl rfl (by decide +kernel) ⟨Nat.le_of_ble_eq_true rfl, Nat.le_of_ble_eq_true rfl⟩
  refine lv_aload_n S.1 S.2.1 dX1_isUp_0 rfl (lv_at hl 0 rfl) ?_
  refine r_getI (j := 4) S hW inX1 rfl f54 rfl LH_11 (by decide) rfl dX1_isUp_1 ?_
  refine lv_iload_n S.1 S.2.1 dX1_isUp_4 rfl (lv_at hl 1 rfl) ?_
  refine r_goI (r_runS (rest := []) S hW (mX1_has l D T σ M (M.1 11 4) a1 _ h) w57 rfl hl.1 rfl (Nat.le_of_ble_eq_true rfl) dX1_isUp_5 ⟨Nat.zero_le _, Nat.zero_le _⟩) hW (fun r1 M2 H locs h hW => ?_)
  exact r_zret S hr hlk hW h.1 h.2 dX1_isUp_8
abbrev rmX1_turn : Room := { frames := 0, cells := 0, slots := 0, locals := 0 }
set_option maxHeartbeats 4000000 in
set_option maxRecDepth 100000 in
theorem mX1_turn (l : Launch) (D : va_G) (T : Nat → ClassId) (σ : Nat → Nat) (M : Mem) (a1 : Int32) (post : Mem → Prop) (h : qX1_turn a1 M post) : Met l yX1_turn wsX1_turn rmX1_turn (preW D T LH σ [.ref (σ 11), .int a1] M) (postV D T LH σ post) 0 0 (fA LH σ) := by
  refine m_of (cc := cX1_turn) (maxL := 2) (ret := none) (own := RX1) (by decide) rfl rfl (Nat.le_of_ble_eq_true rfl) ?_
  intro p e s m args below meth c H ls locs S hr hlk hl hW
  have hl : lv_has ls 2 [(0, .ref (σ 11)), (1, .int a1)] := hl
  have inX1 : ∀ w ∈ u_ws RX1 TX1 13, w ∈ wsX1_turn := by decide +kernel
  have f54 := S.2.2.2.2 (.fieldLink RX1 54 "MachineHall$Hall" "ups" "I") (by decide +kernel)
  refine lv_aload_n S.1 S.2.1 dX1_turn_0 rfl (lv_at hl 0 rfl) ?_
  refine lv_dup S.1 S.2.1 dX1_turn_1 rfl ?_
  refine r_getI (j := 4) S hW inX1 rfl f54 rfl LH_11 (by decide) rfl dX1_turn_2 ?_
  refine lv_iconst (v := 1) S.1 S.2.1 dX1_turn_5 rfl ?_
  refine lv_iload_n S.1 S.2.1 dX1_turn_6 rfl (lv_at hl 1 rfl) ?_
  refine lv_ishl S.1 S.2.1 dX1_turn_7 ?_
  refine lv_ixor S.1 S.2.1 dX1_turn_8 ?_
  refine r_putI (j := 4) S hW inX1 rfl f54 rfl LH_11 (by decide) rfl tyX1 tyX1_ok nmX1 rfl rfl rfl dX1_turn_9 (fun M1 H locs eM1 hW => ?_)
  have h := h M1 eM1
  exact r_vret S hr hlk hW h dX1_turn_12
abbrev rmX3_forget : Room := { frames := 0, cells := 0, slots := 0, locals := 0 }
set_option maxHeartbeats 4000000 in
set_option maxRecDepth 100000 in
theorem mX3_forget (l : Launch) (D : va_G) (T : Nat → ClassId) (σ : Nat → Nat) (M : Mem)  (post : Mem → Prop) (h : qX3_forget M post) : Met l yX3_forget wsX3_forget rmX3_forget (preW D T LH σ [.ref (σ 21)] M) (postV D T LH σ post) 0 0 (fA LH σ) := by
  refine m_of (cc := cX3_forget) (maxL := 1) (ret := none) (own := RX3) (by decide) rfl rfl (Nat.le_of_ble_eq_true rfl) ?_
  intro p e s m args below meth c H ls locs S hr hlk hl hW
  have hl : lv_has ls 1 [(0, .ref (σ 21))] := hl
  have inX3 : ∀ w ∈ u_ws RX3 TX3 9, w ∈ wsX3_forget := by decide +kernel
  have f38 := S.2.2.2.2 (.fieldLink RX3 38 "MachineHall$Plan" "laidFor" "I") (by decide +kernel)
  refine lv_aload_n S.1 S.2.1 dX3_forget_0 rfl (lv_at hl 0 rfl) ?_
  refine lv_iconst (v := -1) S.1 S.2.1 dX3_forget_1 rfl ?_
  refine r_putI (j := 8) S hW inX3 rfl f38 rfl LH_21 (by decide) rfl tyX3 tyX3_ok nmX3 rfl rfl rfl dX3_forget_2 (fun M1 H locs eM1 hW => ?_)
  have h := h M1 eM1
  exact r_vret S hr hlk hW h dX3_forget_5
abbrev rmX1_markAsked : Room := { frames := 0, cells := 0, slots := 0, locals := 0 }
set_option maxHeartbeats 4000000 in
set_option maxRecDepth 100000 in
theorem mX1_markAsked (l : Launch) (D : va_G) (T : Nat → ClassId) (σ : Nat → Nat) (M : Mem) (a1 : Int32) (post : Mem → Prop) (h : qX1_markAsked a1 M post) : Met l yX1_markAsked wsX1_markAsked rmX1_markAsked (preW D T LH σ [.ref (σ 11), .int a1] M) (postV D T LH σ post) 0 0 (fA LH σ) := by
  refine m_of (cc := cX1_markAsked) (maxL := 3) (ret := none) (own := RX1) (by decide) rfl rfl (Nat.le_of_ble_eq_true rfl) ?_
  intro p e s m args below meth c H ls locs S hr hlk hl hW
  have hl : lv_has ls 3 [(0, .ref (σ 11)), (1, .int a1)] := hl
  have inX1 : ∀ w ∈ u_ws RX1 TX1 13, w ∈ wsX1_markAsked := by decide +kernel
  have f34 := S.2.2.2.2 (.fieldLink RX1 34 "MachineHall$Hall" "asked" "[Z") (by decide +kernel)
  obtain ⟨R2, e2⟩ : ∃ R : Int32 → Mem → Prop, ∀ x2 M, R x2 M ↔ WW p l e rmX1_markAsked s m args below meth c D T LH σ 3 (MQ below (postV D T LH σ post) args s 0 0 (fA LH σ)) 2 [(0, .ref (σ 11)), (1, .int a1), (2, .int x2)] [] M := ⟨_, fun _ _ => Iff.rfl⟩
  have h := h R2
  have z2 : ∀ x2 M, qX1_markAsked_b2 a1 post R2 x2 M → R2 x2 M := by
    intro x2 M h
    refine (e2 _ _).mpr (fun H locs ls hW hl => ?_)
    refine lv_iload_n S.1 S.2.1 dX1_markAsked_2 rfl (lv_at hl 2 rfl) ?_
    refine lv_if_le (tgt := 22) S.1 S.2.1 dX1_markAsked_3 (by decide) (fun c1 => ?_) (fun c1 => ?_)
    · have h := h.1 c1
      exact r_vret S hr hlk hW h dX1_markAsked_22
    · have h := h.2 c1
      refine lv_aload_n S.1 S.2.1 dX1_markAsked_6 rfl (lv_at hl 0 rfl) ?_
      refine r_getR (j := 10) S hW inX1 rfl f34 rfl LH_11 (by decide) rfl dX1_markAsked_7 ?_
      refine lv_iload_n S.1 S.2.1 dX1_markAsked_10 rfl (lv_at hl 2 rfl) ?_
      refine lv_iconst (v := 1) S.1 S.2.1 dX1_markAsked_11 rfl ?_
      have b2 := h.1
      have h := h.2
      refine r_zast S hW LH_19 b2 dX1_markAsked_12 (fun M3 H locs eM3 hW => ?_)
      have h := h M3 eM3
      refine lv_iload_n S.1 S.2.1 dX1_markAsked_13 rfl (lv_at hl 2 rfl) ?_
      refine lv_iconst (v := 1) S.1 S.2.1 dX1_markAsked_14 rfl ?_
      refine lv_isub S.1 S.2.1 dX1_markAsked_15 ?_
      refine lv_iload_n S.1 S.2.1 dX1_markAsked_16 rfl (lv_at hl 1 rfl) ?_
      refine lv_iand S.1 S.2.1 dX1_markAsked_17 ?_
      refine lv_topi (fun v4 ev4 => ?_)
      have h := h v4 ev4
      refine lv_istore_n (lv' := [(2, .int v4), (0, .ref (σ 11)), (1, .int a1)]) S.1 S.2.1 dX1_markAsked_18 rfl hl (by decide) rfl (fun ls hl => ?_)
      refine lv_goto (tgt := 2) S.1 S.2.1 dX1_markAsked_19 (by decide) ?_
      exact (e2 _ _).mp h H locs ls hW (lv_sub hl [1, 2, 0] rfl)
  have h := h z2
  refine lv_iload_n S.1 S.2.1 dX1_markAsked_0 rfl (lv_at hl 1 rfl) ?_
  refine lv_istore_n (lv' := [(2, .int a1), (0, .ref (σ 11)), (1, .int a1)]) S.1 S.2.1 dX1_markAsked_1 rfl hl (by decide) rfl (fun ls hl => ?_)
  exact (e2 _ _).mp h H locs ls hW (lv_sub hl [1, 2, 0] rfl)
abbrev rmX1_tally : Room := { frames := 0, cells := 0, slots := 0, locals := 0 }
set_option maxHeartbeats 4000000 in
set_option maxRecDepth 100000 in
theorem mX1_tally (l : Launch) (D : va_G) (T : Nat → ClassId) (σ : Nat → Nat) (M : Mem)  (post : Mem → Prop) (h : qX1_tally M post) : Met l yX1_tally wsX1_tally rmX1_tally (preW D T LH σ [.ref (σ 11)] M) (postV D T LH σ post) 0 0 (fA LH σ) := by
  refine m_of (cc := cX1_tally) (maxL := 4) (ret := none) (own := RX1) (by decide) rfl rfl (Nat.le_of_ble_eq_true rfl) ?_
  intro p e s m args below meth c H ls locs S hr hlk hl hW
  have hl : lv_has ls 4 [(0, .ref (σ 11))] := hl
  have inX1 : ∀ w ∈ u_ws RX1 TX1 13, w ∈ wsX1_tally := by decide +kernel
  have f40 := S.2.2.2.2 (.fieldLink RX1 40 "MachineHall$Hall" "latestFor" "I") (by decide +kernel)
  have f51 := S.2.2.2.2 (.fieldLink RX1 51 "MachineHall$Hall" "asks" "I") (by decide +kernel)
  have f27 := S.2.2.2.2 (.fieldLink RX1 27 "MachineHall$Hall" "load" "[I") (by decide +kernel)
  have f18 := S.2.2.2.2 (.fieldLink RX1 18 "MachineHall$Hall" "needs" "[I") (by decide +kernel)
  have f30 := S.2.2.2.2 (.fieldLink RX1 30 "MachineHall$Hall" "clash" "[Z") (by decide +kernel)
  have f21 := S.2.2.2.2 (.fieldLink RX1 21 "MachineHall$Hall" "foes" "[I") (by decide +kernel)
  obtain ⟨R7, e7⟩ : ∃ R : Int32 → Mem → Prop, ∀ x1 M, R x1 M ↔ WW p l e rmX1_tally s m args below meth c D T LH σ 4 (MQ below (postV D T LH σ post) args s 0 0 (fA LH σ)) 7 [(0, .ref (σ 11)), (1, .int x1)] [] M := ⟨_, fun _ _ => Iff.rfl⟩
  obtain ⟨R21, e21⟩ : ∃ R : Int32 → Int32 → Int32 → Mem → Prop, ∀ x1 x2 x3 M, R x1 x2 x3 M ↔ WW p l e rmX1_tally s m args below meth c D T LH σ 4 (MQ below (postV D T LH σ post) args s 0 0 (fA LH σ)) 21 [(0, .ref (σ 11)), (1, .int x1), (2, .int x2), (3, .int x3)] [] M := ⟨_, fun _ _ _ _ => Iff.rfl⟩
  have h := h R7 R21
  have z7 : ∀ x1 M, qX1_tally_b7 post R7 R21 x1 M → R7 x1 M := by
    intro x1 M h
    refine (e7 _ _).mpr (fun H locs ls hW hl => ?_)
    refine lv_iload_n S.1 S.2.1 dX1_tally_7 rfl (lv_at hl 1 rfl) ?_
    refine lv_aload_n S.1 S.2.1 dX1_tally_8 rfl (lv_at hl 0 rfl) ?_
    refine r_getI (j := 1) S hW inX1 rfl f51 rfl LH_11 (by decide) rfl dX1_tally_9 ?_
    refine lv_icmp_ge (tgt := 92) S.1 S.2.1 dX1_tally_12 (by decide) (fun c2 => ?_) (fun c2 => ?_)
    · have h := h.1 c2
      exact r_vret S hr hlk hW h dX1_tally_92
    · have h := h.2 c2
      refine lv_iconst (v := 1) S.1 S.2.1 dX1_tally_15 rfl ?_
      refine lv_iload_n S.1 S.2.1 dX1_tally_16 rfl (lv_at hl 1 rfl) ?_
      refine lv_ishl S.1 S.2.1 dX1_tally_17 ?_
      refine lv_topi (fun v3 ev3 => ?_)
      have h := h v3 ev3
      refine lv_istore_n (lv' := [(2, .int v3), (0, .ref (σ 11)), (1, .int x1)]) S.1 S.2.1 dX1_tally_18 rfl hl (by decide) rfl (fun ls hl => ?_)
      refine lv_iconst (v := 0) S.1 S.2.1 dX1_tally_19 rfl ?_
      refine lv_istore_n (lv' := [(3, .int (0 : Int32)), (2, .int v3), (0, .ref (σ 11)), (1, .int x1)]) S.1 S.2.1 dX1_tally_20 rfl hl (by decide) rfl (fun ls hl => ?_)
      exact (e21 _ _ _ _).mp h H locs ls hW (lv_sub hl [2, 3, 1, 0] rfl)
  have z21 : ∀ x1 x2 x3 M, qX1_tally_b21 post R7 R21 x1 x2 x3 M → R21 x1 x2 x3 M := by
    intro x1 x2 x3 M h
    refine (e21 _ _ _ _).mpr (fun H locs ls hW hl => ?_)
    refine lv_iload_n S.1 S.2.1 dX1_tally_21 rfl (lv_at hl 3 rfl) ?_
    refine lv_iload_n S.1 S.2.1 dX1_tally_22 rfl (lv_at hl 2 rfl) ?_
    refine lv_icmp_ge (tgt := 86) S.1 S.2.1 dX1_tally_23 (by decide) (fun c4 => ?_) (fun c4 => ?_)
    · have h := h.1 c4
      obtain ⟨v5, ev5⟩ : ∃ y : Int32, y = x1 + 1 := ⟨_, rfl⟩
      have h := h v5 ev5
      refine lv_iinc (v := v5) (lv' := [(1, .int v5), (0, .ref (σ 11)), (2, .int x2), (3, .int x3)]) S.1 S.2.1 dX1_tally_86 hl (k := 1) rfl (by rw [ev5]; rfl) (by decide) rfl (fun ls hl => ?_)
      refine lv_goto (tgt := 7) S.1 S.2.1 dX1_tally_89 (by decide) ?_
      exact (e7 _ _).mp h H locs ls hW (lv_sub hl [1, 0] rfl)
    · have h := h.2 c4
      refine lv_aload_n S.1 S.2.1 dX1_tally_26 rfl (lv_at hl 0 rfl) ?_
      refine r_getR (j := 8) S hW inX1 rfl f27 rfl LH_11 (by decide) rfl dX1_tally_27 ?_
      refine lv_iload_n S.1 S.2.1 dX1_tally_30 rfl (lv_at hl 2 rfl) ?_
      refine lv_iload_n S.1 S.2.1 dX1_tally_31 rfl (lv_at hl 3 rfl) ?_
      refine lv_ior S.1 S.2.1 dX1_tally_32 ?_
      refine lv_aload_n S.1 S.2.1 dX1_tally_33 rfl (lv_at hl 0 rfl) ?_
      refine r_getR (j := 8) S hW inX1 rfl f27 rfl LH_11 (by decide) rfl dX1_tally_34 ?_
      refine lv_iload_n S.1 S.2.1 dX1_tally_37 rfl (lv_at hl 3 rfl) ?_
      have b6 := h.1
      have h := h.2
      refine r_iald S hW LH_17 b6 dX1_tally_38 ?_
      refine lv_aload_n S.1 S.2.1 dX1_tally_39 rfl (lv_at hl 0 rfl) ?_
      refine r_getR (j := 5) S hW inX1 rfl f18 rfl LH_11 (by decide) rfl dX1_tally_40 ?_
      refine lv_iload_n S.1 S.2.1 dX1_tally_43 rfl (lv_at hl 1 rfl) ?_
      have b7 := h.1
      have h := h.2
      refine r_iald S hW LH_14 b7 dX1_tally_44 ?_
      refine lv_iadd S.1 S.2.1 dX1_tally_45 ?_
      have b8 := h.1
      have h := h.2
      refine r_iast S hW LH_17 b8 dX1_tally_46 (fun M9 H locs eM9 hW => ?_)
      have h := h M9 eM9
      refine lv_aload_n S.1 S.2.1 dX1_tally_47 rfl (lv_at hl 0 rfl) ?_
      refine r_getR (j := 9) S hW inX1 rfl f30 rfl LH_11 (by decide) rfl dX1_tally_48 ?_
      refine lv_iload_n S.1 S.2.1 dX1_tally_51 rfl (lv_at hl 2 rfl) ?_
      refine lv_iload_n S.1 S.2.1 dX1_tally_52 rfl (lv_at hl 3 rfl) ?_
      refine lv_ior S.1 S.2.1 dX1_tally_53 ?_
      refine lv_aload_n S.1 S.2.1 dX1_tally_54 rfl (lv_at hl 0 rfl) ?_
      refine r_getR (j := 9) S hW inX1 rfl f30 rfl LH_11 (by decide) rfl dX1_tally_55 ?_
      refine lv_iload_n S.1 S.2.1 dX1_tally_58 rfl (lv_at hl 3 rfl) ?_
      have b10 := h.1
      have h := h.2
      refine r_zald S hW LH_18 b10 dX1_tally_59 ?_
      refine lv_if_ne (tgt := 74) S.1 S.2.1 dX1_tally_60 (by decide) (fun c11 => ?_) (fun c11 => ?_)
      · have h := h.1 c11
        refine lv_iconst (v := 1) S.1 S.2.1 dX1_tally_74 rfl ?_
        refine lv_goto (tgt := 79) S.1 S.2.1 dX1_tally_75 (by decide) ?_
        have b12 := h.1
        have h := h.2
        refine r_zast S hW LH_18 b12 dX1_tally_79 (fun M13 H locs eM13 hW => ?_)
        have h := h M13 eM13
        obtain ⟨v14, ev14⟩ : ∃ y : Int32, y = x3 + 1 := ⟨_, rfl⟩
        have h := h v14 ev14
        refine lv_iinc (v := v14) (lv' := [(3, .int v14), (0, .ref (σ 11)), (1, .int x1), (2, .int x2)]) S.1 S.2.1 dX1_tally_80 hl (k := 3) rfl (by rw [ev14]; rfl) (by decide) rfl (fun ls hl => ?_)
        refine lv_goto (tgt := 21) S.1 S.2.1 dX1_tally_83 (by decide) ?_
        exact (e21 _ _ _ _).mp h H locs ls hW (lv_sub hl [1, 2, 3, 0] rfl)
      · have h := h.2 c11
        refine lv_aload_n S.1 S.2.1 dX1_tally_63 rfl (lv_at hl 0 rfl) ?_
        refine r_getR (j := 6) S hW inX1 rfl f21 rfl LH_11 (by decide) rfl dX1_tally_64 ?_
        refine lv_iload_n S.1 S.2.1 dX1_tally_67 rfl (lv_at hl 1 rfl) ?_
        have b15 := h.1
        have h := h.2
        refine r_iald S hW LH_15 b15 dX1_tally_68 ?_
        refine lv_iload_n S.1 S.2.1 dX1_tally_69 rfl (lv_at hl 3 rfl) ?_
        refine lv_iand S.1 S.2.1 dX1_tally_70 ?_
        refine lv_if_eq (tgt := 78) S.1 S.2.1 dX1_tally_71 (by decide) (fun c16 => ?_) (fun c16 => ?_)
        · have h := h.1 c16
          refine lv_iconst (v := 0) S.1 S.2.1 dX1_tally_78 rfl ?_
          have b17 := h.1
          have h := h.2
          refine r_zast S hW LH_18 b17 dX1_tally_79 (fun M18 H locs eM18 hW => ?_)
          have h := h M18 eM18
          obtain ⟨v19, ev19⟩ : ∃ y : Int32, y = x3 + 1 := ⟨_, rfl⟩
          have h := h v19 ev19
          refine lv_iinc (v := v19) (lv' := [(3, .int v19), (0, .ref (σ 11)), (1, .int x1), (2, .int x2)]) S.1 S.2.1 dX1_tally_80 hl (k := 3) rfl (by rw [ev19]; rfl) (by decide) rfl (fun ls hl => ?_)
          refine lv_goto (tgt := 21) S.1 S.2.1 dX1_tally_83 (by decide) ?_
          exact (e21 _ _ _ _).mp h H locs ls hW (lv_sub hl [1, 2, 3, 0] rfl)
        · have h := h.2 c16
          refine lv_iconst (v := 1) S.1 S.2.1 dX1_tally_74 rfl ?_
          refine lv_goto (tgt := 79) S.1 S.2.1 dX1_tally_75 (by decide) ?_
          have b20 := h.1
          have h := h.2
          refine r_zast S hW LH_18 b20 dX1_tally_79 (fun M21 H locs eM21 hW => ?_)
          have h := h M21 eM21
          obtain ⟨v22, ev22⟩ : ∃ y : Int32, y = x3 + 1 := ⟨_, rfl⟩
          have h := h v22 ev22
          refine lv_iinc (v := v22) (lv' := [(3, .int v22), (0, .ref (σ 11)), (1, .int x1), (2, .int x2)]) S.1 S.2.1 dX1_tally_80 hl (k := 3) rfl (by rw [ev22]; rfl) (by decide) rfl (fun ls hl => ?_)
          refine lv_goto (tgt := 21) S.1 S.2.1 dX1_tally_83 (by decide) ?_
          exact (e21 _ _ _ _).mp h H locs ls hW (lv_sub hl [1, 2, 3, 0] rfl)
  have h := h z7 z21
  refine lv_aload_n S.1 S.2.1 dX1_tally_0 rfl (lv_at hl 0 rfl) ?_
  refine lv_iconst (v := -1) S.1 S.2.1 dX1_tally_1 rfl ?_
  refine r_putI (j := 12) S hW inX1 rfl f40 rfl LH_11 (by decide) rfl tyX1 tyX1_ok nmX1 rfl rfl rfl dX1_tally_2 (fun M1 H locs eM1 hW => ?_)
  have h := h M1 eM1
  refine lv_iconst (v := 0) S.1 S.2.1 dX1_tally_5 rfl ?_
  refine lv_istore_n (lv' := [(1, .int (0 : Int32)), (0, .ref (σ 11))]) S.1 S.2.1 dX1_tally_6 rfl hl (by decide) rfl (fun ls hl => ?_)
  exact (e7 _ _).mp h H locs ls hW (lv_sub hl [1, 0] rfl)
abbrev rmX1_addAsk : Room := { frames := 1, cells := 0, slots := 0, locals := 23 }
set_option maxHeartbeats 4000000 in
set_option maxRecDepth 100000 in
theorem mX1_addAsk (l : Launch) (D : va_G) (T : Nat → ClassId) (σ : Nat → Nat) (M : Mem) (a1 : Int32) (a2 : Int32) (a3 : Int32) (post : Int32 → Mem → Prop) (h : qX1_addAsk a1 a2 a3 M post) : Met l yX1_addAsk wsX1_addAsk rmX1_addAsk (preW D T LH σ [.ref (σ 11), .int a1, .int a2, .int a3] M) (postI D T LH σ post) 0 0 (fA LH σ) := by
  refine m_of (cc := cX1_addAsk) (maxL := 6) (ret := (some .int)) (own := RX1) (by decide) rfl rfl (Nat.le_of_ble_eq_true rfl) ?_
  intro p e s m args below meth c H ls locs S hr hlk hl hW
  have hl : lv_has ls 6 [(0, .ref (σ 11)), (1, .int a1), (2, .int a2), (3, .int a3)] := hl
  have inX1 : ∀ w ∈ u_ws RX1 TX1 13, w ∈ wsX1_addAsk := by decide +kernel
  have f51 := S.2.2.2.2 (.fieldLink RX1 51 "MachineHall$Hall" "asks" "I") (by decide +kernel)
  have f18 := S.2.2.2.2 (.fieldLink RX1 18 "MachineHall$Hall" "needs" "[I") (by decide +kernel)
  have w65 := cwV (R := rmX1_addAsk) (rm := rmX1_tally) (mc := 0) (ms := 0) 0 S.2.2.2.2 gX1_addAsk_X1_tally rfl rfl rfl (by decide +kernel) ⟨Nat.le_of_ble_eq_true rfl, Nat.le_of_ble_eq_true rfl⟩
  have f24 := S.2.2.2.2 (.fieldLink RX1 24 "MachineHall$Hall" "ofHour" "[I") (by decide +kernel)
  have w61 := cwV (R := rmX1_addAsk) (rm := rmX1_markAsked) (mc := 0) (ms := 0) 1 S.2.2.2.2 gX1_addAsk_X1_markAsked rfl rfl rfl (by decide +kernel) ⟨Nat.le_of_ble_eq_true rfl, Nat.le_of_ble_eq_true rfl⟩
  obtain ⟨R24, e24⟩ : ∃ R : Int32 → Int32 → Mem → Prop, ∀ x4 x5 M, R x4 x5 M ↔ WW p l e rmX1_addAsk s m args below meth c D T LH σ 6 (MQ below (postI D T LH σ post) args s 0 0 (fA LH σ)) 24 [(0, .ref (σ 11)), (3, .int a3), (4, .int x4), (5, .int x5)] [] M := ⟨_, fun _ _ _ => Iff.rfl⟩
  have h := h R24
  have z24 : ∀ x4 x5 M, qX1_addAsk_b24 a1 a2 a3 post R24 x4 x5 M → R24 x4 x5 M := by
    intro x4 x5 M h
    refine (e24 _ _ _).mpr (fun H locs ls hW hl => ?_)
    refine lv_iload S.1 S.2.1 dX1_addAsk_24 (lv_at hl 3 rfl) ?_
    refine lv_iload_n S.1 S.2.1 dX1_addAsk_26 rfl (lv_at hl 1 rfl) ?_
    refine lv_icmp_gt (tgt := 61) S.1 S.2.1 dX1_addAsk_27 (by decide) (fun c5 => ?_) (fun c5 => ?_)
    · have h := h.1 c5
      refine lv_aload_n S.1 S.2.1 dX1_addAsk_61 rfl (lv_at hl 0 rfl) ?_
      refine r_goV (r_runV (rest := []) S hW (mX1_tally l D T σ M _ h) w65 rfl LH_11 rfl hl.1 rfl (Nat.le_of_ble_eq_true rfl) dX1_addAsk_62 ⟨Nat.zero_le _, Nat.zero_le _⟩) hW (fun M7 H locs h hW => ?_)
      refine lv_iload S.1 S.2.1 dX1_addAsk_65 (lv_at hl 2 rfl) ?_
      exact r_iret S hr hlk hW h dX1_addAsk_67
    · have h := h.2 c5
      refine lv_aload_n S.1 S.2.1 dX1_addAsk_30 rfl (lv_at hl 0 rfl) ?_
      refine r_getR (j := 7) S hW inX1 rfl f24 rfl LH_11 (by decide) rfl dX1_addAsk_31 ?_
      refine lv_iload S.1 S.2.1 dX1_addAsk_34 (lv_at hl 3 rfl) ?_
      refine lv_dup2_11 S.1 S.2.1 dX1_addAsk_36 rfl rfl ?_
      have b8 := h.1
      have h := h.2
      refine r_iald S hW LH_16 b8 dX1_addAsk_37 ?_
      refine lv_iconst (v := 1) S.1 S.2.1 dX1_addAsk_38 rfl ?_
      refine lv_iload S.1 S.2.1 dX1_addAsk_39 (lv_at hl 2 rfl) ?_
      refine lv_ishl S.1 S.2.1 dX1_addAsk_41 ?_
      refine lv_ior S.1 S.2.1 dX1_addAsk_42 ?_
      have b9 := h.1
      have h := h.2
      refine r_iast S hW LH_16 b9 dX1_addAsk_43 (fun M10 H locs eM10 hW => ?_)
      have h := h M10 eM10
      refine lv_aload_n S.1 S.2.1 dX1_addAsk_44 rfl (lv_at hl 0 rfl) ?_
      refine lv_aload_n S.1 S.2.1 dX1_addAsk_45 rfl (lv_at hl 0 rfl) ?_
      refine r_getR (j := 7) S hW inX1 rfl f24 rfl LH_11 (by decide) rfl dX1_addAsk_46 ?_
      refine lv_iload S.1 S.2.1 dX1_addAsk_49 (lv_at hl 3 rfl) ?_
      have b11 := h.1
      have h := h.2
      refine r_iald S hW LH_16 b11 dX1_addAsk_51 ?_
      refine r_goV (r_runV (rest := []) S hW (mX1_markAsked l D T σ M10 (M10.1 16 x5.toNatClampNeg) _ h) w61 rfl LH_11 rfl hl.1 rfl (Nat.le_of_ble_eq_true rfl) dX1_addAsk_52 ⟨Nat.zero_le _, Nat.zero_le _⟩) hW (fun M13 H locs h hW => ?_)
      obtain ⟨v14, ev14⟩ : ∃ y : Int32, y = x5 + 1 := ⟨_, rfl⟩
      have h := h v14 ev14
      refine lv_iinc (v := v14) (lv' := [(5, .int v14), (0, .ref (σ 11)), (3, .int a3), (4, .int x4)]) S.1 S.2.1 dX1_addAsk_55 hl (k := 3) rfl (by rw [ev14]; rfl) (by decide) rfl (fun ls hl => ?_)
      refine lv_goto (tgt := 24) S.1 S.2.1 dX1_addAsk_58 (by decide) ?_
      exact (e24 _ _ _).mp h H locs ls hW (lv_sub hl [1, 2, 3, 0] rfl)
  have h := h z24
  refine lv_aload_n S.1 S.2.1 dX1_addAsk_0 rfl (lv_at hl 0 rfl) ?_
  refine lv_dup S.1 S.2.1 dX1_addAsk_1 rfl ?_
  refine r_getI (j := 1) S hW inX1 rfl f51 rfl LH_11 (by decide) rfl dX1_addAsk_2 ?_
  refine lv_dup_x1 S.1 S.2.1 dX1_addAsk_5 rfl rfl ?_
  refine lv_iconst (v := 1) S.1 S.2.1 dX1_addAsk_6 rfl ?_
  refine lv_iadd S.1 S.2.1 dX1_addAsk_7 ?_
  refine r_putI (j := 1) S hW inX1 rfl f51 rfl LH_11 (by decide) rfl tyX1 tyX1_ok nmX1 rfl rfl rfl dX1_addAsk_8 (fun M1 H locs eM1 hW => ?_)
  have h := h M1 eM1
  refine lv_topi (fun v2 ev2 => ?_)
  have h := h v2 ev2
  refine lv_istore (lv' := [(4, .int v2), (0, .ref (σ 11)), (1, .int a1), (2, .int a2), (3, .int a3)]) S.1 S.2.1 dX1_addAsk_11 hl (by decide) rfl (fun ls hl => ?_)
  refine lv_aload_n S.1 S.2.1 dX1_addAsk_13 rfl (lv_at hl 1 rfl) ?_
  refine r_getR (j := 5) S hW inX1 rfl f18 rfl LH_11 (by decide) rfl dX1_addAsk_14 ?_
  refine lv_iload S.1 S.2.1 dX1_addAsk_17 (lv_at hl 0 rfl) ?_
  refine lv_iload_n S.1 S.2.1 dX1_addAsk_19 rfl (lv_at hl 2 rfl) ?_
  have b3 := h.1
  have h := h.2
  refine r_iast S hW LH_14 b3 dX1_addAsk_20 (fun M4 H locs eM4 hW => ?_)
  have h := h M4 eM4
  refine lv_iload_n S.1 S.2.1 dX1_addAsk_21 rfl (lv_at hl 3 rfl) ?_
  refine lv_istore (lv' := [(5, .int a2), (4, .int v2), (0, .ref (σ 11)), (1, .int a1), (2, .int a2), (3, .int a3)]) S.1 S.2.1 dX1_addAsk_22 hl (by decide) rfl (fun ls hl => ?_)
  exact (e24 _ _ _).mp h H locs ls hW (lv_sub hl [2, 5, 1, 0] rfl)
abbrev rmX1_hasAsk : Room := { frames := 1, cells := 0, slots := 0, locals := 23 }
set_option maxHeartbeats 4000000 in
set_option maxRecDepth 100000 in
theorem mX1_hasAsk (l : Launch) (D : va_G) (T : Nat → ClassId) (σ : Nat → Nat) (M : Mem) (a1 : Int32) (post : Int32 → Mem → Prop) (h : qX1_hasAsk a1 M post) : Met l yX1_hasAsk wsX1_hasAsk rmX1_hasAsk (preW D T LH σ [.ref (σ 11), .int a1] M) (postI D T LH σ post) 0 0 (fA LH σ) := by
  refine m_of (cc := cX1_hasAsk) (maxL := 2) (ret := (some .boolean)) (own := RX1) (by decide) rfl rfl (Nat.le_of_ble_eq_true rfl) ?_
  intro p e s m args below meth c H ls locs S hr hlk hl hW
  have hl : lv_has ls 2 [(0, .ref (σ 11)), (1, .int a1)] := hl
  have inX1 : ∀ w ∈ u_ws RX1 TX1 13, w ∈ wsX1_hasAsk := by decide +kernel
  have f51 := S.2.2.2.2 (.fieldLink RX1 51 "MachineHall$Hall" "asks" "I") (by decide +kernel)
  have w44 := va_cnB (args := args) (R := rmX1_hasAsk) (rm := rmX6_within) (mc := 0) (ms := 0) 3 S.2.2.2.2 gX1_hasAsk_X6_within_n44 rfl rfl rfl hW.2.2.2.2.2.1 (S.2.2.2.2 (.initialized RX6) (by decide +kernel)) (by decide +kernel) ⟨Nat.le_of_ble_eq_true rfl, Nat.le_of_ble_eq_true rfl⟩
  have stX6_within := S.2.2.2.2 (.static yX6_within) (by decide +kernel)
  refine lv_iload_n S.1 S.2.1 dX1_hasAsk_0 rfl (lv_at hl 1 rfl) ?_
  refine lv_i2l S.1 S.2.1 dX1_hasAsk_1 rfl ?_
  refine lv_iconst (v := 0) S.1 S.2.1 dX1_hasAsk_2 rfl ?_
  refine lv_aload_n S.1 S.2.1 dX1_hasAsk_3 rfl (lv_at hl 0 rfl) ?_
  refine r_getI (j := 1) S hW inX1 rfl f51 rfl LH_11 (by decide) rfl dX1_hasAsk_4 ?_
  refine lv_iconst (v := 1) S.1 S.2.1 dX1_hasAsk_7 rfl ?_
  refine lv_isub S.1 S.2.1 dX1_hasAsk_8 ?_
  refine r_goI (r_runN (rest := []) S hW (mX6_within l D T LH σ M (a1.toInt64) (0 : Int32) ((M.1 11 1) - (1 : Int32)) _ h) w44 stX6_within rfl hl.1 rfl (Nat.le_of_ble_eq_true rfl) dX1_hasAsk_9 ⟨Nat.zero_le _, Nat.zero_le _⟩) hW (fun r1 M2 H locs h hW => ?_)
  exact r_zret S hr hlk hW h.1 h.2 dX1_hasAsk_12
abbrev rmX1_areFoes : Room := { frames := 1, cells := 0, slots := 0, locals := 21 }
set_option maxHeartbeats 4000000 in
set_option maxRecDepth 100000 in
theorem mX1_areFoes (l : Launch) (D : va_G) (T : Nat → ClassId) (σ : Nat → Nat) (M : Mem) (a1 : Int32) (a2 : Int32) (post : Int32 → Mem → Prop) (h : qX1_areFoes a1 a2 M post) : Met l yX1_areFoes wsX1_areFoes rmX1_areFoes (preW D T LH σ [.ref (σ 11), .int a1, .int a2] M) (postI D T LH σ post) 0 0 (fA LH σ) := by
  refine m_of (cc := cX1_areFoes) (maxL := 3) (ret := (some .boolean)) (own := RX1) (by decide) rfl rfl (Nat.le_of_ble_eq_true rfl) ?_
  intro p e s m args below meth c H ls locs S hr hlk hl hW
  have hl : lv_has ls 3 [(0, .ref (σ 11)), (1, .int a1), (2, .int a2)] := hl
  have inX1 : ∀ w ∈ u_ws RX1 TX1 13, w ∈ wsX1_areFoes := by decide +kernel
  have f21 := S.2.2.2.2 (.fieldLink RX1 21 "MachineHall$Hall" "foes" "[I") (by decide +kernel)
  have w57 := va_cwS (R := rmX1_areFoes) (rm := rmX1_has) (mc := 0) (ms := 0) 2 S.2.2.2.2 gX1_areFoes_X1_has rfl rfl rfl (by decide +kernel) ⟨Nat.le_of_ble_eq_true rfl, Nat.le_of_ble_eq_true rfl⟩
  refine lv_aload_n S.1 S.2.1 dX1_areFoes_0 rfl (lv_at hl 0 rfl) ?_
  refine r_getR (j := 6) S hW inX1 rfl f21 rfl LH_11 (by decide) rfl dX1_areFoes_1 ?_
  refine lv_iload_n S.1 S.2.1 dX1_areFoes_4 rfl (lv_at hl 1 rfl) ?_
  have b1 := h.1
  have h := h.2
  refine r_iald S hW LH_15 b1 dX1_areFoes_5 ?_
  refine lv_iload_n S.1 S.2.1 dX1_areFoes_6 rfl (lv_at hl 2 rfl) ?_
  refine r_goI (r_runS (rest := []) S hW (mX1_has l D T σ M (M.1 15 a1.toNatClampNeg) a2 _ h) w57 rfl hl.1 rfl (Nat.le_of_ble_eq_true rfl) dX1_areFoes_7 ⟨Nat.zero_le _, Nat.zero_le _⟩) hW (fun r2 M3 H locs h hW => ?_)
  exact r_zret S hr hlk hW h.1 h.2 dX1_areFoes_10
abbrev rmX1_turnFoes : Room := { frames := 1, cells := 0, slots := 0, locals := 23 }
set_option maxHeartbeats 4000000 in
set_option maxRecDepth 100000 in
theorem mX1_turnFoes (l : Launch) (D : va_G) (T : Nat → ClassId) (σ : Nat → Nat) (M : Mem) (a1 : Int32) (a2 : Int32) (post : Mem → Prop) (h : qX1_turnFoes a1 a2 M post) : Met l yX1_turnFoes wsX1_turnFoes rmX1_turnFoes (preW D T LH σ [.ref (σ 11), .int a1, .int a2] M) (postV D T LH σ post) 0 0 (fA LH σ) := by
  refine m_of (cc := cX1_turnFoes) (maxL := 3) (ret := none) (own := RX1) (by decide) rfl rfl (Nat.le_of_ble_eq_true rfl) ?_
  intro p e s m args below meth c H ls locs S hr hlk hl hW
  have hl : lv_has ls 3 [(0, .ref (σ 11)), (1, .int a1), (2, .int a2)] := hl
  have inX1 : ∀ w ∈ u_ws RX1 TX1 13, w ∈ wsX1_turnFoes := by decide +kernel
  have f21 := S.2.2.2.2 (.fieldLink RX1 21 "MachineHall$Hall" "foes" "[I") (by decide +kernel)
  have w65 := cwV (R := rmX1_turnFoes) (rm := rmX1_tally) (mc := 0) (ms := 0) 0 S.2.2.2.2 gX1_turnFoes_X1_tally rfl rfl rfl (by decide +kernel) ⟨Nat.le_of_ble_eq_true rfl, Nat.le_of_ble_eq_true rfl⟩
  refine lv_aload_n S.1 S.2.1 dX1_turnFoes_0 rfl (lv_at hl 0 rfl) ?_
  refine r_getR (j := 6) S hW inX1 rfl f21 rfl LH_11 (by decide) rfl dX1_turnFoes_1 ?_
  refine lv_iload_n S.1 S.2.1 dX1_turnFoes_4 rfl (lv_at hl 1 rfl) ?_
  refine lv_dup2_11 S.1 S.2.1 dX1_turnFoes_5 rfl rfl ?_
  have b1 := h.1
  have h := h.2
  refine r_iald S hW LH_15 b1 dX1_turnFoes_6 ?_
  refine lv_iconst (v := 1) S.1 S.2.1 dX1_turnFoes_7 rfl ?_
  refine lv_iload_n S.1 S.2.1 dX1_turnFoes_8 rfl (lv_at hl 2 rfl) ?_
  refine lv_ishl S.1 S.2.1 dX1_turnFoes_9 ?_
  refine lv_ixor S.1 S.2.1 dX1_turnFoes_10 ?_
  have b2 := h.1
  have h := h.2
  refine r_iast S hW LH_15 b2 dX1_turnFoes_11 (fun M3 H locs eM3 hW => ?_)
  have h := h M3 eM3
  refine lv_aload_n S.1 S.2.1 dX1_turnFoes_12 rfl (lv_at hl 0 rfl) ?_
  refine r_getR (j := 6) S hW inX1 rfl f21 rfl LH_11 (by decide) rfl dX1_turnFoes_13 ?_
  refine lv_iload_n S.1 S.2.1 dX1_turnFoes_16 rfl (lv_at hl 2 rfl) ?_
  refine lv_dup2_11 S.1 S.2.1 dX1_turnFoes_17 rfl rfl ?_
  have b4 := h.1
  have h := h.2
  refine r_iald S hW LH_15 b4 dX1_turnFoes_18 ?_
  refine lv_iconst (v := 1) S.1 S.2.1 dX1_turnFoes_19 rfl ?_
  refine lv_iload_n S.1 S.2.1 dX1_turnFoes_20 rfl (lv_at hl 1 rfl) ?_
  refine lv_ishl S.1 S.2.1 dX1_turnFoes_21 ?_
  refine lv_ixor S.1 S.2.1 dX1_turnFoes_22 ?_
  have b5 := h.1
  have h := h.2
  refine r_iast S hW LH_15 b5 dX1_turnFoes_23 (fun M6 H locs eM6 hW => ?_)
  have h := h M6 eM6
  refine lv_aload_n S.1 S.2.1 dX1_turnFoes_24 rfl (lv_at hl 0 rfl) ?_
  refine r_goV (r_runV (rest := []) S hW (mX1_tally l D T σ M6 _ h) w65 rfl LH_11 rfl hl.1 rfl (Nat.le_of_ble_eq_true rfl) dX1_turnFoes_25 ⟨Nat.zero_le _, Nat.zero_le _⟩) hW (fun M8 H locs h hW => ?_)
  exact r_vret S hr hlk hW h dX1_turnFoes_28
abbrev rmX1_standing : Room := { frames := 0, cells := 0, slots := 0, locals := 0 }
set_option maxHeartbeats 4000000 in
set_option maxRecDepth 100000 in
theorem mX1_standing (l : Launch) (D : va_G) (T : Nat → ClassId) (σ : Nat → Nat) (M : Mem) (a1 : Int32) (post : Int32 → Mem → Prop) (h : qX1_standing a1 M post) : Met l yX1_standing wsX1_standing rmX1_standing (preW D T LH σ [.ref (σ 11), .int a1] M) (postI D T LH σ post) 0 0 (fA LH σ) := by
  refine m_of (cc := cX1_standing) (maxL := 2) (ret := (some .int)) (own := RX1) (by decide) rfl rfl (Nat.le_of_ble_eq_true rfl) ?_
  intro p e s m args below meth c H ls locs S hr hlk hl hW
  have hl : lv_has ls 2 [(0, .ref (σ 11)), (1, .int a1)] := hl
  have inX1 : ∀ w ∈ u_ws RX1 TX1 13, w ∈ wsX1_standing := by decide +kernel
  have f54 := S.2.2.2.2 (.fieldLink RX1 54 "MachineHall$Hall" "ups" "I") (by decide +kernel)
  have f15 := S.2.2.2.2 (.fieldLink RX1 15 "MachineHall$Hall" "inRoom" "[I") (by decide +kernel)
  refine lv_iload_n S.1 S.2.1 dX1_standing_0 rfl (lv_at hl 1 rfl) ?_
  refine lv_if_ne (tgt := 9) S.1 S.2.1 dX1_standing_1 (by decide) (fun c1 => ?_) (fun c1 => ?_)
  · have h := h.1 c1
    refine lv_iload_n S.1 S.2.1 dX1_standing_9 rfl (lv_at hl 1 rfl) ?_
    refine lv_bipush (v := 12) S.1 S.2.1 dX1_standing_10 rfl ?_
    refine lv_icmp_gt (tgt := 30) S.1 S.2.1 dX1_standing_12 (by decide) (fun c2 => ?_) (fun c2 => ?_)
    · have h := h.1 c2
      refine lv_aload_n S.1 S.2.1 dX1_standing_30 rfl (lv_at hl 0 rfl) ?_
      refine r_getI (j := 4) S hW inX1 rfl f54 rfl LH_11 (by decide) rfl dX1_standing_31 ?_
      refine lv_aload_n S.1 S.2.1 dX1_standing_34 rfl (lv_at hl 0 rfl) ?_
      refine r_getR (j := 3) S hW inX1 rfl f15 rfl LH_11 (by decide) rfl dX1_standing_35 ?_
      refine lv_iload_n S.1 S.2.1 dX1_standing_38 rfl (lv_at hl 1 rfl) ?_
      refine lv_bipush (v := 12) S.1 S.2.1 dX1_standing_39 rfl ?_
      refine lv_isub S.1 S.2.1 dX1_standing_41 ?_
      refine lv_iconst (v := 1) S.1 S.2.1 dX1_standing_42 rfl ?_
      refine lv_isub S.1 S.2.1 dX1_standing_43 ?_
      have b3 := h.1
      have h := h.2
      refine r_iald S hW LH_13 b3 dX1_standing_44 ?_
      refine lv_iconst (v := -1) S.1 S.2.1 dX1_standing_45 rfl ?_
      refine lv_ixor S.1 S.2.1 dX1_standing_46 ?_
      refine lv_iand S.1 S.2.1 dX1_standing_47 ?_
      exact r_iret S hr hlk hW h dX1_standing_48
    · have h := h.2 c2
      refine lv_aload_n S.1 S.2.1 dX1_standing_15 rfl (lv_at hl 0 rfl) ?_
      refine r_getI (j := 4) S hW inX1 rfl f54 rfl LH_11 (by decide) rfl dX1_standing_16 ?_
      refine lv_iconst (v := 1) S.1 S.2.1 dX1_standing_19 rfl ?_
      refine lv_iload_n S.1 S.2.1 dX1_standing_20 rfl (lv_at hl 1 rfl) ?_
      refine lv_iconst (v := 1) S.1 S.2.1 dX1_standing_21 rfl ?_
      refine lv_isub S.1 S.2.1 dX1_standing_22 ?_
      refine lv_ishl S.1 S.2.1 dX1_standing_23 ?_
      refine lv_iconst (v := -1) S.1 S.2.1 dX1_standing_24 rfl ?_
      refine lv_ixor S.1 S.2.1 dX1_standing_25 ?_
      refine lv_iand S.1 S.2.1 dX1_standing_26 ?_
      refine lv_goto (tgt := 48) S.1 S.2.1 dX1_standing_27 (by decide) ?_
      exact r_iret S hr hlk hW h dX1_standing_48
  · have h := h.2 c1
    refine lv_aload_n S.1 S.2.1 dX1_standing_4 rfl (lv_at hl 0 rfl) ?_
    refine r_getI (j := 4) S hW inX1 rfl f54 rfl LH_11 (by decide) rfl dX1_standing_5 ?_
    exact r_iret S hr hlk hW h dX1_standing_8
abbrev rmX1_sizeOf : Room := { frames := 1, cells := 0, slots := 0, locals := 21 }
set_option maxHeartbeats 4000000 in
set_option maxRecDepth 100000 in
theorem mX1_sizeOf (l : Launch) (D : va_G) (T : Nat → ClassId) (σ : Nat → Nat) (M : Mem) (a1 : Int32) (post : Int32 → Mem → Prop) (h : qX1_sizeOf a1 M post) : Met l yX1_sizeOf wsX1_sizeOf rmX1_sizeOf (preW D T LH σ [.ref (σ 11), .int a1] M) (postI D T LH σ post) 0 0 (fA LH σ) := by
  refine m_of (cc := cX1_sizeOf) (maxL := 4) (ret := (some .int)) (own := RX1) (by decide) rfl rfl (Nat.le_of_ble_eq_true rfl) ?_
  intro p e s m args below meth c H ls locs S hr hlk hl hW
  have hl : lv_has ls 4 [(0, .ref (σ 11)), (1, .int a1)] := hl
  have inX1 : ∀ w ∈ u_ws RX1 TX1 13, w ∈ wsX1_sizeOf := by decide +kernel
  have f48 := S.2.2.2.2 (.fieldLink RX1 48 "MachineHall$Hall" "machines" "I") (by decide +kernel)
  have w57 := va_cwS (R := rmX1_sizeOf) (rm := rmX1_has) (mc := 0) (ms := 0) 2 S.2.2.2.2 gX1_sizeOf_X1_has rfl rfl rfl (by decide +kernel) ⟨Nat.le_of_ble_eq_true rfl, Nat.le_of_ble_eq_true rfl⟩
  have f11 := S.2.2.2.2 (.fieldLink RX1 11 "MachineHall$Hall" "sizes" "[I") (by decide +kernel)
  obtain ⟨R4, e4⟩ : ∃ R : Int32 → Int32 → Mem → Prop, ∀ x2 x3 M, R x2 x3 M ↔ WW p l e rmX1_sizeOf s m args below meth c D T LH σ 4 (MQ below (postI D T LH σ post) args s 0 0 (fA LH σ)) 4 [(0, .ref (σ 11)), (1, .int a1), (2, .int x2), (3, .int x3)] [] M := ⟨_, fun _ _ _ => Iff.rfl⟩
  have h := h R4
  have z4 : ∀ x2 x3 M, qX1_sizeOf_b4 a1 post R4 x2 x3 M → R4 x2 x3 M := by
    intro x2 x3 M h
    refine (e4 _ _ _).mpr (fun H locs ls hW hl => ?_)
    refine lv_iload_n S.1 S.2.1 dX1_sizeOf_4 rfl (lv_at hl 3 rfl) ?_
    refine lv_aload_n S.1 S.2.1 dX1_sizeOf_5 rfl (lv_at hl 0 rfl) ?_
    refine r_getI (j := 0) S hW inX1 rfl f48 rfl LH_11 (by decide) rfl dX1_sizeOf_6 ?_
    refine lv_icmp_ge (tgt := 39) S.1 S.2.1 dX1_sizeOf_9 (by decide) (fun c1 => ?_) (fun c1 => ?_)
    · have h := h.1 c1
      refine lv_iload_n S.1 S.2.1 dX1_sizeOf_39 rfl (lv_at hl 2 rfl) ?_
      exact r_iret S hr hlk hW h dX1_sizeOf_40
    · have h := h.2 c1
      refine lv_iload_n S.1 S.2.1 dX1_sizeOf_12 rfl (lv_at hl 2 rfl) ?_
      refine lv_iload_n S.1 S.2.1 dX1_sizeOf_13 rfl (lv_at hl 1 rfl) ?_
      refine lv_iload_n S.1 S.2.1 dX1_sizeOf_14 rfl (lv_at hl 3 rfl) ?_
      refine r_goI (r_runS (rest := [.int x2]) S hW (mX1_has l D T σ M a1 x3 _ h) w57 rfl hl.1 rfl (Nat.le_of_ble_eq_true rfl) dX1_sizeOf_15 ⟨Nat.zero_le _, Nat.zero_le _⟩) hW (fun r2 M3 H locs h hW => ?_)
      refine lv_if_eq (tgt := 30) S.1 S.2.1 dX1_sizeOf_18 (by decide) (fun c4 => ?_) (fun c4 => ?_)
      · have h := h.1 c4
        refine lv_iconst (v := 0) S.1 S.2.1 dX1_sizeOf_30 rfl ?_
        refine lv_iadd S.1 S.2.1 dX1_sizeOf_31 ?_
        refine lv_topi (fun v5 ev5 => ?_)
        have h := h v5 ev5
        refine lv_istore_n (lv' := [(2, .int v5), (0, .ref (σ 11)), (1, .int a1), (3, .int x3)]) S.1 S.2.1 dX1_sizeOf_32 rfl hl (by decide) rfl (fun ls hl => ?_)
        obtain ⟨v6, ev6⟩ : ∃ y : Int32, y = x3 + 1 := ⟨_, rfl⟩
        have h := h v6 ev6
        refine lv_iinc (v := v6) (lv' := [(3, .int v6), (2, .int v5), (0, .ref (σ 11)), (1, .int a1)]) S.1 S.2.1 dX1_sizeOf_33 hl (k := 3) rfl (by rw [ev6]; rfl) (by decide) rfl (fun ls hl => ?_)
        refine lv_goto (tgt := 4) S.1 S.2.1 dX1_sizeOf_36 (by decide) ?_
        exact (e4 _ _ _).mp h H locs ls hW (lv_sub hl [2, 3, 1, 0] rfl)
      · have h := h.2 c4
        refine lv_aload_n S.1 S.2.1 dX1_sizeOf_21 rfl (lv_at hl 0 rfl) ?_
        refine r_getR (j := 2) S hW inX1 rfl f11 rfl LH_11 (by decide) rfl dX1_sizeOf_22 ?_
        refine lv_iload_n S.1 S.2.1 dX1_sizeOf_25 rfl (lv_at hl 3 rfl) ?_
        have b7 := h.1
        have h := h.2
        refine r_iald S hW LH_12 b7 dX1_sizeOf_26 ?_
        refine lv_goto (tgt := 31) S.1 S.2.1 dX1_sizeOf_27 (by decide) ?_
        refine lv_iadd S.1 S.2.1 dX1_sizeOf_31 ?_
        refine lv_topi (fun v8 ev8 => ?_)
        have h := h v8 ev8
        refine lv_istore_n (lv' := [(2, .int v8), (0, .ref (σ 11)), (1, .int a1), (3, .int x3)]) S.1 S.2.1 dX1_sizeOf_32 rfl hl (by decide) rfl (fun ls hl => ?_)
        obtain ⟨v9, ev9⟩ : ∃ y : Int32, y = x3 + 1 := ⟨_, rfl⟩
        have h := h v9 ev9
        refine lv_iinc (v := v9) (lv' := [(3, .int v9), (2, .int v8), (0, .ref (σ 11)), (1, .int a1)]) S.1 S.2.1 dX1_sizeOf_33 hl (k := 3) rfl (by rw [ev9]; rfl) (by decide) rfl (fun ls hl => ?_)
        refine lv_goto (tgt := 4) S.1 S.2.1 dX1_sizeOf_36 (by decide) ?_
        exact (e4 _ _ _).mp h H locs ls hW (lv_sub hl [2, 3, 1, 0] rfl)
  have h := h z4
  refine lv_iconst (v := 0) S.1 S.2.1 dX1_sizeOf_0 rfl ?_
  refine lv_istore_n (lv' := [(2, .int (0 : Int32)), (0, .ref (σ 11)), (1, .int a1)]) S.1 S.2.1 dX1_sizeOf_1 rfl hl (by decide) rfl (fun ls hl => ?_)
  refine lv_iconst (v := 0) S.1 S.2.1 dX1_sizeOf_2 rfl ?_
  refine lv_istore_n (lv' := [(3, .int (0 : Int32)), (2, .int (0 : Int32)), (0, .ref (σ 11)), (1, .int a1)]) S.1 S.2.1 dX1_sizeOf_3 rfl hl (by decide) rfl (fun ls hl => ?_)
  exact (e4 _ _ _).mp h H locs ls hW (lv_sub hl [2, 3, 1, 0] rfl)
abbrev rmX1_isFall : Room := { frames := 1, cells := 0, slots := 0, locals := 23 }
set_option maxHeartbeats 4000000 in
set_option maxRecDepth 100000 in
theorem mX1_isFall (l : Launch) (D : va_G) (T : Nat → ClassId) (σ : Nat → Nat) (M : Mem) (a0 : Int32) (post : Int32 → Mem → Prop) (h : qX1_isFall a0 M post) : Met l yX1_isFall wsX1_isFall rmX1_isFall (preW D T LH σ [.int a0] M) (postI D T LH σ post) 0 0 (fA LH σ) := by
  refine m_of (cc := cX1_isFall) (maxL := 1) (ret := (some .boolean)) (own := RX1) (by decide) rfl rfl (Nat.le_of_ble_eq_true rfl) ?_
  intro p e s m args below meth c H ls locs S hr hlk hl hW
  have hl : lv_has ls 1 [(0, .int a0)] := hl
  have w44 := va_cnB (args := args) (R := rmX1_isFall) (rm := rmX6_within) (mc := 0) (ms := 0) 3 S.2.2.2.2 gX1_isFall_X6_within_n44 rfl rfl rfl hW.2.2.2.2.2.1 (S.2.2.2.2 (.initialized RX6) (by decide +kernel)) (by decide +kernel) ⟨Nat.le_of_ble_eq_true rfl, Nat.le_of_ble_eq_true rfl⟩
  have stX6_within := S.2.2.2.2 (.static yX6_within) (by decide +kernel)
  refine lv_iload_n S.1 S.2.1 dX1_isFall_0 rfl (lv_at hl 0 rfl) ?_
  refine lv_i2l S.1 S.2.1 dX1_isFall_1 rfl ?_
  refine lv_iconst (v := 0) S.1 S.2.1 dX1_isFall_2 rfl ?_
  refine lv_bipush (v := 16) S.1 S.2.1 dX1_isFall_3 rfl ?_
  refine r_goI (r_runN (rest := []) S hW (mX6_within l D T LH σ M (a0.toInt64) (0 : Int32) (16 : Int32) _ h) w44 stX6_within rfl hl.1 rfl (Nat.le_of_ble_eq_true rfl) dX1_isFall_5 ⟨Nat.zero_le _, Nat.zero_le _⟩) hW (fun r1 M2 H locs h hW => ?_)
  exact r_zret S hr hlk hW h.1 h.2 dX1_isFall_8
abbrev rmJ7_fill_53178 : Room := { frames := 0, cells := 0, slots := 0, locals := 0 }
set_option maxHeartbeats 4000000 in
set_option maxRecDepth 100000 in
theorem mJ7_fill_53178 (l : Launch) (D : va_G) (T : Nat → ClassId) (L : Lay) (σ : Nat → Nat) (k : Nat) {n b : Nat} {sl : List (Option Nat)} (hk : L[k]? = some (1, n, b, sl)) (M : Mem) (a1 : Int32) (post : Mem → Prop) (h : qJ7_fill_53178 k n a1 M post) : Met l yJ7_fill_53178 wsJ7_fill_53178 rmJ7_fill_53178 (preW D T L σ [.ref (σ k), .int a1] M) (postV D T L σ post) 0 0 (fA L σ) := by
  refine m_of (cc := cJ7_fill_53178) (maxL := 4) (ret := none) (own := RJ7) (by decide) rfl rfl (Nat.le_of_ble_eq_true rfl) ?_
  intro p e s m args below meth c H ls locs S hr hlk hl hW
  have hl : lv_has ls 4 [(0, .ref (σ k)), (1, .int a1)] := hl
  obtain ⟨R5, e5⟩ : ∃ R : Int32 → Int32 → Mem → Prop, ∀ x2 x3 M, R x2 x3 M ↔ WW p l e rmJ7_fill_53178 s m args below meth c D T L σ 4 (MQ below (postV D T L σ post) args s 0 0 (fA L σ)) 5 [(0, .ref (σ k)), (1, .int a1), (2, .int x2), (3, .int x3)] [] M := ⟨_, fun _ _ _ => Iff.rfl⟩
  have h := h R5
  have z5 : ∀ x2 x3 M, qJ7_fill_53178_b5 k n a1 post R5 x2 x3 M → R5 x2 x3 M := by
    intro x2 x3 M h
    refine (e5 _ _ _).mpr (fun H locs ls hW hl => ?_)
    refine lv_iload_n S.1 S.2.1 dJ7_fill_53178_5 rfl (lv_at hl 2 rfl) ?_
    refine lv_iload_n S.1 S.2.1 dJ7_fill_53178_6 rfl (lv_at hl 3 rfl) ?_
    refine lv_icmp_ge (tgt := 20) S.1 S.2.1 dJ7_fill_53178_7 (by decide) (fun c2 => ?_) (fun c2 => ?_)
    · have h := h.1 c2
      exact r_vret S hr hlk hW h dJ7_fill_53178_20
    · have h := h.2 c2
      refine lv_aload_n S.1 S.2.1 dJ7_fill_53178_10 rfl (lv_at hl 0 rfl) ?_
      refine lv_iload_n S.1 S.2.1 dJ7_fill_53178_11 rfl (lv_at hl 2 rfl) ?_
      refine lv_iload_n S.1 S.2.1 dJ7_fill_53178_12 rfl (lv_at hl 1 rfl) ?_
      have b3 := h.1
      have h := h.2
      refine r_iast S hW hk b3 dJ7_fill_53178_13 (fun M4 H locs eM4 hW => ?_)
      have h := h M4 eM4
      obtain ⟨v5, ev5⟩ : ∃ y : Int32, y = x2 + 1 := ⟨_, rfl⟩
      have h := h v5 ev5
      refine lv_iinc (v := v5) (lv' := [(2, .int v5), (0, .ref (σ k)), (1, .int a1), (3, .int x3)]) S.1 S.2.1 dJ7_fill_53178_14 hl (k := 2) rfl (by rw [ev5]; rfl) (by decide) rfl (fun ls hl => ?_)
      refine lv_goto (tgt := 5) S.1 S.2.1 dJ7_fill_53178_17 (by decide) ?_
      exact (e5 _ _ _).mp h H locs ls hW (lv_sub hl [1, 2, 0, 3] rfl)
  have h := h z5
  refine lv_iconst (v := 0) S.1 S.2.1 dJ7_fill_53178_0 rfl ?_
  refine lv_istore_n (lv' := [(2, .int (0 : Int32)), (0, .ref (σ k)), (1, .int a1)]) S.1 S.2.1 dJ7_fill_53178_1 rfl hl (by decide) rfl (fun ls hl => ?_)
  refine lv_aload_n S.1 S.2.1 dJ7_fill_53178_2 rfl (lv_at hl 1 rfl) ?_
  refine r_alenI S hW hk dJ7_fill_53178_3 ?_
  refine lv_topi (fun v1 ev1 => ?_)
  have h := h v1 ev1
  refine lv_istore_n (lv' := [(3, .int v1), (2, .int (0 : Int32)), (0, .ref (σ k)), (1, .int a1)]) S.1 S.2.1 dJ7_fill_53178_4 rfl hl (by decide) rfl (fun ls hl => ?_)
  exact (e5 _ _ _).mp h H locs ls hW (lv_sub hl [2, 3, 1, 0] rfl)
abbrev rmX1_greatestOn : Room := { frames := 0, cells := 0, slots := 0, locals := 0 }
set_option maxHeartbeats 4000000 in
set_option maxRecDepth 100000 in
theorem mX1_greatestOn (l : Launch) (D : va_G) (T : Nat → ClassId) (σ : Nat → Nat) (M : Mem) (a1 : Int32) (a2 : Int32) (post : Int32 → Mem → Prop) (h : qX1_greatestOn a1 a2 M post) : Met l yX1_greatestOn wsX1_greatestOn rmX1_greatestOn (preW D T LH σ [.ref (σ 11), .int a1, .int a2] M) (postI D T LH σ post) 0 0 (fA LH σ) := by
  refine m_of (cc := cX1_greatestOn) (maxL := 4) (ret := (some .int)) (own := RX1) (by decide) rfl rfl (Nat.le_of_ble_eq_true rfl) ?_
  intro p e s m args below meth c H ls locs S hr hlk hl hW
  have hl : lv_has ls 4 [(0, .ref (σ 11)), (1, .int a1), (2, .int a2)] := hl
  have inX1 : ∀ w ∈ u_ws RX1 TX1 13, w ∈ wsX1_greatestOn := by decide +kernel
  have f27 := S.2.2.2.2 (.fieldLink RX1 27 "MachineHall$Hall" "load" "[I") (by decide +kernel)
  have f11 := S.2.2.2.2 (.fieldLink RX1 11 "MachineHall$Hall" "sizes" "[I") (by decide +kernel)
  have f30 := S.2.2.2.2 (.fieldLink RX1 30 "MachineHall$Hall" "clash" "[Z") (by decide +kernel)
  have f37 := S.2.2.2.2 (.fieldLink RX1 37 "MachineHall$Hall" "latest" "[I") (by decide +kernel)
  obtain ⟨R2, e2⟩ : ∃ R : Int32 → Mem → Prop, ∀ x3 M, R x3 M ↔ WW p l e rmX1_greatestOn s m args below meth c D T LH σ 4 (MQ below (postI D T LH σ post) args s 0 0 (fA LH σ)) 2 [(0, .ref (σ 11)), (1, .int a1), (2, .int a2), (3, .int x3)] [] M := ⟨_, fun _ _ => Iff.rfl⟩
  obtain ⟨R44, e44⟩ : ∃ R : Int32 → Mem → Prop, ∀ x3 M, R x3 M ↔ WW p l e rmX1_greatestOn s m args below meth c D T LH σ 4 (MQ below (postI D T LH σ post) args s 0 0 (fA LH σ)) 44 [(0, .ref (σ 11)), (1, .int a1), (2, .int a2), (3, .int x3)] [] M := ⟨_, fun _ _ => Iff.rfl⟩
  have h := h R2 R44
  have z2 : ∀ x3 M, qX1_greatestOn_b2 a1 a2 post R2 R44 x3 M → R2 x3 M := by
    intro x3 M h
    refine (e2 _ _).mpr (fun H locs ls hW hl => ?_)
    refine lv_iload_n S.1 S.2.1 dX1_greatestOn_2 rfl (lv_at hl 3 rfl) ?_
    refine lv_if_le (tgt := 53) S.1 S.2.1 dX1_greatestOn_3 (by decide) (fun c1 => ?_) (fun c1 => ?_)
    · have h := h.1 c1
      refine lv_iconst (v := 0) S.1 S.2.1 dX1_greatestOn_53 rfl ?_
      exact r_iret S hr hlk hW h dX1_greatestOn_54
    · have h := h.2 c1
      refine lv_aload_n S.1 S.2.1 dX1_greatestOn_6 rfl (lv_at hl 0 rfl) ?_
      refine r_getR (j := 8) S hW inX1 rfl f27 rfl LH_11 (by decide) rfl dX1_greatestOn_7 ?_
      refine lv_iload_n S.1 S.2.1 dX1_greatestOn_10 rfl (lv_at hl 3 rfl) ?_
      have b2 := h.1
      have h := h.2
      refine r_iald S hW LH_17 b2 dX1_greatestOn_11 ?_
      refine lv_aload_n S.1 S.2.1 dX1_greatestOn_12 rfl (lv_at hl 0 rfl) ?_
      refine r_getR (j := 2) S hW inX1 rfl f11 rfl LH_11 (by decide) rfl dX1_greatestOn_13 ?_
      refine lv_iload_n S.1 S.2.1 dX1_greatestOn_16 rfl (lv_at hl 1 rfl) ?_
      have b3 := h.1
      have h := h.2
      refine r_iald S hW LH_12 b3 dX1_greatestOn_17 ?_
      refine lv_icmp_gt (tgt := 44) S.1 S.2.1 dX1_greatestOn_18 (by decide) (fun c4 => ?_) (fun c4 => ?_)
      · have h := h.1 c4
        exact (e44 _ _).mp h H locs ls hW (lv_sub hl [0, 1, 2, 3] rfl)
      · have h := h.2 c4
        refine lv_aload_n S.1 S.2.1 dX1_greatestOn_21 rfl (lv_at hl 0 rfl) ?_
        refine r_getR (j := 9) S hW inX1 rfl f30 rfl LH_11 (by decide) rfl dX1_greatestOn_22 ?_
        refine lv_iload_n S.1 S.2.1 dX1_greatestOn_25 rfl (lv_at hl 3 rfl) ?_
        have b5 := h.1
        have h := h.2
        refine r_zald S hW LH_18 b5 dX1_greatestOn_26 ?_
        refine lv_if_ne (tgt := 44) S.1 S.2.1 dX1_greatestOn_27 (by decide) (fun c6 => ?_) (fun c6 => ?_)
        · have h := h.1 c6
          exact (e44 _ _).mp h H locs ls hW (lv_sub hl [0, 1, 2, 3] rfl)
        · have h := h.2 c6
          refine lv_aload_n S.1 S.2.1 dX1_greatestOn_30 rfl (lv_at hl 0 rfl) ?_
          refine r_getR (j := 11) S hW inX1 rfl f37 rfl LH_11 (by decide) rfl dX1_greatestOn_31 ?_
          refine lv_iload_n S.1 S.2.1 dX1_greatestOn_34 rfl (lv_at hl 2 rfl) ?_
          refine lv_iload_n S.1 S.2.1 dX1_greatestOn_35 rfl (lv_at hl 3 rfl) ?_
          refine lv_ixor S.1 S.2.1 dX1_greatestOn_36 ?_
          have b7 := h.1
          have h := h.2
          refine r_iald S hW LH_20 b7 dX1_greatestOn_37 ?_
          refine lv_iload_n S.1 S.2.1 dX1_greatestOn_38 rfl (lv_at hl 1 rfl) ?_
          refine lv_icmp_le (tgt := 44) S.1 S.2.1 dX1_greatestOn_39 (by decide) (fun c8 => ?_) (fun c8 => ?_)
          · have h := h.1 c8
            exact (e44 _ _).mp h H locs ls hW (lv_sub hl [0, 1, 2, 3] rfl)
          · have h := h.2 c8
            refine lv_iload_n S.1 S.2.1 dX1_greatestOn_42 rfl (lv_at hl 3 rfl) ?_
            exact r_iret S hr hlk hW h dX1_greatestOn_43
  have z44 : ∀ x3 M, qX1_greatestOn_b44 a1 a2 post R2 R44 x3 M → R44 x3 M := by
    intro x3 M h
    refine (e44 _ _).mpr (fun H locs ls hW hl => ?_)
    refine lv_iload_n S.1 S.2.1 dX1_greatestOn_44 rfl (lv_at hl 3 rfl) ?_
    refine lv_iconst (v := 1) S.1 S.2.1 dX1_greatestOn_45 rfl ?_
    refine lv_isub S.1 S.2.1 dX1_greatestOn_46 ?_
    refine lv_iload_n S.1 S.2.1 dX1_greatestOn_47 rfl (lv_at hl 2 rfl) ?_
    refine lv_iand S.1 S.2.1 dX1_greatestOn_48 ?_
    refine lv_topi (fun v9 ev9 => ?_)
    have h := h v9 ev9
    refine lv_istore_n (lv' := [(3, .int v9), (0, .ref (σ 11)), (1, .int a1), (2, .int a2)]) S.1 S.2.1 dX1_greatestOn_49 rfl hl (by decide) rfl (fun ls hl => ?_)
    refine lv_goto (tgt := 2) S.1 S.2.1 dX1_greatestOn_50 (by decide) ?_
    exact (e2 _ _).mp h H locs ls hW (lv_sub hl [1, 2, 3, 0] rfl)
  have h := h z2 z44
  refine lv_iload_n S.1 S.2.1 dX1_greatestOn_0 rfl (lv_at hl 2 rfl) ?_
  refine lv_istore_n (lv' := [(3, .int a2), (0, .ref (σ 11)), (1, .int a1), (2, .int a2)]) S.1 S.2.1 dX1_greatestOn_1 rfl hl (by decide) rfl (fun ls hl => ?_)
  exact (e2 _ _).mp h H locs ls hW (lv_sub hl [1, 2, 3, 0] rfl)
abbrev rmX1_findWith : Room := { frames := 1, cells := 0, slots := 0, locals := 23 }
set_option maxHeartbeats 4000000 in
set_option maxRecDepth 100000 in
theorem mX1_findWith (l : Launch) (D : va_G) (T : Nat → ClassId) (σ : Nat → Nat) (M : Mem) (a1 : Int32) (a2 : Int32) (post : Mem → Prop) (h : qX1_findWith a1 a2 M post) : Met l yX1_findWith wsX1_findWith rmX1_findWith (preW D T LH σ [.ref (σ 11), .int a1, .int a2] M) (postV D T LH σ post) 0 0 (fA LH σ) := by
  refine m_of (cc := cX1_findWith) (maxL := 4) (ret := none) (own := RX1) (by decide) rfl rfl (Nat.le_of_ble_eq_true rfl) ?_
  intro p e s m args below meth c H ls locs S hr hlk hl hW
  have hl : lv_has ls 4 [(0, .ref (σ 11)), (1, .int a1), (2, .int a2)] := hl
  have inX1 : ∀ w ∈ u_ws RX1 TX1 13, w ∈ wsX1_findWith := by decide +kernel
  have f51 := S.2.2.2.2 (.fieldLink RX1 51 "MachineHall$Hall" "asks" "I") (by decide +kernel)
  have f37 := S.2.2.2.2 (.fieldLink RX1 37 "MachineHall$Hall" "latest" "[I") (by decide +kernel)
  have f34 := S.2.2.2.2 (.fieldLink RX1 34 "MachineHall$Hall" "asked" "[Z") (by decide +kernel)
  have f27 := S.2.2.2.2 (.fieldLink RX1 27 "MachineHall$Hall" "load" "[I") (by decide +kernel)
  have w71 := cwV (R := rmX1_findWith) (rm := rmX1_greatestOn) (mc := 0) (ms := 0) 2 S.2.2.2.2 gX1_findWith_X1_greatestOn rfl rfl rfl (by decide +kernel) ⟨Nat.le_of_ble_eq_true rfl, Nat.le_of_ble_eq_true rfl⟩
  obtain ⟨R2, e2⟩ : ∃ R : Int32 → Mem → Prop, ∀ x3 M, R x3 M ↔ WW p l e rmX1_findWith s m args below meth c D T LH σ 4 (MQ below (postV D T LH σ post) args s 0 0 (fA LH σ)) 2 [(0, .ref (σ 11)), (1, .int a1), (2, .int a2), (3, .int x3)] [] M := ⟨_, fun _ _ => Iff.rfl⟩
  have h := h R2
  have z2 : ∀ x3 M, qX1_findWith_b2 a1 a2 post R2 x3 M → R2 x3 M := by
    intro x3 M h
    refine (e2 _ _).mpr (fun H locs ls hW hl => ?_)
    refine lv_iload_n S.1 S.2.1 dX1_findWith_2 rfl (lv_at hl 3 rfl) ?_
    refine lv_iconst (v := 1) S.1 S.2.1 dX1_findWith_3 rfl ?_
    refine lv_aload_n S.1 S.2.1 dX1_findWith_4 rfl (lv_at hl 0 rfl) ?_
    refine r_getI (j := 1) S hW inX1 rfl f51 rfl LH_11 (by decide) rfl dX1_findWith_5 ?_
    refine lv_ishl S.1 S.2.1 dX1_findWith_8 ?_
    refine lv_icmp_ge (tgt := 63) S.1 S.2.1 dX1_findWith_9 (by decide) (fun c1 => ?_) (fun c1 => ?_)
    · have h := h.1 c1
      exact r_vret S hr hlk hW h dX1_findWith_63
    · have h := h.2 c1
      refine lv_aload_n S.1 S.2.1 dX1_findWith_12 rfl (lv_at hl 0 rfl) ?_
      refine r_getR (j := 11) S hW inX1 rfl f37 rfl LH_11 (by decide) rfl dX1_findWith_13 ?_
      refine lv_iload_n S.1 S.2.1 dX1_findWith_16 rfl (lv_at hl 3 rfl) ?_
      have b2 := h.1
      have h := h.2
      refine r_iald S hW LH_20 b2 dX1_findWith_17 ?_
      refine lv_iconst (v := -1) S.1 S.2.1 dX1_findWith_18 rfl ?_
      refine lv_icmp_ne (tgt := 57) S.1 S.2.1 dX1_findWith_19 (by decide) (fun c3 => ?_) (fun c3 => ?_)
      · have h := h.1 c3
        obtain ⟨v4, ev4⟩ : ∃ y : Int32, y = x3 + 1 := ⟨_, rfl⟩
        have h := h v4 ev4
        refine lv_iinc (v := v4) (lv' := [(3, .int v4), (0, .ref (σ 11)), (1, .int a1), (2, .int a2)]) S.1 S.2.1 dX1_findWith_57 hl (k := 3) rfl (by rw [ev4]; rfl) (by decide) rfl (fun ls hl => ?_)
        refine lv_goto (tgt := 2) S.1 S.2.1 dX1_findWith_60 (by decide) ?_
        exact (e2 _ _).mp h H locs ls hW (lv_sub hl [1, 2, 3, 0] rfl)
      · have h := h.2 c3
        refine lv_aload_n S.1 S.2.1 dX1_findWith_22 rfl (lv_at hl 0 rfl) ?_
        refine r_getR (j := 10) S hW inX1 rfl f34 rfl LH_11 (by decide) rfl dX1_findWith_23 ?_
        refine lv_iload_n S.1 S.2.1 dX1_findWith_26 rfl (lv_at hl 3 rfl) ?_
        have b5 := h.1
        have h := h.2
        refine r_zald S hW LH_19 b5 dX1_findWith_27 ?_
        refine lv_if_eq (tgt := 57) S.1 S.2.1 dX1_findWith_28 (by decide) (fun c6 => ?_) (fun c6 => ?_)
        · have h := h.1 c6
          obtain ⟨v7, ev7⟩ : ∃ y : Int32, y = x3 + 1 := ⟨_, rfl⟩
          have h := h v7 ev7
          refine lv_iinc (v := v7) (lv' := [(3, .int v7), (0, .ref (σ 11)), (1, .int a1), (2, .int a2)]) S.1 S.2.1 dX1_findWith_57 hl (k := 3) rfl (by rw [ev7]; rfl) (by decide) rfl (fun ls hl => ?_)
          refine lv_goto (tgt := 2) S.1 S.2.1 dX1_findWith_60 (by decide) ?_
          exact (e2 _ _).mp h H locs ls hW (lv_sub hl [1, 2, 3, 0] rfl)
        · have h := h.2 c6
          refine lv_aload_n S.1 S.2.1 dX1_findWith_31 rfl (lv_at hl 0 rfl) ?_
          refine r_getR (j := 8) S hW inX1 rfl f27 rfl LH_11 (by decide) rfl dX1_findWith_32 ?_
          refine lv_iload_n S.1 S.2.1 dX1_findWith_35 rfl (lv_at hl 3 rfl) ?_
          have b8 := h.1
          have h := h.2
          refine r_iald S hW LH_17 b8 dX1_findWith_36 ?_
          refine lv_iload_n S.1 S.2.1 dX1_findWith_37 rfl (lv_at hl 2 rfl) ?_
          refine lv_icmp_gt (tgt := 57) S.1 S.2.1 dX1_findWith_38 (by decide) (fun c9 => ?_) (fun c9 => ?_)
          · have h := h.1 c9
            obtain ⟨v10, ev10⟩ : ∃ y : Int32, y = x3 + 1 := ⟨_, rfl⟩
            have h := h v10 ev10
            refine lv_iinc (v := v10) (lv' := [(3, .int v10), (0, .ref (σ 11)), (1, .int a1), (2, .int a2)]) S.1 S.2.1 dX1_findWith_57 hl (k := 3) rfl (by rw [ev10]; rfl) (by decide) rfl (fun ls hl => ?_)
            refine lv_goto (tgt := 2) S.1 S.2.1 dX1_findWith_60 (by decide) ?_
            exact (e2 _ _).mp h H locs ls hW (lv_sub hl [1, 2, 3, 0] rfl)
          · have h := h.2 c9
            refine lv_aload_n S.1 S.2.1 dX1_findWith_41 rfl (lv_at hl 0 rfl) ?_
            refine lv_iload_n S.1 S.2.1 dX1_findWith_42 rfl (lv_at hl 1 rfl) ?_
            refine lv_iload_n S.1 S.2.1 dX1_findWith_43 rfl (lv_at hl 3 rfl) ?_
            refine r_goI (r_runV (rest := []) S hW (mX1_greatestOn l D T σ M a1 x3 _ h) w71 rfl LH_11 rfl hl.1 rfl (Nat.le_of_ble_eq_true rfl) dX1_findWith_44 ⟨Nat.zero_le _, Nat.zero_le _⟩) hW (fun r11 M12 H locs h hW => ?_)
            refine lv_if_le (tgt := 57) S.1 S.2.1 dX1_findWith_47 (by decide) (fun c13 => ?_) (fun c13 => ?_)
            · have h := h.1 c13
              obtain ⟨v14, ev14⟩ : ∃ y : Int32, y = x3 + 1 := ⟨_, rfl⟩
              have h := h v14 ev14
              refine lv_iinc (v := v14) (lv' := [(3, .int v14), (0, .ref (σ 11)), (1, .int a1), (2, .int a2)]) S.1 S.2.1 dX1_findWith_57 hl (k := 3) rfl (by rw [ev14]; rfl) (by decide) rfl (fun ls hl => ?_)
              refine lv_goto (tgt := 2) S.1 S.2.1 dX1_findWith_60 (by decide) ?_
              exact (e2 _ _).mp h H locs ls hW (lv_sub hl [1, 2, 3, 0] rfl)
            · have h := h.2 c13
              refine lv_aload_n S.1 S.2.1 dX1_findWith_50 rfl (lv_at hl 0 rfl) ?_
              refine r_getR (j := 11) S hW inX1 rfl f37 rfl LH_11 (by decide) rfl dX1_findWith_51 ?_
              refine lv_iload_n S.1 S.2.1 dX1_findWith_54 rfl (lv_at hl 3 rfl) ?_
              refine lv_iload_n S.1 S.2.1 dX1_findWith_55 rfl (lv_at hl 1 rfl) ?_
              have b15 := h.1
              have h := h.2
              refine r_iast S hW LH_20 b15 dX1_findWith_56 (fun M16 H locs eM16 hW => ?_)
              have h := h M16 eM16
              obtain ⟨v17, ev17⟩ : ∃ y : Int32, y = x3 + 1 := ⟨_, rfl⟩
              have h := h v17 ev17
              refine lv_iinc (v := v17) (lv' := [(3, .int v17), (0, .ref (σ 11)), (1, .int a1), (2, .int a2)]) S.1 S.2.1 dX1_findWith_57 hl (k := 3) rfl (by rw [ev17]; rfl) (by decide) rfl (fun ls hl => ?_)
              refine lv_goto (tgt := 2) S.1 S.2.1 dX1_findWith_60 (by decide) ?_
              exact (e2 _ _).mp h H locs ls hW (lv_sub hl [1, 2, 3, 0] rfl)
  have h := h z2
  refine lv_iconst (v := 1) S.1 S.2.1 dX1_findWith_0 rfl ?_
  refine lv_istore_n (lv' := [(3, .int (1 : Int32)), (0, .ref (σ 11)), (1, .int a1), (2, .int a2)]) S.1 S.2.1 dX1_findWith_1 rfl hl (by decide) rfl (fun ls hl => ?_)
  exact (e2 _ _).mp h H locs ls hW (lv_sub hl [1, 2, 3, 0] rfl)
abbrev rmX1_findLatest : Room := { frames := 2, cells := 0, slots := 0, locals := 46 }
set_option maxHeartbeats 4000000 in
set_option maxRecDepth 100000 in
theorem mX1_findLatest (l : Launch) (D : va_G) (T : Nat → ClassId) (σ : Nat → Nat) (M : Mem) (a1 : Int32) (post : Mem → Prop) (h : qX1_findLatest a1 M post) : Met l yX1_findLatest wsX1_findLatest rmX1_findLatest (preW D T LH σ [.ref (σ 11), .int a1] M) (postV D T LH σ post) 0 0 (fA LH σ) := by
  refine m_of (cc := cX1_findLatest) (maxL := 4) (ret := none) (own := RX1) (by decide) rfl rfl (Nat.le_of_ble_eq_true rfl) ?_
  intro p e s m args below meth c H ls locs S hr hlk hl hW
  have hl : lv_has ls 4 [(0, .ref (σ 11)), (1, .int a1)] := hl
  have inX1 : ∀ w ∈ u_ws RX1 TX1 13, w ∈ wsX1_findLatest := by decide +kernel
  have f40 := S.2.2.2.2 (.fieldLink RX1 40 "MachineHall$Hall" "latestFor" "I") (by decide +kernel)
  have f37 := S.2.2.2.2 (.fieldLink RX1 37 "MachineHall$Hall" "latest" "[I") (by decide +kernel)
  have w96 := va_cwS (R := rmX1_findLatest) (rm := rmJ7_fill_53178) (mc := 0) (ms := 0) 2 S.2.2.2.2 gX1_findLatest_J7_fill_53178 rfl rfl rfl (by decide +kernel) ⟨Nat.le_of_ble_eq_true rfl, Nat.le_of_ble_eq_true rfl⟩
  have f48 := S.2.2.2.2 (.fieldLink RX1 48 "MachineHall$Hall" "machines" "I") (by decide +kernel)
  have w57 := va_cwS (R := rmX1_findLatest) (rm := rmX1_has) (mc := 0) (ms := 0) 2 S.2.2.2.2 gX1_findLatest_X1_has rfl rfl rfl (by decide +kernel) ⟨Nat.le_of_ble_eq_true rfl, Nat.le_of_ble_eq_true rfl⟩
  have f11 := S.2.2.2.2 (.fieldLink RX1 11 "MachineHall$Hall" "sizes" "[I") (by decide +kernel)
  have w102 := cwV (R := rmX1_findLatest) (rm := rmX1_findWith) (mc := 0) (ms := 0) 2 S.2.2.2.2 gX1_findLatest_X1_findWith rfl rfl rfl (by decide +kernel) ⟨Nat.le_of_ble_eq_true rfl, Nat.le_of_ble_eq_true rfl⟩
  obtain ⟨R39, e39⟩ : ∃ R : Int32 → Int32 → Mem → Prop, ∀ x2 x3 M, R x2 x3 M ↔ WW p l e rmX1_findLatest s m args below meth c D T LH σ 4 (MQ below (postV D T LH σ post) args s 0 0 (fA LH σ)) 39 [(0, .ref (σ 11)), (1, .int a1), (2, .int x2), (3, .int x3)] [] M := ⟨_, fun _ _ _ => Iff.rfl⟩
  have h := h R39
  have z39 : ∀ x2 x3 M, qX1_findLatest_b39 a1 post R39 x2 x3 M → R39 x2 x3 M := by
    intro x2 x3 M h
    refine (e39 _ _ _).mpr (fun H locs ls hW hl => ?_)
    refine lv_iload_n S.1 S.2.1 dX1_findLatest_39 rfl (lv_at hl 3 rfl) ?_
    refine lv_if_lt (tgt := 72) S.1 S.2.1 dX1_findLatest_40 (by decide) (fun c8 => ?_) (fun c8 => ?_)
    · have h := h.1 c8
      exact r_vret S hr hlk hW h dX1_findLatest_72
    · have h := h.2 c8
      refine lv_iload_n S.1 S.2.1 dX1_findLatest_43 rfl (lv_at hl 1 rfl) ?_
      refine lv_iload_n S.1 S.2.1 dX1_findLatest_44 rfl (lv_at hl 3 rfl) ?_
      refine r_goI (r_runS (rest := []) S hW (mX1_has l D T σ M a1 x3 _ h) w57 rfl hl.1 rfl (Nat.le_of_ble_eq_true rfl) dX1_findLatest_45 ⟨Nat.zero_le _, Nat.zero_le _⟩) hW (fun r9 M10 H locs h hW => ?_)
      refine lv_if_eq (tgt := 66) S.1 S.2.1 dX1_findLatest_48 (by decide) (fun c11 => ?_) (fun c11 => ?_)
      · have h := h.1 c11
        obtain ⟨v12, ev12⟩ : ∃ y : Int32, y = x3 + (-1) := ⟨_, rfl⟩
        have h := h v12 ev12
        refine lv_iinc (v := v12) (lv' := [(3, .int v12), (0, .ref (σ 11)), (1, .int a1), (2, .int x2)]) S.1 S.2.1 dX1_findLatest_66 hl (k := 3) rfl (by rw [ev12]; rfl) (by decide) rfl (fun ls hl => ?_)
        refine lv_goto (tgt := 39) S.1 S.2.1 dX1_findLatest_69 (by decide) ?_
        exact (e39 _ _ _).mp h H locs ls hW (lv_sub hl [1, 2, 3, 0] rfl)
      · have h := h.2 c11
        refine lv_iload_n S.1 S.2.1 dX1_findLatest_51 rfl (lv_at hl 2 rfl) ?_
        refine lv_aload_n S.1 S.2.1 dX1_findLatest_52 rfl (lv_at hl 0 rfl) ?_
        refine r_getR (j := 2) S hW inX1 rfl f11 rfl LH_11 (by decide) rfl dX1_findLatest_53 ?_
        refine lv_iload_n S.1 S.2.1 dX1_findLatest_56 rfl (lv_at hl 3 rfl) ?_
        have b13 := h.1
        have h := h.2
        refine r_iald S hW LH_12 b13 dX1_findLatest_57 ?_
        refine lv_iadd S.1 S.2.1 dX1_findLatest_58 ?_
        refine lv_topi (fun v14 ev14 => ?_)
        have h := h v14 ev14
        refine lv_istore_n (lv' := [(2, .int v14), (0, .ref (σ 11)), (1, .int a1), (3, .int x3)]) S.1 S.2.1 dX1_findLatest_59 rfl hl (by decide) rfl (fun ls hl => ?_)
        refine lv_aload_n S.1 S.2.1 dX1_findLatest_60 rfl (lv_at hl 1 rfl) ?_
        refine lv_iload_n S.1 S.2.1 dX1_findLatest_61 rfl (lv_at hl 3 rfl) ?_
        refine lv_iload_n S.1 S.2.1 dX1_findLatest_62 rfl (lv_at hl 0 rfl) ?_
        refine r_goV (r_runV (rest := []) S hW (mX1_findWith l D T σ M10 x3 v14 _ h) w102 rfl LH_11 rfl hl.1 rfl (Nat.le_of_ble_eq_true rfl) dX1_findLatest_63 ⟨Nat.zero_le _, Nat.zero_le _⟩) hW (fun M16 H locs h hW => ?_)
        obtain ⟨v17, ev17⟩ : ∃ y : Int32, y = x3 + (-1) := ⟨_, rfl⟩
        have h := h v17 ev17
        refine lv_iinc (v := v17) (lv' := [(3, .int v17), (2, .int v14), (0, .ref (σ 11)), (1, .int a1)]) S.1 S.2.1 dX1_findLatest_66 hl (k := 3) rfl (by rw [ev17]; rfl) (by decide) rfl (fun ls hl => ?_)
        refine lv_goto (tgt := 39) S.1 S.2.1 dX1_findLatest_69 (by decide) ?_
        exact (e39 _ _ _).mp h H locs ls hW (lv_sub hl [2, 3, 1, 0] rfl)
  have h := h z39
  refine lv_aload_n S.1 S.2.1 dX1_findLatest_0 rfl (lv_at hl 0 rfl) ?_
  refine r_getI (j := 12) S hW inX1 rfl f40 rfl LH_11 (by decide) rfl dX1_findLatest_1 ?_
  refine lv_iload_n S.1 S.2.1 dX1_findLatest_4 rfl (lv_at hl 1 rfl) ?_
  refine lv_icmp_ne (tgt := 9) S.1 S.2.1 dX1_findLatest_5 (by decide) (fun c1 => ?_) (fun c1 => ?_)
  · have h := h.1 c1
    refine lv_aload_n S.1 S.2.1 dX1_findLatest_9 rfl (lv_at hl 0 rfl) ?_
    refine lv_iload_n S.1 S.2.1 dX1_findLatest_10 rfl (lv_at hl 1 rfl) ?_
    refine r_putI (j := 12) S hW inX1 rfl f40 rfl LH_11 (by decide) rfl tyX1 tyX1_ok nmX1 rfl rfl rfl dX1_findLatest_11 (fun M2 H locs eM2 hW => ?_)
    have h := h M2 eM2
    refine lv_aload_n S.1 S.2.1 dX1_findLatest_14 rfl (lv_at hl 0 rfl) ?_
    refine r_getR (j := 11) S hW inX1 rfl f37 rfl LH_11 (by decide) rfl dX1_findLatest_15 ?_
    refine lv_iconst (v := -1) S.1 S.2.1 dX1_findLatest_18 rfl ?_
    refine r_goV (r_runS (rest := []) S hW (mJ7_fill_53178 l D T LH σ 20 LH_20  M2 (-1 : Int32) _ h) w96 rfl hl.1 rfl (Nat.le_of_ble_eq_true rfl) dX1_findLatest_19 ⟨Nat.zero_le _, Nat.zero_le _⟩) hW (fun M4 H locs h hW => ?_)
    refine lv_aload_n S.1 S.2.1 dX1_findLatest_22 rfl (lv_at hl 0 rfl) ?_
    refine r_getR (j := 11) S hW inX1 rfl f37 rfl LH_11 (by decide) rfl dX1_findLatest_23 ?_
    refine lv_iconst (v := 0) S.1 S.2.1 dX1_findLatest_26 rfl ?_
    refine lv_bipush (v := 12) S.1 S.2.1 dX1_findLatest_27 rfl ?_
    have b5 := h.1
    have h := h.2
    refine r_iast S hW LH_20 b5 dX1_findLatest_29 (fun M6 H locs eM6 hW => ?_)
    have h := h M6 eM6
    refine lv_iconst (v := 0) S.1 S.2.1 dX1_findLatest_30 rfl ?_
    refine lv_istore_n (lv' := [(2, .int (0 : Int32)), (0, .ref (σ 11)), (1, .int a1)]) S.1 S.2.1 dX1_findLatest_31 rfl hl (by decide) rfl (fun ls hl => ?_)
    refine lv_aload_n S.1 S.2.1 dX1_findLatest_32 rfl (lv_at hl 1 rfl) ?_
    refine r_getI (j := 0) S hW inX1 rfl f48 rfl LH_11 (by decide) rfl dX1_findLatest_33 ?_
    refine lv_iconst (v := 1) S.1 S.2.1 dX1_findLatest_36 rfl ?_
    refine lv_isub S.1 S.2.1 dX1_findLatest_37 ?_
    refine lv_topi (fun v7 ev7 => ?_)
    have h := h v7 ev7
    refine lv_istore_n (lv' := [(3, .int v7), (2, .int (0 : Int32)), (0, .ref (σ 11)), (1, .int a1)]) S.1 S.2.1 dX1_findLatest_38 rfl hl (by decide) rfl (fun ls hl => ?_)
    exact (e39 _ _ _).mp h H locs ls hW (lv_sub hl [2, 3, 1, 0] rfl)
  · have h := h.2 c1
    exact r_vret S hr hlk hW h dX1_findLatest_8
abbrev rmX1_holds : Room := { frames := 3, cells := 0, slots := 0, locals := 69 }
set_option maxHeartbeats 4000000 in
set_option maxRecDepth 100000 in
theorem mX1_holds (l : Launch) (D : va_G) (T : Nat → ClassId) (σ : Nat → Nat) (M : Mem) (a1 : Int32) (a2 : Int32) (post : Int32 → Mem → Prop) (h : qX1_holds a1 a2 M post) : Met l yX1_holds wsX1_holds rmX1_holds (preW D T LH σ [.ref (σ 11), .int a1, .int a2] M) (postI D T LH σ post) 0 0 (fA LH σ) := by
  refine m_of (cc := cX1_holds) (maxL := 3) (ret := (some .boolean)) (own := RX1) (by decide) rfl rfl (Nat.le_of_ble_eq_true rfl) ?_
  intro p e s m args below meth c H ls locs S hr hlk hl hW
  have hl : lv_has ls 3 [(0, .ref (σ 11)), (1, .int a1), (2, .int a2)] := hl
  have w68 := cwV (R := rmX1_holds) (rm := rmX1_findLatest) (mc := 0) (ms := 0) 1 S.2.2.2.2 gX1_holds_X1_findLatest rfl rfl rfl (by decide +kernel) ⟨Nat.le_of_ble_eq_true rfl, Nat.le_of_ble_eq_true rfl⟩
  have inX1 : ∀ w ∈ u_ws RX1 TX1 13, w ∈ wsX1_holds := by decide +kernel
  have f37 := S.2.2.2.2 (.fieldLink RX1 37 "MachineHall$Hall" "latest" "[I") (by decide +kernel)
  have f24 := S.2.2.2.2 (.fieldLink RX1 24 "MachineHall$Hall" "ofHour" "[I") (by decide +kernel)
  refine lv_aload_n S.1 S.2.1 dX1_holds_0 rfl (lv_at hl 0 rfl) ?_
  refine lv_iload_n S.1 S.2.1 dX1_holds_1 rfl (lv_at hl 2 rfl) ?_
  refine r_goV (r_runV (rest := []) S hW (mX1_findLatest l D T σ M a2 _ h) w68 rfl LH_11 rfl hl.1 rfl (Nat.le_of_ble_eq_true rfl) dX1_holds_2 ⟨Nat.zero_le _, Nat.zero_le _⟩) hW (fun M2 H locs h hW => ?_)
  refine lv_aload_n S.1 S.2.1 dX1_holds_5 rfl (lv_at hl 0 rfl) ?_
  refine r_getR (j := 11) S hW inX1 rfl f37 rfl LH_11 (by decide) rfl dX1_holds_6 ?_
  refine lv_aload_n S.1 S.2.1 dX1_holds_9 rfl (lv_at hl 0 rfl) ?_
  refine r_getR (j := 7) S hW inX1 rfl f24 rfl LH_11 (by decide) rfl dX1_holds_10 ?_
  refine lv_iload_n S.1 S.2.1 dX1_holds_13 rfl (lv_at hl 1 rfl) ?_
  have b3 := h.1
  have h := h.2
  refine r_iald S hW LH_16 b3 dX1_holds_14 ?_
  have b4 := h.1
  have h := h.2
  refine r_iald S hW LH_20 b4 dX1_holds_15 ?_
  refine lv_iconst (v := -1) S.1 S.2.1 dX1_holds_16 rfl ?_
  refine lv_icmp_eq (tgt := 24) S.1 S.2.1 dX1_holds_17 (by decide) (fun c5 => ?_) (fun c5 => ?_)
  · have h := h.1 c5
    refine lv_iconst (v := 0) S.1 S.2.1 dX1_holds_24 rfl ?_
    exact r_zret S hr hlk hW rfl h dX1_holds_25
  · have h := h.2 c5
    refine lv_iconst (v := 1) S.1 S.2.1 dX1_holds_20 rfl ?_
    refine lv_goto (tgt := 25) S.1 S.2.1 dX1_holds_21 (by decide) ?_
    exact r_zret S hr hlk hW rfl h dX1_holds_25
abbrev rmX1_isAskOf : Room := { frames := 1, cells := 0, slots := 0, locals := 21 }
set_option maxHeartbeats 4000000 in
set_option maxRecDepth 100000 in
theorem mX1_isAskOf (l : Launch) (D : va_G) (T : Nat → ClassId) (σ : Nat → Nat) (M : Mem) (a1 : Int32) (a2 : Int32) (post : Int32 → Mem → Prop) (h : qX1_isAskOf a1 a2 M post) : Met l yX1_isAskOf wsX1_isAskOf rmX1_isAskOf (preW D T LH σ [.ref (σ 11), .int a1, .int a2] M) (postI D T LH σ post) 0 0 (fA LH σ) := by
  refine m_of (cc := cX1_isAskOf) (maxL := 3) (ret := (some .boolean)) (own := RX1) (by decide) rfl rfl (Nat.le_of_ble_eq_true rfl) ?_
  intro p e s m args below meth c H ls locs S hr hlk hl hW
  have hl : lv_has ls 3 [(0, .ref (σ 11)), (1, .int a1), (2, .int a2)] := hl
  have inX1 : ∀ w ∈ u_ws RX1 TX1 13, w ∈ wsX1_isAskOf := by decide +kernel
  have f24 := S.2.2.2.2 (.fieldLink RX1 24 "MachineHall$Hall" "ofHour" "[I") (by decide +kernel)
  have w57 := va_cwS (R := rmX1_isAskOf) (rm := rmX1_has) (mc := 0) (ms := 0) 2 S.2.2.2.2 gX1_isAskOf_X1_has rfl rfl rfl (by decide +kernel) ⟨Nat.le_of_ble_eq_true rfl, Nat.le_of_ble_eq_true rfl⟩
  refine lv_aload_n S.1 S.2.1 dX1_isAskOf_0 rfl (lv_at hl 0 rfl) ?_
  refine r_getR (j := 7) S hW inX1 rfl f24 rfl LH_11 (by decide) rfl dX1_isAskOf_1 ?_
  refine lv_iload_n S.1 S.2.1 dX1_isAskOf_4 rfl (lv_at hl 2 rfl) ?_
  have b1 := h.1
  have h := h.2
  refine r_iald S hW LH_16 b1 dX1_isAskOf_5 ?_
  refine lv_iload_n S.1 S.2.1 dX1_isAskOf_6 rfl (lv_at hl 1 rfl) ?_
  refine r_goI (r_runS (rest := []) S hW (mX1_has l D T σ M (M.1 16 a2.toNatClampNeg) a1 _ h) w57 rfl hl.1 rfl (Nat.le_of_ble_eq_true rfl) dX1_isAskOf_7 ⟨Nat.zero_le _, Nat.zero_le _⟩) hW (fun r2 M3 H locs h hW => ?_)
  exact r_zret S hr hlk hW h.1 h.2 dX1_isAskOf_10
abbrev rmX1_layingOf : Room := { frames := 3, cells := 0, slots := 0, locals := 69 }
set_option maxHeartbeats 4000000 in
set_option maxRecDepth 100000 in
theorem mX1_layingOf (l : Launch) (D : va_G) (T : Nat → ClassId) (σ : Nat → Nat) (M : Mem) (a1 : Int32) (a2 : Int32) (a3 : Int32) (post : Int32 → Mem → Prop) (h : qX1_layingOf a1 a2 a3 M post) : Met l yX1_layingOf wsX1_layingOf rmX1_layingOf (preW D T LH σ [.ref (σ 11), .int a1, .int a2, .int a3] M) (postI D T LH σ post) 0 0 (fA LH σ) := by
  refine m_of (cc := cX1_layingOf) (maxL := 7) (ret := (some .int)) (own := RX1) (by decide) rfl rfl (Nat.le_of_ble_eq_true rfl) ?_
  intro p e s m args below meth c H ls locs S hr hlk hl hW
  have hl : lv_has ls 7 [(0, .ref (σ 11)), (1, .int a1), (2, .int a2), (3, .int a3)] := hl
  have w68 := cwV (R := rmX1_layingOf) (rm := rmX1_findLatest) (mc := 0) (ms := 0) 1 S.2.2.2.2 gX1_layingOf_X1_findLatest rfl rfl rfl (by decide +kernel) ⟨Nat.le_of_ble_eq_true rfl, Nat.le_of_ble_eq_true rfl⟩
  have inX1 : ∀ w ∈ u_ws RX1 TX1 13, w ∈ wsX1_layingOf := by decide +kernel
  have f24 := S.2.2.2.2 (.fieldLink RX1 24 "MachineHall$Hall" "ofHour" "[I") (by decide +kernel)
  have f48 := S.2.2.2.2 (.fieldLink RX1 48 "MachineHall$Hall" "machines" "I") (by decide +kernel)
  have w57 := va_cwS (R := rmX1_layingOf) (rm := rmX1_has) (mc := 0) (ms := 0) 2 S.2.2.2.2 gX1_layingOf_X1_has rfl rfl rfl (by decide +kernel) ⟨Nat.le_of_ble_eq_true rfl, Nat.le_of_ble_eq_true rfl⟩
  have w71 := cwV (R := rmX1_layingOf) (rm := rmX1_greatestOn) (mc := 0) (ms := 0) 2 S.2.2.2.2 gX1_layingOf_X1_greatestOn rfl rfl rfl (by decide +kernel) ⟨Nat.le_of_ble_eq_true rfl, Nat.le_of_ble_eq_true rfl⟩
  obtain ⟨R16, e16⟩ : ∃ R : Int32 → Int32 → Mem → Prop, ∀ x4 x5 M, R x4 x5 M ↔ WW p l e rmX1_layingOf s m args below meth c D T LH σ 7 (MQ below (postI D T LH σ post) args s 0 0 (fA LH σ)) 16 [(0, .ref (σ 11)), (2, .int a2), (3, .int a3), (4, .int x4), (5, .int x5)] [] M := ⟨_, fun _ _ _ => Iff.rfl⟩
  have h := h R16
  have z16 : ∀ x4 x5 M, qX1_layingOf_b16 a1 a2 a3 post R16 x4 x5 M → R16 x4 x5 M := by
    intro x4 x5 M h
    refine (e16 _ _ _).mpr (fun H locs ls hW hl => ?_)
    refine lv_iload S.1 S.2.1 dX1_layingOf_16 (lv_at hl 4 rfl) ?_
    refine lv_aload_n S.1 S.2.1 dX1_layingOf_18 rfl (lv_at hl 0 rfl) ?_
    refine r_getI (j := 0) S hW inX1 rfl f48 rfl LH_11 (by decide) rfl dX1_layingOf_19 ?_
    refine lv_icmp_ge (tgt := 69) S.1 S.2.1 dX1_layingOf_22 (by decide) (fun c5 => ?_) (fun c5 => ?_)
    · have h := h.1 c5
      refine lv_iconst (v := -1) S.1 S.2.1 dX1_layingOf_69 rfl ?_
      exact r_iret S hr hlk hW h dX1_layingOf_70
    · have h := h.2 c5
      refine lv_iload_n S.1 S.2.1 dX1_layingOf_25 rfl (lv_at hl 1 rfl) ?_
      refine lv_iload S.1 S.2.1 dX1_layingOf_26 (lv_at hl 4 rfl) ?_
      refine r_goI (r_runS (rest := []) S hW (mX1_has l D T σ M a2 x5 _ h) w57 rfl hl.1 rfl (Nat.le_of_ble_eq_true rfl) dX1_layingOf_28 ⟨Nat.zero_le _, Nat.zero_le _⟩) hW (fun r6 M7 H locs h hW => ?_)
      refine lv_if_eq (tgt := 63) S.1 S.2.1 dX1_layingOf_31 (by decide) (fun c8 => ?_) (fun c8 => ?_)
      · have h := h.1 c8
        obtain ⟨v9, ev9⟩ : ∃ y : Int32, y = x5 + 1 := ⟨_, rfl⟩
        have h := h v9 ev9
        refine lv_iinc (v := v9) (lv' := [(5, .int v9), (0, .ref (σ 11)), (2, .int a2), (3, .int a3), (4, .int x4)]) S.1 S.2.1 dX1_layingOf_63 hl (k := 4) rfl (by rw [ev9]; rfl) (by decide) rfl (fun ls hl => ?_)
        refine lv_goto (tgt := 16) S.1 S.2.1 dX1_layingOf_66 (by decide) ?_
        exact (e16 _ _ _).mp h H locs ls hW (lv_sub hl [1, 2, 3, 4, 0] rfl)
      · have h := h.2 c8
        refine lv_aload_n S.1 S.2.1 dX1_layingOf_34 rfl (lv_at hl 0 rfl) ?_
        refine lv_iload S.1 S.2.1 dX1_layingOf_35 (lv_at hl 4 rfl) ?_
        refine lv_iload S.1 S.2.1 dX1_layingOf_37 (lv_at hl 3 rfl) ?_
        refine r_goI (r_runV (rest := []) S hW (mX1_greatestOn l D T σ M7 x5 x4 _ h) w71 rfl LH_11 rfl hl.1 rfl (Nat.le_of_ble_eq_true rfl) dX1_layingOf_39 ⟨Nat.zero_le _, Nat.zero_le _⟩) hW (fun r10 M11 H locs h hW => ?_)
        refine lv_istore (lv' := [(6, .int r10), (0, .ref (σ 11)), (2, .int a2), (3, .int a3), (4, .int x4), (5, .int x5)]) S.1 S.2.1 dX1_layingOf_42 hl (by decide) rfl (fun ls hl => ?_)
        refine lv_iload S.1 S.2.1 dX1_layingOf_44 (lv_at hl 0 rfl) ?_
        refine lv_iload_n S.1 S.2.1 dX1_layingOf_46 rfl (lv_at hl 3 rfl) ?_
        refine r_goI (r_runS (rest := []) S hW (mX1_has l D T σ M11 r10 a3 _ h) w57 rfl hl.1 rfl (Nat.le_of_ble_eq_true rfl) dX1_layingOf_47 ⟨Nat.zero_le _, Nat.zero_le _⟩) hW (fun r12 M13 H locs h hW => ?_)
        refine lv_if_eq (tgt := 56) S.1 S.2.1 dX1_layingOf_50 (by decide) (fun c14 => ?_) (fun c14 => ?_)
        · have h := h.1 c14
          refine lv_iload S.1 S.2.1 dX1_layingOf_56 (lv_at hl 4 rfl) ?_
          refine lv_iload S.1 S.2.1 dX1_layingOf_58 (lv_at hl 0 rfl) ?_
          refine lv_ixor S.1 S.2.1 dX1_layingOf_60 ?_
          refine lv_topi (fun v15 ev15 => ?_)
          have h := h v15 ev15
          refine lv_istore (lv' := [(4, .int v15), (6, .int r10), (0, .ref (σ 11)), (2, .int a2), (3, .int a3), (5, .int x5)]) S.1 S.2.1 dX1_layingOf_61 hl (by decide) rfl (fun ls hl => ?_)
          obtain ⟨v16, ev16⟩ : ∃ y : Int32, y = x5 + 1 := ⟨_, rfl⟩
          have h := h v16 ev16
          refine lv_iinc (v := v16) (lv' := [(5, .int v16), (4, .int v15), (6, .int r10), (0, .ref (σ 11)), (2, .int a2), (3, .int a3)]) S.1 S.2.1 dX1_layingOf_63 hl (k := 5) rfl (by rw [ev16]; rfl) (by decide) rfl (fun ls hl => ?_)
          refine lv_goto (tgt := 16) S.1 S.2.1 dX1_layingOf_66 (by decide) ?_
          exact (e16 _ _ _).mp h H locs ls hW (lv_sub hl [3, 4, 5, 1, 0] rfl)
        · have h := h.2 c14
          refine lv_iload S.1 S.2.1 dX1_layingOf_53 (lv_at hl 5 rfl) ?_
          exact r_iret S hr hlk hW h dX1_layingOf_55
  have h := h z16
  refine lv_aload_n S.1 S.2.1 dX1_layingOf_0 rfl (lv_at hl 0 rfl) ?_
  refine lv_iload_n S.1 S.2.1 dX1_layingOf_1 rfl (lv_at hl 2 rfl) ?_
  refine r_goV (r_runV (rest := []) S hW (mX1_findLatest l D T σ M a2 _ h) w68 rfl LH_11 rfl hl.1 rfl (Nat.le_of_ble_eq_true rfl) dX1_layingOf_2 ⟨Nat.zero_le _, Nat.zero_le _⟩) hW (fun M2 H locs h hW => ?_)
  refine lv_aload_n S.1 S.2.1 dX1_layingOf_5 rfl (lv_at hl 0 rfl) ?_
  refine r_getR (j := 7) S hW inX1 rfl f24 rfl LH_11 (by decide) rfl dX1_layingOf_6 ?_
  refine lv_iload_n S.1 S.2.1 dX1_layingOf_9 rfl (lv_at hl 1 rfl) ?_
  have b3 := h.1
  have h := h.2
  refine r_iald S hW LH_16 b3 dX1_layingOf_10 ?_
  refine lv_topi (fun v4 ev4 => ?_)
  have h := h v4 ev4
  refine lv_istore (lv' := [(4, .int v4), (0, .ref (σ 11)), (1, .int a1), (2, .int a2), (3, .int a3)]) S.1 S.2.1 dX1_layingOf_11 hl (by decide) rfl (fun ls hl => ?_)
  refine lv_iconst (v := 0) S.1 S.2.1 dX1_layingOf_13 rfl ?_
  refine lv_istore (lv' := [(5, .int (0 : Int32)), (4, .int v4), (0, .ref (σ 11)), (1, .int a1), (2, .int a2), (3, .int a3)]) S.1 S.2.1 dX1_layingOf_14 hl (by decide) rfl (fun ls hl => ?_)
  exact (e16 _ _ _).mp h H locs ls hW (lv_sub hl [2, 4, 5, 1, 0] rfl)
abbrev rmX1_lacking : Room := { frames := 3, cells := 0, slots := 0, locals := 69 }
set_option maxHeartbeats 4000000 in
set_option maxRecDepth 100000 in
theorem mX1_lacking (l : Launch) (D : va_G) (T : Nat → ClassId) (σ : Nat → Nat) (M : Mem) (a1 : Int32) (a2 : Int32) (post : Int32 → Mem → Prop) (h : qX1_lacking a1 a2 M post) : Met l yX1_lacking wsX1_lacking rmX1_lacking (preW D T LH σ [.ref (σ 11), .int a1, .int a2] M) (postI D T LH σ post) 0 0 (fA LH σ) := by
  refine m_of (cc := cX1_lacking) (maxL := 6) (ret := (some .int)) (own := RX1) (by decide) rfl rfl (Nat.le_of_ble_eq_true rfl) ?_
  intro p e s m args below meth c H ls locs S hr hlk hl hW
  have hl : lv_has ls 6 [(0, .ref (σ 11)), (1, .int a1), (2, .int a2)] := hl
  have w68 := cwV (R := rmX1_lacking) (rm := rmX1_findLatest) (mc := 0) (ms := 0) 1 S.2.2.2.2 gX1_lacking_X1_findLatest rfl rfl rfl (by decide +kernel) ⟨Nat.le_of_ble_eq_true rfl, Nat.le_of_ble_eq_true rfl⟩
  have inX1 : ∀ w ∈ u_ws RX1 TX1 13, w ∈ wsX1_lacking := by decide +kernel
  have f24 := S.2.2.2.2 (.fieldLink RX1 24 "MachineHall$Hall" "ofHour" "[I") (by decide +kernel)
  have f27 := S.2.2.2.2 (.fieldLink RX1 27 "MachineHall$Hall" "load" "[I") (by decide +kernel)
  have f37 := S.2.2.2.2 (.fieldLink RX1 37 "MachineHall$Hall" "latest" "[I") (by decide +kernel)
  have l75 := S.2.2.2.2 (.methodLink RX1 75 Lib.Math.max.name) (by decide +kernel)
  have smax := S.2.2.2.2 (.static Lib.Math.max.name) (by decide +kernel)
  have omax := S.2.2.2.2 (.code Lib.Math.max.name Lib.Math.max.code 2 (some .int)) (by decide +kernel)
  have iMath := S.2.2.2.2 (.initialized "java/lang/Math") (by decide +kernel)
  obtain ⟨R18, e18⟩ : ∃ R : Int32 → Int32 → Int32 → Mem → Prop, ∀ x3 x4 x5 M, R x3 x4 x5 M ↔ WW p l e rmX1_lacking s m args below meth c D T LH σ 6 (MQ below (postI D T LH σ post) args s 0 0 (fA LH σ)) 18 [(0, .ref (σ 11)), (3, .int x3), (4, .int x4), (5, .int x5)] [] M := ⟨_, fun _ _ _ _ => Iff.rfl⟩
  have h := h R18
  have z18 : ∀ x3 x4 x5 M, qX1_lacking_b18 a1 a2 post R18 x3 x4 x5 M → R18 x3 x4 x5 M := by
    intro x3 x4 x5 M h
    refine (e18 _ _ _ _).mpr (fun H locs ls hW hl => ?_)
    refine lv_iload S.1 S.2.1 dX1_lacking_18 (lv_at hl 3 rfl) ?_
    refine lv_if_le (tgt := 59) S.1 S.2.1 dX1_lacking_20 (by decide) (fun c5 => ?_) (fun c5 => ?_)
    · have h := h.1 c5
      refine lv_aload_n S.1 S.2.1 dX1_lacking_59 rfl (lv_at hl 0 rfl) ?_
      refine r_getR (j := 8) S hW inX1 rfl f27 rfl LH_11 (by decide) rfl dX1_lacking_60 ?_
      refine lv_iload_n S.1 S.2.1 dX1_lacking_63 rfl (lv_at hl 1 rfl) ?_
      have b6 := h.1
      have h := h.2
      refine r_iald S hW LH_17 b6 dX1_lacking_64 ?_
      refine lv_iload S.1 S.2.1 dX1_lacking_65 (lv_at hl 2 rfl) ?_
      refine lv_isub S.1 S.2.1 dX1_lacking_67 ?_
      exact r_iret S hr hlk hW h dX1_lacking_68
    · have h := h.2 c5
      refine lv_aload_n S.1 S.2.1 dX1_lacking_23 rfl (lv_at hl 0 rfl) ?_
      refine r_getR (j := 11) S hW inX1 rfl f37 rfl LH_11 (by decide) rfl dX1_lacking_24 ?_
      refine lv_iload S.1 S.2.1 dX1_lacking_27 (lv_at hl 3 rfl) ?_
      have b7 := h.1
      have h := h.2
      refine r_iald S hW LH_20 b7 dX1_lacking_29 ?_
      refine lv_iconst (v := -1) S.1 S.2.1 dX1_lacking_30 rfl ?_
      refine lv_icmp_eq (tgt := 48) S.1 S.2.1 dX1_lacking_31 (by decide) (fun c8 => ?_) (fun c8 => ?_)
      · have h := h.1 c8
        refine lv_iload S.1 S.2.1 dX1_lacking_48 (lv_at hl 3 rfl) ?_
        refine lv_iconst (v := 1) S.1 S.2.1 dX1_lacking_50 rfl ?_
        refine lv_isub S.1 S.2.1 dX1_lacking_51 ?_
        refine lv_iload_n S.1 S.2.1 dX1_lacking_52 rfl (lv_at hl 1 rfl) ?_
        refine lv_iand S.1 S.2.1 dX1_lacking_53 ?_
        refine lv_topi (fun v9 ev9 => ?_)
        have h := h v9 ev9
        refine lv_istore (lv' := [(5, .int v9), (0, .ref (σ 11)), (3, .int x3), (4, .int x4)]) S.1 S.2.1 dX1_lacking_54 hl (by decide) rfl (fun ls hl => ?_)
        refine lv_goto (tgt := 18) S.1 S.2.1 dX1_lacking_56 (by decide) ?_
        exact (e18 _ _ _ _).mp h H locs ls hW (lv_sub hl [1, 2, 3, 0] rfl)
      · have h := h.2 c8
        refine lv_iload S.1 S.2.1 dX1_lacking_34 (lv_at hl 2 rfl) ?_
        refine lv_aload_n S.1 S.2.1 dX1_lacking_36 rfl (lv_at hl 0 rfl) ?_
        refine r_getR (j := 8) S hW inX1 rfl f27 rfl LH_11 (by decide) rfl dX1_lacking_37 ?_
        refine lv_iload S.1 S.2.1 dX1_lacking_40 (lv_at hl 3 rfl) ?_
        have b10 := h.1
        have h := h.2
        refine r_iald S hW LH_17 b10 dX1_lacking_42 ?_
        refine r_max S hl.1 l75 smax iMath omax (Nat.le_of_ble_eq_true rfl) (Nat.le_of_ble_eq_true rfl) (Nat.zero_le _) (Nat.zero_le _) dX1_lacking_43 ?_
        refine lv_topi (fun v11 ev11 => ?_)
        have h := h v11 ev11
        refine lv_istore (lv' := [(4, .int v11), (0, .ref (σ 11)), (3, .int x3), (5, .int x5)]) S.1 S.2.1 dX1_lacking_46 hl (by decide) rfl (fun ls hl => ?_)
        refine lv_iload S.1 S.2.1 dX1_lacking_48 (lv_at hl 3 rfl) ?_
        refine lv_iconst (v := 1) S.1 S.2.1 dX1_lacking_50 rfl ?_
        refine lv_isub S.1 S.2.1 dX1_lacking_51 ?_
        refine lv_iload_n S.1 S.2.1 dX1_lacking_52 rfl (lv_at hl 2 rfl) ?_
        refine lv_iand S.1 S.2.1 dX1_lacking_53 ?_
        refine lv_topi (fun v12 ev12 => ?_)
        have h := h v12 ev12
        refine lv_istore (lv' := [(5, .int v12), (4, .int v11), (0, .ref (σ 11)), (3, .int x3)]) S.1 S.2.1 dX1_lacking_54 hl (by decide) rfl (fun ls hl => ?_)
        refine lv_goto (tgt := 18) S.1 S.2.1 dX1_lacking_56 (by decide) ?_
        exact (e18 _ _ _ _).mp h H locs ls hW (lv_sub hl [2, 3, 1, 0] rfl)
  have h := h z18
  refine lv_aload_n S.1 S.2.1 dX1_lacking_0 rfl (lv_at hl 0 rfl) ?_
  refine lv_iload_n S.1 S.2.1 dX1_lacking_1 rfl (lv_at hl 2 rfl) ?_
  refine r_goV (r_runV (rest := []) S hW (mX1_findLatest l D T σ M a2 _ h) w68 rfl LH_11 rfl hl.1 rfl (Nat.le_of_ble_eq_true rfl) dX1_lacking_2 ⟨Nat.zero_le _, Nat.zero_le _⟩) hW (fun M2 H locs h hW => ?_)
  refine lv_aload_n S.1 S.2.1 dX1_lacking_5 rfl (lv_at hl 0 rfl) ?_
  refine r_getR (j := 7) S hW inX1 rfl f24 rfl LH_11 (by decide) rfl dX1_lacking_6 ?_
  refine lv_iload_n S.1 S.2.1 dX1_lacking_9 rfl (lv_at hl 1 rfl) ?_
  have b3 := h.1
  have h := h.2
  refine r_iald S hW LH_16 b3 dX1_lacking_10 ?_
  refine lv_topi (fun v4 ev4 => ?_)
  have h := h v4 ev4
  refine lv_istore_n (lv' := [(3, .int v4), (0, .ref (σ 11)), (1, .int a1), (2, .int a2)]) S.1 S.2.1 dX1_lacking_11 rfl hl (by decide) rfl (fun ls hl => ?_)
  refine lv_iconst (v := 0) S.1 S.2.1 dX1_lacking_12 rfl ?_
  refine lv_istore (lv' := [(4, .int (0 : Int32)), (3, .int v4), (0, .ref (σ 11)), (1, .int a1), (2, .int a2)]) S.1 S.2.1 dX1_lacking_13 hl (by decide) rfl (fun ls hl => ?_)
  refine lv_iload_n S.1 S.2.1 dX1_lacking_15 rfl (lv_at hl 1 rfl) ?_
  refine lv_istore (lv' := [(5, .int v4), (4, .int (0 : Int32)), (3, .int v4), (0, .ref (σ 11)), (1, .int a1), (2, .int a2)]) S.1 S.2.1 dX1_lacking_16 hl (by decide) rfl (fun ls hl => ?_)
  exact (e18 _ _ _ _).mp h H locs ls hW (lv_sub hl [3, 2, 1, 0] rfl)
abbrev rmX1_leftOver : Room := { frames := 3, cells := 0, slots := 0, locals := 69 }
set_option maxHeartbeats 4000000 in
set_option maxRecDepth 100000 in
theorem mX1_leftOver (l : Launch) (D : va_G) (T : Nat → ClassId) (σ : Nat → Nat) (M : Mem) (a1 : Int32) (a2 : Int32) (post : Int32 → Mem → Prop) (h : qX1_leftOver a1 a2 M post) : Met l yX1_leftOver wsX1_leftOver rmX1_leftOver (preW D T LH σ [.ref (σ 11), .int a1, .int a2] M) (postI D T LH σ post) 0 0 (fA LH σ) := by
  refine m_of (cc := cX1_leftOver) (maxL := 4) (ret := (some .int)) (own := RX1) (by decide) rfl rfl (Nat.le_of_ble_eq_true rfl) ?_
  intro p e s m args below meth c H ls locs S hr hlk hl hW
  have hl : lv_has ls 4 [(0, .ref (σ 11)), (1, .int a1), (2, .int a2)] := hl
  have w68 := cwV (R := rmX1_leftOver) (rm := rmX1_findLatest) (mc := 0) (ms := 0) 1 S.2.2.2.2 gX1_leftOver_X1_findLatest rfl rfl rfl (by decide +kernel) ⟨Nat.le_of_ble_eq_true rfl, Nat.le_of_ble_eq_true rfl⟩
  have inX1 : ∀ w ∈ u_ws RX1 TX1 13, w ∈ wsX1_leftOver := by decide +kernel
  have f24 := S.2.2.2.2 (.fieldLink RX1 24 "MachineHall$Hall" "ofHour" "[I") (by decide +kernel)
  have f37 := S.2.2.2.2 (.fieldLink RX1 37 "MachineHall$Hall" "latest" "[I") (by decide +kernel)
  have w80 := cwV (R := rmX1_leftOver) (rm := rmX1_sizeOf) (mc := 0) (ms := 0) 1 S.2.2.2.2 gX1_leftOver_X1_sizeOf rfl rfl rfl (by decide +kernel) ⟨Nat.le_of_ble_eq_true rfl, Nat.le_of_ble_eq_true rfl⟩
  have f27 := S.2.2.2.2 (.fieldLink RX1 27 "MachineHall$Hall" "load" "[I") (by decide +kernel)
  refine lv_aload_n S.1 S.2.1 dX1_leftOver_0 rfl (lv_at hl 0 rfl) ?_
  refine lv_iload_n S.1 S.2.1 dX1_leftOver_1 rfl (lv_at hl 2 rfl) ?_
  refine r_goV (r_runV (rest := []) S hW (mX1_findLatest l D T σ M a2 _ h) w68 rfl LH_11 rfl hl.1 rfl (Nat.le_of_ble_eq_true rfl) dX1_leftOver_2 ⟨Nat.zero_le _, Nat.zero_le _⟩) hW (fun M2 H locs h hW => ?_)
  refine lv_aload_n S.1 S.2.1 dX1_leftOver_5 rfl (lv_at hl 0 rfl) ?_
  refine r_getR (j := 7) S hW inX1 rfl f24 rfl LH_11 (by decide) rfl dX1_leftOver_6 ?_
  refine lv_iload_n S.1 S.2.1 dX1_leftOver_9 rfl (lv_at hl 1 rfl) ?_
  have b3 := h.1
  have h := h.2
  refine r_iald S hW LH_16 b3 dX1_leftOver_10 ?_
  refine lv_topi (fun v4 ev4 => ?_)
  have h := h v4 ev4
  refine lv_istore_n (lv' := [(3, .int v4), (0, .ref (σ 11)), (1, .int a1), (2, .int a2)]) S.1 S.2.1 dX1_leftOver_11 rfl hl (by decide) rfl (fun ls hl => ?_)
  refine lv_aload_n S.1 S.2.1 dX1_leftOver_12 rfl (lv_at hl 1 rfl) ?_
  refine r_getR (j := 11) S hW inX1 rfl f37 rfl LH_11 (by decide) rfl dX1_leftOver_13 ?_
  refine lv_iload_n S.1 S.2.1 dX1_leftOver_16 rfl (lv_at hl 0 rfl) ?_
  have b5 := h.1
  have h := h.2
  refine r_iald S hW LH_20 b5 dX1_leftOver_17 ?_
  refine lv_iconst (v := -1) S.1 S.2.1 dX1_leftOver_18 rfl ?_
  refine lv_icmp_eq (tgt := 37) S.1 S.2.1 dX1_leftOver_19 (by decide) (fun c6 => ?_) (fun c6 => ?_)
  · have h := h.1 c6
    refine lv_iconst (v := 0) S.1 S.2.1 dX1_leftOver_37 rfl ?_
    exact r_iret S hr hlk hW h dX1_leftOver_38
  · have h := h.2 c6
    refine lv_aload_n S.1 S.2.1 dX1_leftOver_22 rfl (lv_at hl 1 rfl) ?_
    refine lv_iload_n S.1 S.2.1 dX1_leftOver_23 rfl (lv_at hl 3 rfl) ?_
    refine r_goI (r_runV (rest := []) S hW (mX1_sizeOf l D T σ M2 a2 _ h) w80 rfl LH_11 rfl hl.1 rfl (Nat.le_of_ble_eq_true rfl) dX1_leftOver_24 ⟨Nat.zero_le _, Nat.zero_le _⟩) hW (fun r7 M8 H locs h hW => ?_)
    refine lv_aload_n S.1 S.2.1 dX1_leftOver_27 rfl (lv_at hl 1 rfl) ?_
    refine r_getR (j := 8) S hW inX1 rfl f27 rfl LH_11 (by decide) rfl dX1_leftOver_28 ?_
    refine lv_iload_n S.1 S.2.1 dX1_leftOver_31 rfl (lv_at hl 0 rfl) ?_
    have b9 := h.1
    have h := h.2
    refine r_iald S hW LH_17 b9 dX1_leftOver_32 ?_
    refine lv_isub S.1 S.2.1 dX1_leftOver_33 ?_
    refine lv_goto (tgt := 38) S.1 S.2.1 dX1_leftOver_34 (by decide) ?_
    exact r_iret S hr hlk hW h dX1_leftOver_38
abbrev rmX1_isLookedAt : Room := { frames := 0, cells := 0, slots := 0, locals := 0 }
set_option maxHeartbeats 4000000 in
set_option maxRecDepth 100000 in
theorem mX1_isLookedAt (l : Launch) (D : va_G) (T : Nat → ClassId) (σ : Nat → Nat) (M : Mem) (a1 : Int32) (a2 : Int32) (post : Int32 → Mem → Prop) (h : qX1_isLookedAt a1 a2 M post) : Met l yX1_isLookedAt wsX1_isLookedAt rmX1_isLookedAt (preW D T LH σ [.ref (σ 11), .int a1, .int a2] M) (postI D T LH σ post) 0 0 (fA LH σ) := by
  refine m_of (cc := cX1_isLookedAt) (maxL := 3) (ret := (some .boolean)) (own := RX1) (by decide) rfl rfl (Nat.le_of_ble_eq_true rfl) ?_
  intro p e s m args below meth c H ls locs S hr hlk hl hW
  have hl : lv_has ls 3 [(0, .ref (σ 11)), (1, .int a1), (2, .int a2)] := hl
  have inX1 : ∀ w ∈ u_ws RX1 TX1 13, w ∈ wsX1_isLookedAt := by decide +kernel
  have f48 := S.2.2.2.2 (.fieldLink RX1 48 "MachineHall$Hall" "machines" "I") (by decide +kernel)
  refine lv_iload_n S.1 S.2.1 dX1_isLookedAt_0 rfl (lv_at hl 1 rfl) ?_
  refine lv_bipush (v := 12) S.1 S.2.1 dX1_isLookedAt_1 rfl ?_
  refine lv_icmp_le (tgt := 17) S.1 S.2.1 dX1_isLookedAt_3 (by decide) (fun c1 => ?_) (fun c1 => ?_)
  · have h := h.1 c1
    refine lv_iload_n S.1 S.2.1 dX1_isLookedAt_17 rfl (lv_at hl 1 rfl) ?_
    refine lv_if_eq (tgt := 33) S.1 S.2.1 dX1_isLookedAt_18 (by decide) (fun c2 => ?_) (fun c2 => ?_)
    · have h := h.1 c2
      refine lv_iconst (v := 1) S.1 S.2.1 dX1_isLookedAt_33 rfl ?_
      refine lv_goto (tgt := 38) S.1 S.2.1 dX1_isLookedAt_34 (by decide) ?_
      exact r_zret S hr hlk hW rfl h dX1_isLookedAt_38
    · have h := h.2 c2
      refine lv_iload_n S.1 S.2.1 dX1_isLookedAt_21 rfl (lv_at hl 2 rfl) ?_
      refine lv_if_le (tgt := 37) S.1 S.2.1 dX1_isLookedAt_22 (by decide) (fun c3 => ?_) (fun c3 => ?_)
      · have h := h.1 c3
        refine lv_iconst (v := 0) S.1 S.2.1 dX1_isLookedAt_37 rfl ?_
        exact r_zret S hr hlk hW rfl h dX1_isLookedAt_38
      · have h := h.2 c3
        refine lv_iload_n S.1 S.2.1 dX1_isLookedAt_25 rfl (lv_at hl 1 rfl) ?_
        refine lv_aload_n S.1 S.2.1 dX1_isLookedAt_26 rfl (lv_at hl 0 rfl) ?_
        refine r_getI (j := 0) S hW inX1 rfl f48 rfl LH_11 (by decide) rfl dX1_isLookedAt_27 ?_
        refine lv_icmp_gt (tgt := 37) S.1 S.2.1 dX1_isLookedAt_30 (by decide) (fun c4 => ?_) (fun c4 => ?_)
        · have h := h.1 c4
          refine lv_iconst (v := 0) S.1 S.2.1 dX1_isLookedAt_37 rfl ?_
          exact r_zret S hr hlk hW rfl h dX1_isLookedAt_38
        · have h := h.2 c4
          refine lv_iconst (v := 1) S.1 S.2.1 dX1_isLookedAt_33 rfl ?_
          refine lv_goto (tgt := 38) S.1 S.2.1 dX1_isLookedAt_34 (by decide) ?_
          exact r_zret S hr hlk hW rfl h dX1_isLookedAt_38
  · have h := h.2 c1
    refine lv_iload_n S.1 S.2.1 dX1_isLookedAt_6 rfl (lv_at hl 2 rfl) ?_
    refine lv_iconst (v := 2) S.1 S.2.1 dX1_isLookedAt_7 rfl ?_
    refine lv_icmp_ne (tgt := 15) S.1 S.2.1 dX1_isLookedAt_8 (by decide) (fun c5 => ?_) (fun c5 => ?_)
    · have h := h.1 c5
      refine lv_iconst (v := 0) S.1 S.2.1 dX1_isLookedAt_15 rfl ?_
      exact r_zret S hr hlk hW rfl h dX1_isLookedAt_16
    · have h := h.2 c5
      refine lv_iconst (v := 1) S.1 S.2.1 dX1_isLookedAt_11 rfl ?_
      refine lv_goto (tgt := 16) S.1 S.2.1 dX1_isLookedAt_12 (by decide) ?_
      exact r_zret S hr hlk hW rfl h dX1_isLookedAt_16
abbrev rmX1_firstUnfitHour : Room := { frames := 4, cells := 0, slots := 0, locals := 91 }
set_option maxHeartbeats 4000000 in
set_option maxRecDepth 100000 in
theorem mX1_firstUnfitHour (l : Launch) (D : va_G) (T : Nat → ClassId) (σ : Nat → Nat) (M : Mem) (a1 : Int32) (a2 : Int32) (post : Int32 → Mem → Prop) (h : qX1_firstUnfitHour a1 a2 M post) : Met l yX1_firstUnfitHour wsX1_firstUnfitHour rmX1_firstUnfitHour (preW D T LH σ [.ref (σ 11), .int a1, .int a2] M) (postI D T LH σ post) 0 0 (fA LH σ) := by
  refine m_of (cc := cX1_firstUnfitHour) (maxL := 4) (ret := (some .int)) (own := RX1) (by decide) rfl rfl (Nat.le_of_ble_eq_true rfl) ?_
  intro p e s m args below meth c H ls locs S hr hlk hl hW
  have hl : lv_has ls 4 [(0, .ref (σ 11)), (1, .int a1), (2, .int a2)] := hl
  have w93 := cwV (R := rmX1_firstUnfitHour) (rm := rmX1_holds) (mc := 0) (ms := 0) 2 S.2.2.2.2 gX1_firstUnfitHour_X1_holds rfl rfl rfl (by decide +kernel) ⟨Nat.le_of_ble_eq_true rfl, Nat.le_of_ble_eq_true rfl⟩
  obtain ⟨R2, e2⟩ : ∃ R : Int32 → Mem → Prop, ∀ x3 M, R x3 M ↔ WW p l e rmX1_firstUnfitHour s m args below meth c D T LH σ 4 (MQ below (postI D T LH σ post) args s 0 0 (fA LH σ)) 2 [(0, .ref (σ 11)), (1, .int a1), (2, .int a2), (3, .int x3)] [] M := ⟨_, fun _ _ => Iff.rfl⟩
  have h := h R2
  have z2 : ∀ x3 M, qX1_firstUnfitHour_b2 a1 a2 post R2 x3 M → R2 x3 M := by
    intro x3 M h
    refine (e2 _ _).mpr (fun H locs ls hW hl => ?_)
    refine lv_iload_n S.1 S.2.1 dX1_firstUnfitHour_2 rfl (lv_at hl 3 rfl) ?_
    refine lv_iload_n S.1 S.2.1 dX1_firstUnfitHour_3 rfl (lv_at hl 2 rfl) ?_
    refine lv_icmp_ge (tgt := 24) S.1 S.2.1 dX1_firstUnfitHour_4 (by decide) (fun c1 => ?_) (fun c1 => ?_)
    · have h := h.1 c1
      refine lv_iload_n S.1 S.2.1 dX1_firstUnfitHour_24 rfl (lv_at hl 2 rfl) ?_
      exact r_iret S hr hlk hW h dX1_firstUnfitHour_25
    · have h := h.2 c1
      refine lv_aload_n S.1 S.2.1 dX1_firstUnfitHour_7 rfl (lv_at hl 0 rfl) ?_
      refine lv_iload_n S.1 S.2.1 dX1_firstUnfitHour_8 rfl (lv_at hl 3 rfl) ?_
      refine lv_iload_n S.1 S.2.1 dX1_firstUnfitHour_9 rfl (lv_at hl 1 rfl) ?_
      refine r_goI (r_runV (rest := []) S hW (mX1_holds l D T σ M x3 a1 _ h) w93 rfl LH_11 rfl hl.1 rfl (Nat.le_of_ble_eq_true rfl) dX1_firstUnfitHour_10 ⟨Nat.zero_le _, Nat.zero_le _⟩) hW (fun r2 M3 H locs h hW => ?_)
      refine lv_if_ne (tgt := 18) S.1 S.2.1 dX1_firstUnfitHour_13 (by decide) (fun c4 => ?_) (fun c4 => ?_)
      · have h := h.1 c4
        obtain ⟨v5, ev5⟩ : ∃ y : Int32, y = x3 + 1 := ⟨_, rfl⟩
        have h := h v5 ev5
        refine lv_iinc (v := v5) (lv' := [(3, .int v5), (0, .ref (σ 11)), (1, .int a1), (2, .int a2)]) S.1 S.2.1 dX1_firstUnfitHour_18 hl (k := 3) rfl (by rw [ev5]; rfl) (by decide) rfl (fun ls hl => ?_)
        refine lv_goto (tgt := 2) S.1 S.2.1 dX1_firstUnfitHour_21 (by decide) ?_
        exact (e2 _ _).mp h H locs ls hW (lv_sub hl [1, 2, 3, 0] rfl)
      · have h := h.2 c4
        refine lv_iload_n S.1 S.2.1 dX1_firstUnfitHour_16 rfl (lv_at hl 3 rfl) ?_
        exact r_iret S hr hlk hW h dX1_firstUnfitHour_17
  have h := h z2
  refine lv_iconst (v := 0) S.1 S.2.1 dX1_firstUnfitHour_0 rfl ?_
  refine lv_istore_n (lv' := [(3, .int (0 : Int32)), (0, .ref (σ 11)), (1, .int a1), (2, .int a2)]) S.1 S.2.1 dX1_firstUnfitHour_1 rfl hl (by decide) rfl (fun ls hl => ?_)
  exact (e2 _ _).mp h H locs ls hW (lv_sub hl [1, 2, 3, 0] rfl)
abbrev rmX1_firstUnfit : Room := { frames := 5, cells := 0, slots := 0, locals := 114 }
set_option maxHeartbeats 4000000 in
set_option maxRecDepth 100000 in
theorem mX1_firstUnfit (l : Launch) (D : va_G) (T : Nat → ClassId) (σ : Nat → Nat) (M : Mem) (a1 : Int32) (post : Int32 → Mem → Prop) (h : qX1_firstUnfit a1 M post) : Met l yX1_firstUnfit wsX1_firstUnfit rmX1_firstUnfit (preW D T LH σ [.ref (σ 11), .int a1] M) (postI D T LH σ post) 0 0 (fA LH σ) := by
  refine m_of (cc := cX1_firstUnfit) (maxL := 6) (ret := (some .int)) (own := RX1) (by decide) rfl rfl (Nat.le_of_ble_eq_true rfl) ?_
  intro p e s m args below meth c H ls locs S hr hlk hl hW
  have hl : lv_has ls 6 [(0, .ref (σ 11)), (1, .int a1)] := hl
  have w84 := cwV (R := rmX1_firstUnfit) (rm := rmX1_isLookedAt) (mc := 0) (ms := 0) 2 S.2.2.2.2 gX1_firstUnfit_X1_isLookedAt rfl rfl rfl (by decide +kernel) ⟨Nat.le_of_ble_eq_true rfl, Nat.le_of_ble_eq_true rfl⟩
  have w87 := cwV (R := rmX1_firstUnfit) (rm := rmX1_standing) (mc := 0) (ms := 0) 1 S.2.2.2.2 gX1_firstUnfit_X1_standing rfl rfl rfl (by decide +kernel) ⟨Nat.le_of_ble_eq_true rfl, Nat.le_of_ble_eq_true rfl⟩
  have w90 := cwV (R := rmX1_firstUnfit) (rm := rmX1_firstUnfitHour) (mc := 0) (ms := 0) 2 S.2.2.2.2 gX1_firstUnfit_X1_firstUnfitHour rfl rfl rfl (by decide +kernel) ⟨Nat.le_of_ble_eq_true rfl, Nat.le_of_ble_eq_true rfl⟩
  obtain ⟨R8, e8⟩ : ∃ R : Int32 → Int32 → Int32 → Mem → Prop, ∀ x2 x3 x4 M, R x2 x3 x4 M ↔ WW p l e rmX1_firstUnfit s m args below meth c D T LH σ 6 (MQ below (postI D T LH σ post) args s 0 0 (fA LH σ)) 8 [(0, .ref (σ 11)), (1, .int a1), (2, .int x2), (3, .int x3), (4, .int x4)] [] M := ⟨_, fun _ _ _ _ => Iff.rfl⟩
  have h := h R8
  have z8 : ∀ x2 x3 x4 M, qX1_firstUnfit_b8 a1 post R8 x2 x3 x4 M → R8 x2 x3 x4 M := by
    intro x2 x3 x4 M h
    refine (e8 _ _ _ _).mpr (fun H locs ls hW hl => ?_)
    refine lv_iload S.1 S.2.1 dX1_firstUnfit_8 (lv_at hl 4 rfl) ?_
    refine lv_bipush (v := 17) S.1 S.2.1 dX1_firstUnfit_10 rfl ?_
    refine lv_icmp_ge (tgt := 64) S.1 S.2.1 dX1_firstUnfit_12 (by decide) (fun c1 => ?_) (fun c1 => ?_)
    · have h := h.1 c1
      refine lv_iload_n S.1 S.2.1 dX1_firstUnfit_64 rfl (lv_at hl 2 rfl) ?_
      refine lv_bipush (v := 24) S.1 S.2.1 dX1_firstUnfit_65 rfl ?_
      refine lv_icmp_ne (tgt := 75) S.1 S.2.1 dX1_firstUnfit_67 (by decide) (fun c2 => ?_) (fun c2 => ?_)
      · have h := h.1 c2
        refine lv_bipush (v := 100) S.1 S.2.1 dX1_firstUnfit_75 rfl ?_
        refine lv_iload_n S.1 S.2.1 dX1_firstUnfit_77 rfl (lv_at hl 2 rfl) ?_
        refine lv_imul S.1 S.2.1 dX1_firstUnfit_78 ?_
        refine lv_iload_n S.1 S.2.1 dX1_firstUnfit_79 rfl (lv_at hl 3 rfl) ?_
        refine lv_iadd S.1 S.2.1 dX1_firstUnfit_80 ?_
        exact r_iret S hr hlk hW h dX1_firstUnfit_81
      · have h := h.2 c2
        refine lv_bipush (v := -2) S.1 S.2.1 dX1_firstUnfit_70 rfl ?_
        refine lv_goto (tgt := 81) S.1 S.2.1 dX1_firstUnfit_72 (by decide) ?_
        exact r_iret S hr hlk hW h dX1_firstUnfit_81
    · have h := h.2 c1
      refine lv_iload_n S.1 S.2.1 dX1_firstUnfit_15 rfl (lv_at hl 2 rfl) ?_
      refine lv_if_le (tgt := 64) S.1 S.2.1 dX1_firstUnfit_16 (by decide) (fun c3 => ?_) (fun c3 => ?_)
      · have h := h.1 c3
        refine lv_iload_n S.1 S.2.1 dX1_firstUnfit_64 rfl (lv_at hl 2 rfl) ?_
        refine lv_bipush (v := 24) S.1 S.2.1 dX1_firstUnfit_65 rfl ?_
        refine lv_icmp_ne (tgt := 75) S.1 S.2.1 dX1_firstUnfit_67 (by decide) (fun c4 => ?_) (fun c4 => ?_)
        · have h := h.1 c4
          refine lv_bipush (v := 100) S.1 S.2.1 dX1_firstUnfit_75 rfl ?_
          refine lv_iload_n S.1 S.2.1 dX1_firstUnfit_77 rfl (lv_at hl 2 rfl) ?_
          refine lv_imul S.1 S.2.1 dX1_firstUnfit_78 ?_
          refine lv_iload_n S.1 S.2.1 dX1_firstUnfit_79 rfl (lv_at hl 3 rfl) ?_
          refine lv_iadd S.1 S.2.1 dX1_firstUnfit_80 ?_
          exact r_iret S hr hlk hW h dX1_firstUnfit_81
        · have h := h.2 c4
          refine lv_bipush (v := -2) S.1 S.2.1 dX1_firstUnfit_70 rfl ?_
          refine lv_goto (tgt := 81) S.1 S.2.1 dX1_firstUnfit_72 (by decide) ?_
          exact r_iret S hr hlk hW h dX1_firstUnfit_81
      · have h := h.2 c3
        refine lv_aload_n S.1 S.2.1 dX1_firstUnfit_19 rfl (lv_at hl 0 rfl) ?_
        refine lv_iload S.1 S.2.1 dX1_firstUnfit_20 (lv_at hl 4 rfl) ?_
        refine lv_iload_n S.1 S.2.1 dX1_firstUnfit_22 rfl (lv_at hl 1 rfl) ?_
        refine r_goI (r_runV (rest := []) S hW (mX1_isLookedAt l D T σ M x4 a1 _ h) w84 rfl LH_11 rfl hl.1 rfl (Nat.le_of_ble_eq_true rfl) dX1_firstUnfit_23 ⟨Nat.zero_le _, Nat.zero_le _⟩) hW (fun r5 M6 H locs h hW => ?_)
        refine lv_if_eq (tgt := 58) S.1 S.2.1 dX1_firstUnfit_26 (by decide) (fun c7 => ?_) (fun c7 => ?_)
        · have h := h.1 c7
          obtain ⟨v8, ev8⟩ : ∃ y : Int32, y = x4 + 1 := ⟨_, rfl⟩
          have h := h v8 ev8
          refine lv_iinc (v := v8) (lv' := [(4, .int v8), (0, .ref (σ 11)), (1, .int a1), (2, .int x2), (3, .int x3)]) S.1 S.2.1 dX1_firstUnfit_58 hl (k := 4) rfl (by rw [ev8]; rfl) (by decide) rfl (fun ls hl => ?_)
          refine lv_goto (tgt := 8) S.1 S.2.1 dX1_firstUnfit_61 (by decide) ?_
          exact (e8 _ _ _ _).mp h H locs ls hW (lv_sub hl [1, 2, 3, 4, 0] rfl)
        · have h := h.2 c7
          refine lv_aload_n S.1 S.2.1 dX1_firstUnfit_29 rfl (lv_at hl 0 rfl) ?_
          refine lv_aload_n S.1 S.2.1 dX1_firstUnfit_30 rfl (lv_at hl 0 rfl) ?_
          refine lv_iload S.1 S.2.1 dX1_firstUnfit_31 (lv_at hl 4 rfl) ?_
          refine r_goI (r_runV (rest := [.ref (σ 11)]) S hW (mX1_standing l D T σ M6 x4 _ h) w87 rfl LH_11 rfl hl.1 rfl (Nat.le_of_ble_eq_true rfl) dX1_firstUnfit_33 ⟨Nat.zero_le _, Nat.zero_le _⟩) hW (fun r9 M10 H locs h hW => ?_)
          refine lv_iload_n S.1 S.2.1 dX1_firstUnfit_36 rfl (lv_at hl 2 rfl) ?_
          refine r_goI (r_runV (rest := []) S hW (mX1_firstUnfitHour l D T σ M10 r9 x2 _ h) w90 rfl LH_11 rfl hl.1 rfl (Nat.le_of_ble_eq_true rfl) dX1_firstUnfit_37 ⟨Nat.zero_le _, Nat.zero_le _⟩) hW (fun r11 M12 H locs h hW => ?_)
          refine lv_istore (lv' := [(5, .int r11), (0, .ref (σ 11)), (1, .int a1), (2, .int x2), (3, .int x3), (4, .int x4)]) S.1 S.2.1 dX1_firstUnfit_40 hl (by decide) rfl (fun ls hl => ?_)
          refine lv_iload S.1 S.2.1 dX1_firstUnfit_42 (lv_at hl 0 rfl) ?_
          refine lv_iload_n S.1 S.2.1 dX1_firstUnfit_44 rfl (lv_at hl 3 rfl) ?_
          refine lv_icmp_ge (tgt := 53) S.1 S.2.1 dX1_firstUnfit_45 (by decide) (fun c13 => ?_) (fun c13 => ?_)
          · have h := h.1 c13
            refine lv_iload_n S.1 S.2.1 dX1_firstUnfit_53 rfl (lv_at hl 4 rfl) ?_
            refine lv_istore_n (lv' := [(3, .int x3), (5, .int r11), (0, .ref (σ 11)), (1, .int a1), (2, .int x2), (4, .int x4)]) S.1 S.2.1 dX1_firstUnfit_54 rfl hl (by decide) rfl (fun ls hl => ?_)
            refine lv_iload S.1 S.2.1 dX1_firstUnfit_55 (lv_at hl 1 rfl) ?_
            refine lv_istore_n (lv' := [(2, .int r11), (3, .int x3), (5, .int r11), (0, .ref (σ 11)), (1, .int a1), (4, .int x4)]) S.1 S.2.1 dX1_firstUnfit_57 rfl hl (by decide) rfl (fun ls hl => ?_)
            obtain ⟨v14, ev14⟩ : ∃ y : Int32, y = x4 + 1 := ⟨_, rfl⟩
            have h := h v14 ev14
            refine lv_iinc (v := v14) (lv' := [(4, .int v14), (2, .int r11), (3, .int x3), (5, .int r11), (0, .ref (σ 11)), (1, .int a1)]) S.1 S.2.1 dX1_firstUnfit_58 hl (k := 5) rfl (by rw [ev14]; rfl) (by decide) rfl (fun ls hl => ?_)
            refine lv_goto (tgt := 8) S.1 S.2.1 dX1_firstUnfit_61 (by decide) ?_
            exact (e8 _ _ _ _).mp h H locs ls hW (lv_sub hl [4, 5, 1, 2, 0] rfl)
          · have h := h.2 c13
            refine lv_iload S.1 S.2.1 dX1_firstUnfit_48 (lv_at hl 5 rfl) ?_
            refine lv_goto (tgt := 54) S.1 S.2.1 dX1_firstUnfit_50 (by decide) ?_
            refine lv_istore_n (lv' := [(3, .int x4), (5, .int r11), (0, .ref (σ 11)), (1, .int a1), (2, .int x2), (4, .int x4)]) S.1 S.2.1 dX1_firstUnfit_54 rfl hl (by decide) rfl (fun ls hl => ?_)
            refine lv_iload S.1 S.2.1 dX1_firstUnfit_55 (lv_at hl 1 rfl) ?_
            refine lv_istore_n (lv' := [(2, .int r11), (3, .int x4), (5, .int r11), (0, .ref (σ 11)), (1, .int a1), (4, .int x4)]) S.1 S.2.1 dX1_firstUnfit_57 rfl hl (by decide) rfl (fun ls hl => ?_)
            obtain ⟨v15, ev15⟩ : ∃ y : Int32, y = x4 + 1 := ⟨_, rfl⟩
            have h := h v15 ev15
            refine lv_iinc (v := v15) (lv' := [(4, .int v15), (2, .int r11), (3, .int x4), (5, .int r11), (0, .ref (σ 11)), (1, .int a1)]) S.1 S.2.1 dX1_firstUnfit_58 hl (k := 5) rfl (by rw [ev15]; rfl) (by decide) rfl (fun ls hl => ?_)
            refine lv_goto (tgt := 8) S.1 S.2.1 dX1_firstUnfit_61 (by decide) ?_
            exact (e8 _ _ _ _).mp h H locs ls hW (lv_sub hl [4, 5, 1, 2, 0] rfl)
  have h := h z8
  refine lv_bipush (v := 24) S.1 S.2.1 dX1_firstUnfit_0 rfl ?_
  refine lv_istore_n (lv' := [(2, .int (24 : Int32)), (0, .ref (σ 11)), (1, .int a1)]) S.1 S.2.1 dX1_firstUnfit_2 rfl hl (by decide) rfl (fun ls hl => ?_)
  refine lv_iconst (v := 0) S.1 S.2.1 dX1_firstUnfit_3 rfl ?_
  refine lv_istore_n (lv' := [(3, .int (0 : Int32)), (2, .int (24 : Int32)), (0, .ref (σ 11)), (1, .int a1)]) S.1 S.2.1 dX1_firstUnfit_4 rfl hl (by decide) rfl (fun ls hl => ?_)
  refine lv_iconst (v := 0) S.1 S.2.1 dX1_firstUnfit_5 rfl ?_
  refine lv_istore (lv' := [(4, .int (0 : Int32)), (3, .int (0 : Int32)), (2, .int (24 : Int32)), (0, .ref (σ 11)), (1, .int a1)]) S.1 S.2.1 dX1_firstUnfit_6 hl (by decide) rfl (fun ls hl => ?_)
  exact (e8 _ _ _ _).mp h H locs ls hW (lv_sub hl [3, 4, 2, 1, 0] rfl)
abbrev rmX3_addBatch : Room := { frames := 1, cells := 0, slots := 0, locals := 20 }
set_option maxHeartbeats 4000000 in
set_option maxRecDepth 100000 in
theorem mX3_addBatch (l : Launch) (D : va_G) (T : Nat → ClassId) (σ : Nat → Nat) (M : Mem) (a1 : Int32) (a2 : Int32) (a3 : Int32) (a4 : Int32) (post : Int32 → Mem → Prop) (h : qX3_addBatch a1 a2 a3 a4 M post) : Met l yX3_addBatch wsX3_addBatch rmX3_addBatch (preW D T LH σ [.ref (σ 21), .int a1, .int a2, .int a3, .int a4] M) (postI D T LH σ post) 0 0 (fA LH σ) := by
  refine m_of (cc := cX3_addBatch) (maxL := 6) (ret := (some .int)) (own := RX3) (by decide) rfl rfl (Nat.le_of_ble_eq_true rfl) ?_
  intro p e s m args below meth c H ls locs S hr hlk hl hW
  have hl : lv_has ls 6 [(0, .ref (σ 21)), (1, .int a1), (2, .int a2), (3, .int a3), (4, .int a4)] := hl
  have inX3 : ∀ w ∈ u_ws RX3 TX3 9, w ∈ wsX3_addBatch := by decide +kernel
  have f42 := S.2.2.2.2 (.fieldLink RX3 42 "MachineHall$Plan" "batches" "I") (by decide +kernel)
  have f16 := S.2.2.2.2 (.fieldLink RX3 16 "MachineHall$Plan" "works" "[I") (by decide +kernel)
  have f20 := S.2.2.2.2 (.fieldLink RX3 20 "MachineHall$Plan" "froms" "[I") (by decide +kernel)
  have f23 := S.2.2.2.2 (.fieldLink RX3 23 "MachineHall$Plan" "dues" "[I") (by decide +kernel)
  have f26 := S.2.2.2.2 (.fieldLink RX3 26 "MachineHall$Plan" "mosts" "[I") (by decide +kernel)
  have w49 := cwV (R := rmX3_addBatch) (rm := rmX3_forget) (mc := 0) (ms := 0) 0 S.2.2.2.2 gX3_addBatch_X3_forget rfl rfl rfl (by decide +kernel) ⟨Nat.le_of_ble_eq_true rfl, Nat.le_of_ble_eq_true rfl⟩
  refine lv_aload_n S.1 S.2.1 dX3_addBatch_0 rfl (lv_at hl 0 rfl) ?_
  refine lv_dup S.1 S.2.1 dX3_addBatch_1 rfl ?_
  refine r_getI (j := 0) S hW inX3 rfl f42 rfl LH_21 (by decide) rfl dX3_addBatch_2 ?_
  refine lv_dup_x1 S.1 S.2.1 dX3_addBatch_5 rfl rfl ?_
  refine lv_iconst (v := 1) S.1 S.2.1 dX3_addBatch_6 rfl ?_
  refine lv_iadd S.1 S.2.1 dX3_addBatch_7 ?_
  refine r_putI (j := 0) S hW inX3 rfl f42 rfl LH_21 (by decide) rfl tyX3 tyX3_ok nmX3 rfl rfl rfl dX3_addBatch_8 (fun M1 H locs eM1 hW => ?_)
  have h := h M1 eM1
  refine lv_topi (fun v2 ev2 => ?_)
  have h := h v2 ev2
  refine lv_istore (lv' := [(5, .int v2), (0, .ref (σ 21)), (1, .int a1), (2, .int a2), (3, .int a3), (4, .int a4)]) S.1 S.2.1 dX3_addBatch_11 hl (by decide) rfl (fun ls hl => ?_)
  refine lv_aload_n S.1 S.2.1 dX3_addBatch_13 rfl (lv_at hl 1 rfl) ?_
  refine r_getR (j := 3) S hW inX3 rfl f16 rfl LH_21 (by decide) rfl dX3_addBatch_14 ?_
  refine lv_iload S.1 S.2.1 dX3_addBatch_17 (lv_at hl 0 rfl) ?_
  refine lv_iload_n S.1 S.2.1 dX3_addBatch_19 rfl (lv_at hl 2 rfl) ?_
  have b3 := h.1
  have h := h.2
  refine r_iast S hW LH_31 b3 dX3_addBatch_20 (fun M4 H locs eM4 hW => ?_)
  have h := h M4 eM4
  refine lv_aload_n S.1 S.2.1 dX3_addBatch_21 rfl (lv_at hl 1 rfl) ?_
  refine r_getR (j := 4) S hW inX3 rfl f20 rfl LH_21 (by decide) rfl dX3_addBatch_22 ?_
  refine lv_iload S.1 S.2.1 dX3_addBatch_25 (lv_at hl 0 rfl) ?_
  refine lv_iload_n S.1 S.2.1 dX3_addBatch_27 rfl (lv_at hl 3 rfl) ?_
  have b5 := h.1
  have h := h.2
  refine r_iast S hW LH_32 b5 dX3_addBatch_28 (fun M6 H locs eM6 hW => ?_)
  have h := h M6 eM6
  refine lv_aload_n S.1 S.2.1 dX3_addBatch_29 rfl (lv_at hl 1 rfl) ?_
  refine r_getR (j := 5) S hW inX3 rfl f23 rfl LH_21 (by decide) rfl dX3_addBatch_30 ?_
  refine lv_iload S.1 S.2.1 dX3_addBatch_33 (lv_at hl 0 rfl) ?_
  refine lv_iload_n S.1 S.2.1 dX3_addBatch_35 rfl (lv_at hl 4 rfl) ?_
  have b7 := h.1
  have h := h.2
  refine r_iast S hW LH_33 b7 dX3_addBatch_36 (fun M8 H locs eM8 hW => ?_)
  have h := h M8 eM8
  refine lv_aload_n S.1 S.2.1 dX3_addBatch_37 rfl (lv_at hl 1 rfl) ?_
  refine r_getR (j := 6) S hW inX3 rfl f26 rfl LH_21 (by decide) rfl dX3_addBatch_38 ?_
  refine lv_iload S.1 S.2.1 dX3_addBatch_41 (lv_at hl 0 rfl) ?_
  refine lv_iload S.1 S.2.1 dX3_addBatch_43 (lv_at hl 5 rfl) ?_
  have b9 := h.1
  have h := h.2
  refine r_iast S hW LH_34 b9 dX3_addBatch_45 (fun M10 H locs eM10 hW => ?_)
  have h := h M10 eM10
  refine lv_aload_n S.1 S.2.1 dX3_addBatch_46 rfl (lv_at hl 1 rfl) ?_
  refine r_goV (r_runV (rest := []) S hW (mX3_forget l D T σ M10 _ h) w49 rfl LH_21 rfl hl.1 rfl (Nat.le_of_ble_eq_true rfl) dX3_addBatch_47 ⟨Nat.zero_le _, Nat.zero_le _⟩) hW (fun M12 H locs h hW => ?_)
  refine lv_iload S.1 S.2.1 dX3_addBatch_50 (lv_at hl 0 rfl) ?_
  exact r_iret S hr hlk hW h dX3_addBatch_52
abbrev rmX0_empty : Room := { frames := 1, cells := 0, slots := 0, locals := 23 }
set_option maxHeartbeats 4000000 in
set_option maxRecDepth 100000 in
theorem mX0_empty (l : Launch) (D : va_G) (T : Nat → ClassId) (σ : Nat → Nat) (M : Mem)  (post : Mem → Prop) (h : qX0_empty M post) : Met l yX0_empty wsX0_empty rmX0_empty (preW D T LH σ [.ref (σ 35)] M) (postV D T LH σ post) 0 0 (fA LH σ) := by
  refine m_of (cc := cX0_empty) (maxL := 2) (ret := none) (own := RX0) (by decide) rfl rfl (Nat.le_of_ble_eq_true rfl) ?_
  intro p e s m args below meth c H ls locs S hr hlk hl hW
  have hl : lv_has ls 2 [(0, .ref (σ 35))] := hl
  have inX0 : ∀ w ∈ u_ws RX0 TX0 4, w ∈ wsX0_empty := by decide +kernel
  have f9 := S.2.2.2.2 (.fieldLink RX0 9 "MachineHall$Flow" "nodes" "I") (by decide +kernel)
  have f17 := S.2.2.2.2 (.fieldLink RX0 17 "MachineHall$Flow" "open" "[[I") (by decide +kernel)
  have w27 := va_cwS (R := rmX0_empty) (rm := rmJ7_fill_53178) (mc := 0) (ms := 0) 2 S.2.2.2.2 gX0_empty_J7_fill_53178 rfl rfl rfl (by decide +kernel) ⟨Nat.le_of_ble_eq_true rfl, Nat.le_of_ble_eq_true rfl⟩
  obtain ⟨R2, e2⟩ : ∃ R : Int32 → Mem → Prop, ∀ x1 M, R x1 M ↔ WW p l e rmX0_empty s m args below meth c D T LH σ 2 (MQ below (postV D T LH σ post) args s 0 0 (fA LH σ)) 2 [(0, .ref (σ 35)), (1, .int x1)] [] M := ⟨_, fun _ _ => Iff.rfl⟩
  have h := h R2
  have z2 : ∀ x1 M, qX0_empty_b2 post R2 x1 M → R2 x1 M := by
    intro x1 M h
    refine (e2 _ _).mpr (fun H locs ls hW hl => ?_)
    refine lv_iload_n S.1 S.2.1 dX0_empty_2 rfl (lv_at hl 1 rfl) ?_
    refine lv_aload_n S.1 S.2.1 dX0_empty_3 rfl (lv_at hl 0 rfl) ?_
    refine r_getI (j := 0) S hW inX0 rfl f9 rfl LH_35 (by decide) rfl dX0_empty_4 ?_
    refine lv_icmp_ge (tgt := 26) S.1 S.2.1 dX0_empty_7 (by decide) (fun c1 => ?_) (fun c1 => ?_)
    · have h := h.1 c1
      exact r_vret S hr hlk hW h dX0_empty_26
    · have h := h.2 c1
      refine lv_aload_n S.1 S.2.1 dX0_empty_10 rfl (lv_at hl 0 rfl) ?_
      refine r_getR (j := 1) S hW inX0 rfl f17 rfl LH_35 (by decide) rfl dX0_empty_11 ?_
      refine lv_iload_n S.1 S.2.1 dX0_empty_14 rfl (lv_at hl 1 rfl) ?_
      have b2 := h.1
      have h := h.2
      refine r_aald (t := 0) S hW LH_36 (by decide) b2 dX0_empty_15 ?_
      refine lv_iconst (v := 0) S.1 S.2.1 dX0_empty_16 rfl ?_
      refine r_goV (r_runS (rest := []) S hW (mJ7_fill_53178 l D T LH σ (37 + x1.toNatClampNeg) (LHr_36 (vp_lt b2))  M (0 : Int32) _ h) w27 rfl hl.1 rfl (Nat.le_of_ble_eq_true rfl) dX0_empty_17 ⟨Nat.zero_le _, Nat.zero_le _⟩) hW (fun M4 H locs h hW => ?_)
      obtain ⟨v5, ev5⟩ : ∃ y : Int32, y = x1 + 1 := ⟨_, rfl⟩
      have h := h v5 ev5
      refine lv_iinc (v := v5) (lv' := [(1, .int v5), (0, .ref (σ 35))]) S.1 S.2.1 dX0_empty_20 hl (k := 1) rfl (by rw [ev5]; rfl) (by decide) rfl (fun ls hl => ?_)
      refine lv_goto (tgt := 2) S.1 S.2.1 dX0_empty_23 (by decide) ?_
      exact (e2 _ _).mp h H locs ls hW (lv_sub hl [1, 0] rfl)
  have h := h z2
  refine lv_iconst (v := 0) S.1 S.2.1 dX0_empty_0 rfl ?_
  refine lv_istore_n (lv' := [(1, .int (0 : Int32)), (0, .ref (σ 35))]) S.1 S.2.1 dX0_empty_1 rfl hl (by decide) rfl (fun ls hl => ?_)
  exact (e2 _ _).mp h H locs ls hW (lv_sub hl [1, 0] rfl)
abbrev rmX0_pipe : Room := { frames := 0, cells := 0, slots := 0, locals := 0 }
set_option maxHeartbeats 4000000 in
set_option maxRecDepth 100000 in
theorem mX0_pipe (l : Launch) (D : va_G) (T : Nat → ClassId) (σ : Nat → Nat) (M : Mem) (a1 : Int32) (a2 : Int32) (a3 : Int32) (post : Mem → Prop) (h : qX0_pipe a1 a2 a3 M post) : Met l yX0_pipe wsX0_pipe rmX0_pipe (preW D T LH σ [.ref (σ 35), .int a1, .int a2, .int a3] M) (postV D T LH σ post) 0 0 (fA LH σ) := by
  refine m_of (cc := cX0_pipe) (maxL := 4) (ret := none) (own := RX0) (by decide) rfl rfl (Nat.le_of_ble_eq_true rfl) ?_
  intro p e s m args below meth c H ls locs S hr hlk hl hW
  have hl : lv_has ls 4 [(0, .ref (σ 35)), (1, .int a1), (2, .int a2), (3, .int a3)] := hl
  have inX0 : ∀ w ∈ u_ws RX0 TX0 4, w ∈ wsX0_pipe := by decide +kernel
  have f17 := S.2.2.2.2 (.fieldLink RX0 17 "MachineHall$Flow" "open" "[[I") (by decide +kernel)
  refine lv_aload_n S.1 S.2.1 dX0_pipe_0 rfl (lv_at hl 0 rfl) ?_
  refine r_getR (j := 1) S hW inX0 rfl f17 rfl LH_35 (by decide) rfl dX0_pipe_1 ?_
  refine lv_iload_n S.1 S.2.1 dX0_pipe_4 rfl (lv_at hl 1 rfl) ?_
  have b1 := h.1
  have h := h.2
  refine r_aald (t := 0) S hW LH_36 (by decide) b1 dX0_pipe_5 ?_
  refine lv_iload_n S.1 S.2.1 dX0_pipe_6 rfl (lv_at hl 2 rfl) ?_
  refine lv_iload_n S.1 S.2.1 dX0_pipe_7 rfl (lv_at hl 3 rfl) ?_
  have b2 := h.1
  have h := h.2
  refine r_iast S hW (LHr_36 (vp_lt b1)) b2 dX0_pipe_8 (fun M3 H locs eM3 hW => ?_)
  have h := h M3 eM3
  exact r_vret S hr hlk hW h dX0_pipe_9
abbrev rmX3_layPipes : Room := { frames := 4, cells := 0, slots := 0, locals := 92 }
set_option maxHeartbeats 4000000 in
set_option maxRecDepth 100000 in
theorem mX3_layPipes (l : Launch) (D : va_G) (T : Nat → ClassId) (σ : Nat → Nat) (M : Mem) (a2 : Int32) (post : Int32 → Mem → Prop) (h : qX3_layPipes a2 M post) : Met l yX3_layPipes wsX3_layPipes rmX3_layPipes (preW D T LH σ [.ref (σ 21), .ref (σ 11), .int a2] M) (postI D T LH σ post) 0 0 (fA LH σ) := by
  refine m_of (cc := cX3_layPipes) (maxL := 6) (ret := (some .int)) (own := RX3) (by decide) rfl rfl (Nat.le_of_ble_eq_true rfl) ?_
  intro p e s m args below meth c H ls locs S hr hlk hl hW
  have hl : lv_has ls 6 [(0, .ref (σ 21)), (1, .ref (σ 11)), (2, .int a2)] := hl
  have inX3 : ∀ w ∈ u_ws RX3 TX3 9, w ∈ wsX3_layPipes := by decide +kernel
  have f34 := S.2.2.2.2 (.fieldLink RX3 34 "MachineHall$Plan" "flow" "LMachineHall$Flow;") (by decide +kernel)
  have w66 := cwV (R := rmX3_layPipes) (rm := rmX0_empty) (mc := 0) (ms := 0) 0 S.2.2.2.2 gX3_layPipes_X0_empty rfl rfl rfl (by decide +kernel) ⟨Nat.le_of_ble_eq_true rfl, Nat.le_of_ble_eq_true rfl⟩
  have f42 := S.2.2.2.2 (.fieldLink RX3 42 "MachineHall$Plan" "batches" "I") (by decide +kernel)
  have f16 := S.2.2.2.2 (.fieldLink RX3 16 "MachineHall$Plan" "works" "[I") (by decide +kernel)
  have w69 := cwV (R := rmX3_layPipes) (rm := rmX0_pipe) (mc := 0) (ms := 0) 3 S.2.2.2.2 gX3_layPipes_X0_pipe rfl rfl rfl (by decide +kernel) ⟨Nat.le_of_ble_eq_true rfl, Nat.le_of_ble_eq_true rfl⟩
  have f20 := S.2.2.2.2 (.fieldLink RX3 20 "MachineHall$Plan" "froms" "[I") (by decide +kernel)
  have f23 := S.2.2.2.2 (.fieldLink RX3 23 "MachineHall$Plan" "dues" "[I") (by decide +kernel)
  have f26 := S.2.2.2.2 (.fieldLink RX3 26 "MachineHall$Plan" "mosts" "[I") (by decide +kernel)
  have w73 := cwV (R := rmX3_layPipes) (rm := rmX1_leftOver) (mc := 0) (ms := 0) 2 S.2.2.2.2 gX3_layPipes_X1_leftOver rfl rfl rfl (by decide +kernel) ⟨Nat.le_of_ble_eq_true rfl, Nat.le_of_ble_eq_true rfl⟩
  obtain ⟨R12, e12⟩ : ∃ R : Int32 → Int32 → Mem → Prop, ∀ x3 x4 M, R x3 x4 M ↔ WW p l e rmX3_layPipes s m args below meth c D T LH σ 6 (MQ below (postI D T LH σ post) args s 0 0 (fA LH σ)) 12 [(0, .ref (σ 21)), (1, .ref (σ 11)), (2, .int a2), (3, .int x3), (4, .int x4)] [] M := ⟨_, fun _ _ _ => Iff.rfl⟩
  obtain ⟨R58, e58⟩ : ∃ R : Int32 → Int32 → Int32 → Mem → Prop, ∀ x3 x4 x5 M, R x3 x4 x5 M ↔ WW p l e rmX3_layPipes s m args below meth c D T LH σ 6 (MQ below (postI D T LH σ post) args s 0 0 (fA LH σ)) 58 [(0, .ref (σ 21)), (1, .ref (σ 11)), (2, .int a2), (3, .int x3), (4, .int x4), (5, .int x5)] [] M := ⟨_, fun _ _ _ _ => Iff.rfl⟩
  obtain ⟨R106, e106⟩ : ∃ R : Int32 → Int32 → Mem → Prop, ∀ x3 x4 M, R x3 x4 M ↔ WW p l e rmX3_layPipes s m args below meth c D T LH σ 6 (MQ below (postI D T LH σ post) args s 0 0 (fA LH σ)) 106 [(0, .ref (σ 21)), (1, .ref (σ 11)), (2, .int a2), (3, .int x3), (4, .int x4)] [] M := ⟨_, fun _ _ _ => Iff.rfl⟩
  have h := h R12 R58 R106
  have z12 : ∀ x3 x4 M, qX3_layPipes_b12 a2 post R12 R58 R106 x3 x4 M → R12 x3 x4 M := by
    intro x3 x4 M h
    refine (e12 _ _ _).mpr (fun H locs ls hW hl => ?_)
    refine lv_iload S.1 S.2.1 dX3_layPipes_12 (lv_at hl 4 rfl) ?_
    refine lv_aload_n S.1 S.2.1 dX3_layPipes_14 rfl (lv_at hl 0 rfl) ?_
    refine r_getI (j := 0) S hW inX3 rfl f42 rfl LH_21 (by decide) rfl dX3_layPipes_15 ?_
    refine lv_icmp_ge (tgt := 103) S.1 S.2.1 dX3_layPipes_18 (by decide) (fun c3 => ?_) (fun c3 => ?_)
    · have h := h.1 c3
      refine lv_iconst (v := 0) S.1 S.2.1 dX3_layPipes_103 rfl ?_
      refine lv_istore (lv' := [(4, .int (0 : Int32)), (0, .ref (σ 21)), (1, .ref (σ 11)), (2, .int a2), (3, .int x3)]) S.1 S.2.1 dX3_layPipes_104 hl (by decide) rfl (fun ls hl => ?_)
      exact (e106 _ _ _).mp h H locs ls hW (lv_sub hl [1, 2, 3, 4, 0] rfl)
    · have h := h.2 c3
      refine lv_iload_n S.1 S.2.1 dX3_layPipes_21 rfl (lv_at hl 3 rfl) ?_
      refine lv_aload_n S.1 S.2.1 dX3_layPipes_22 rfl (lv_at hl 0 rfl) ?_
      refine r_getR (j := 3) S hW inX3 rfl f16 rfl LH_21 (by decide) rfl dX3_layPipes_23 ?_
      refine lv_iload S.1 S.2.1 dX3_layPipes_26 (lv_at hl 4 rfl) ?_
      have b4 := h.1
      have h := h.2
      refine r_iald S hW LH_31 b4 dX3_layPipes_28 ?_
      refine lv_iadd S.1 S.2.1 dX3_layPipes_29 ?_
      refine lv_topi (fun v5 ev5 => ?_)
      have h := h v5 ev5
      refine lv_istore_n (lv' := [(3, .int v5), (0, .ref (σ 21)), (1, .ref (σ 11)), (2, .int a2), (4, .int x4)]) S.1 S.2.1 dX3_layPipes_30 rfl hl (by decide) rfl (fun ls hl => ?_)
      refine lv_aload_n S.1 S.2.1 dX3_layPipes_31 rfl (lv_at hl 1 rfl) ?_
      refine r_getR (j := 7) S hW inX3 rfl f34 rfl LH_21 (by decide) rfl dX3_layPipes_32 ?_
      refine lv_bipush (v := 32) S.1 S.2.1 dX3_layPipes_35 rfl ?_
      refine lv_iload S.1 S.2.1 dX3_layPipes_37 (lv_at hl 4 rfl) ?_
      refine lv_aload_n S.1 S.2.1 dX3_layPipes_39 rfl (lv_at hl 1 rfl) ?_
      refine r_getR (j := 3) S hW inX3 rfl f16 rfl LH_21 (by decide) rfl dX3_layPipes_40 ?_
      refine lv_iload S.1 S.2.1 dX3_layPipes_43 (lv_at hl 4 rfl) ?_
      have b6 := h.1
      have h := h.2
      refine r_iald S hW LH_31 b6 dX3_layPipes_45 ?_
      refine r_goV (r_runV (rest := []) S hW (mX0_pipe l D T σ M (32 : Int32) x4 (M.1 31 x4.toNatClampNeg) _ h) w69 rfl LH_35 rfl hl.1 rfl (Nat.le_of_ble_eq_true rfl) dX3_layPipes_46 ⟨Nat.zero_le _, Nat.zero_le _⟩) hW (fun M8 H locs h hW => ?_)
      refine lv_aload_n S.1 S.2.1 dX3_layPipes_49 rfl (lv_at hl 1 rfl) ?_
      refine r_getR (j := 4) S hW inX3 rfl f20 rfl LH_21 (by decide) rfl dX3_layPipes_50 ?_
      refine lv_iload S.1 S.2.1 dX3_layPipes_53 (lv_at hl 4 rfl) ?_
      have b9 := h.1
      have h := h.2
      refine r_iald S hW LH_32 b9 dX3_layPipes_55 ?_
      refine lv_topi (fun v10 ev10 => ?_)
      have h := h v10 ev10
      refine lv_istore (lv' := [(5, .int v10), (3, .int v5), (0, .ref (σ 21)), (1, .ref (σ 11)), (2, .int a2), (4, .int x4)]) S.1 S.2.1 dX3_layPipes_56 hl (by decide) rfl (fun ls hl => ?_)
      exact (e58 _ _ _ _).mp h H locs ls hW (lv_sub hl [2, 3, 4, 1, 5, 0] rfl)
  have z58 : ∀ x3 x4 x5 M, qX3_layPipes_b58 a2 post R12 R58 R106 x3 x4 x5 M → R58 x3 x4 x5 M := by
    intro x3 x4 x5 M h
    refine (e58 _ _ _ _).mpr (fun H locs ls hW hl => ?_)
    refine lv_iload S.1 S.2.1 dX3_layPipes_58 (lv_at hl 5 rfl) ?_
    refine lv_aload_n S.1 S.2.1 dX3_layPipes_60 rfl (lv_at hl 0 rfl) ?_
    refine r_getR (j := 5) S hW inX3 rfl f23 rfl LH_21 (by decide) rfl dX3_layPipes_61 ?_
    refine lv_iload S.1 S.2.1 dX3_layPipes_64 (lv_at hl 4 rfl) ?_
    have b11 := h.1
    have h := h.2
    refine r_iald S hW LH_33 b11 dX3_layPipes_66 ?_
    refine lv_icmp_ge (tgt := 97) S.1 S.2.1 dX3_layPipes_67 (by decide) (fun c12 => ?_) (fun c12 => ?_)
    · have h := h.1 c12
      obtain ⟨v13, ev13⟩ : ∃ y : Int32, y = x4 + 1 := ⟨_, rfl⟩
      have h := h v13 ev13
      refine lv_iinc (v := v13) (lv' := [(4, .int v13), (0, .ref (σ 21)), (1, .ref (σ 11)), (2, .int a2), (3, .int x3), (5, .int x5)]) S.1 S.2.1 dX3_layPipes_97 hl (k := 4) rfl (by rw [ev13]; rfl) (by decide) rfl (fun ls hl => ?_)
      refine lv_goto (tgt := 12) S.1 S.2.1 dX3_layPipes_100 (by decide) ?_
      exact (e12 _ _ _).mp h H locs ls hW (lv_sub hl [1, 2, 3, 4, 0] rfl)
    · have h := h.2 c12
      refine lv_aload_n S.1 S.2.1 dX3_layPipes_70 rfl (lv_at hl 0 rfl) ?_
      refine r_getR (j := 7) S hW inX3 rfl f34 rfl LH_21 (by decide) rfl dX3_layPipes_71 ?_
      refine lv_iload S.1 S.2.1 dX3_layPipes_74 (lv_at hl 4 rfl) ?_
      refine lv_bipush (v := 8) S.1 S.2.1 dX3_layPipes_76 rfl ?_
      refine lv_iload S.1 S.2.1 dX3_layPipes_78 (lv_at hl 5 rfl) ?_
      refine lv_iadd S.1 S.2.1 dX3_layPipes_80 ?_
      refine lv_aload_n S.1 S.2.1 dX3_layPipes_81 rfl (lv_at hl 0 rfl) ?_
      refine r_getR (j := 6) S hW inX3 rfl f26 rfl LH_21 (by decide) rfl dX3_layPipes_82 ?_
      refine lv_iload S.1 S.2.1 dX3_layPipes_85 (lv_at hl 4 rfl) ?_
      have b14 := h.1
      have h := h.2
      refine r_iald S hW LH_34 b14 dX3_layPipes_87 ?_
      refine r_goV (r_runV (rest := []) S hW (mX0_pipe l D T σ M x4 ((8 : Int32) + x5) (M.1 34 x4.toNatClampNeg) _ h) w69 rfl LH_35 rfl hl.1 rfl (Nat.le_of_ble_eq_true rfl) dX3_layPipes_88 ⟨Nat.zero_le _, Nat.zero_le _⟩) hW (fun M16 H locs h hW => ?_)
      obtain ⟨v17, ev17⟩ : ∃ y : Int32, y = x5 + 1 := ⟨_, rfl⟩
      have h := h v17 ev17
      refine lv_iinc (v := v17) (lv' := [(5, .int v17), (0, .ref (σ 21)), (1, .ref (σ 11)), (2, .int a2), (3, .int x3), (4, .int x4)]) S.1 S.2.1 dX3_layPipes_91 hl (k := 5) rfl (by rw [ev17]; rfl) (by decide) rfl (fun ls hl => ?_)
      refine lv_goto (tgt := 58) S.1 S.2.1 dX3_layPipes_94 (by decide) ?_
      exact (e58 _ _ _ _).mp h H locs ls hW (lv_sub hl [1, 2, 3, 4, 5, 0] rfl)
  have z106 : ∀ x3 x4 M, qX3_layPipes_b106 a2 post R12 R58 R106 x3 x4 M → R106 x3 x4 M := by
    intro x3 x4 M h
    refine (e106 _ _ _).mpr (fun H locs ls hW hl => ?_)
    refine lv_iload S.1 S.2.1 dX3_layPipes_106 (lv_at hl 4 rfl) ?_
    refine lv_bipush (v := 24) S.1 S.2.1 dX3_layPipes_108 rfl ?_
    refine lv_icmp_ge (tgt := 140) S.1 S.2.1 dX3_layPipes_110 (by decide) (fun c18 => ?_) (fun c18 => ?_)
    · have h := h.1 c18
      refine lv_iload_n S.1 S.2.1 dX3_layPipes_140 rfl (lv_at hl 3 rfl) ?_
      exact r_iret S hr hlk hW h dX3_layPipes_141
    · have h := h.2 c18
      refine lv_aload_n S.1 S.2.1 dX3_layPipes_113 rfl (lv_at hl 0 rfl) ?_
      refine r_getR (j := 7) S hW inX3 rfl f34 rfl LH_21 (by decide) rfl dX3_layPipes_114 ?_
      refine lv_bipush (v := 8) S.1 S.2.1 dX3_layPipes_117 rfl ?_
      refine lv_iload S.1 S.2.1 dX3_layPipes_119 (lv_at hl 4 rfl) ?_
      refine lv_iadd S.1 S.2.1 dX3_layPipes_121 ?_
      refine lv_bipush (v := 33) S.1 S.2.1 dX3_layPipes_122 rfl ?_
      refine lv_aload_n S.1 S.2.1 dX3_layPipes_124 rfl (lv_at hl 1 rfl) ?_
      refine lv_iload S.1 S.2.1 dX3_layPipes_125 (lv_at hl 4 rfl) ?_
      refine lv_iload_n S.1 S.2.1 dX3_layPipes_127 rfl (lv_at hl 2 rfl) ?_
      refine r_goI (r_runV (rest := [.int (33 : Int32), .int ((8 : Int32) + x4), .ref (σ 35)]) S hW (mX1_leftOver l D T σ M x4 a2 _ h) w73 rfl LH_11 rfl hl.1 rfl (Nat.le_of_ble_eq_true rfl) dX3_layPipes_128 ⟨Nat.zero_le _, Nat.zero_le _⟩) hW (fun r19 M20 H locs h hW => ?_)
      refine r_goV (r_runV (rest := []) S hW (mX0_pipe l D T σ M20 ((8 : Int32) + x4) (33 : Int32) r19 _ h) w69 rfl LH_35 rfl hl.1 rfl (Nat.le_of_ble_eq_true rfl) dX3_layPipes_131 ⟨Nat.zero_le _, Nat.zero_le _⟩) hW (fun M22 H locs h hW => ?_)
      obtain ⟨v23, ev23⟩ : ∃ y : Int32, y = x4 + 1 := ⟨_, rfl⟩
      have h := h v23 ev23
      refine lv_iinc (v := v23) (lv' := [(4, .int v23), (0, .ref (σ 21)), (1, .ref (σ 11)), (2, .int a2), (3, .int x3)]) S.1 S.2.1 dX3_layPipes_134 hl (k := 4) rfl (by rw [ev23]; rfl) (by decide) rfl (fun ls hl => ?_)
      refine lv_goto (tgt := 106) S.1 S.2.1 dX3_layPipes_137 (by decide) ?_
      exact (e106 _ _ _).mp h H locs ls hW (lv_sub hl [1, 2, 3, 4, 0] rfl)
  have h := h z12 z58 z106
  refine lv_iconst (v := 0) S.1 S.2.1 dX3_layPipes_0 rfl ?_
  refine lv_istore_n (lv' := [(3, .int (0 : Int32)), (0, .ref (σ 21)), (1, .ref (σ 11)), (2, .int a2)]) S.1 S.2.1 dX3_layPipes_1 rfl hl (by decide) rfl (fun ls hl => ?_)
  refine lv_aload_n S.1 S.2.1 dX3_layPipes_2 rfl (lv_at hl 1 rfl) ?_
  refine r_getR (j := 7) S hW inX3 rfl f34 rfl LH_21 (by decide) rfl dX3_layPipes_3 ?_
  refine r_goV (r_runV (rest := []) S hW (mX0_empty l D T σ M _ h) w66 rfl LH_35 rfl hl.1 rfl (Nat.le_of_ble_eq_true rfl) dX3_layPipes_6 ⟨Nat.zero_le _, Nat.zero_le _⟩) hW (fun M2 H locs h hW => ?_)
  refine lv_iconst (v := 0) S.1 S.2.1 dX3_layPipes_9 rfl ?_
  refine lv_istore (lv' := [(4, .int (0 : Int32)), (3, .int (0 : Int32)), (0, .ref (σ 21)), (1, .ref (σ 11)), (2, .int a2)]) S.1 S.2.1 dX3_layPipes_10 hl (by decide) rfl (fun ls hl => ?_)
  exact (e12 _ _ _).mp h H locs ls hW (lv_sub hl [2, 3, 4, 1, 0] rfl)
abbrev rmX0_findWay : Room := { frames := 1, cells := 0, slots := 0, locals := 23 }
set_option maxHeartbeats 4000000 in
set_option maxRecDepth 100000 in
theorem mX0_findWay (l : Launch) (D : va_G) (T : Nat → ClassId) (σ : Nat → Nat) (M : Mem) (a1 : Int32) (a2 : Int32) (post : Int32 → Mem → Prop) (h : qX0_findWay a1 a2 M post) : Met l yX0_findWay wsX0_findWay rmX0_findWay (preW D T LH σ [.ref (σ 35), .int a1, .int a2] M) (postI D T LH σ post) 0 0 (fA LH σ) := by
  refine m_of (cc := cX0_findWay) (maxL := 7) (ret := (some .boolean)) (own := RX0) (by decide) rfl rfl (Nat.le_of_ble_eq_true rfl) ?_
  intro p e s m args below meth c H ls locs S hr hlk hl hW
  have hl : lv_has ls 7 [(0, .ref (σ 35)), (1, .int a1), (2, .int a2)] := hl
  have inX0 : ∀ w ∈ u_ws RX0 TX0 4, w ∈ wsX0_findWay := by decide +kernel
  have f20 := S.2.2.2.2 (.fieldLink RX0 20 "MachineHall$Flow" "cameFrom" "[I") (by decide +kernel)
  have w27 := va_cwS (R := rmX0_findWay) (rm := rmJ7_fill_53178) (mc := 0) (ms := 0) 2 S.2.2.2.2 gX0_findWay_J7_fill_53178 rfl rfl rfl (by decide +kernel) ⟨Nat.le_of_ble_eq_true rfl, Nat.le_of_ble_eq_true rfl⟩
  have f24 := S.2.2.2.2 (.fieldLink RX0 24 "MachineHall$Flow" "reached" "[I") (by decide +kernel)
  have f9 := S.2.2.2.2 (.fieldLink RX0 9 "MachineHall$Flow" "nodes" "I") (by decide +kernel)
  have f17 := S.2.2.2.2 (.fieldLink RX0 17 "MachineHall$Flow" "open" "[[I") (by decide +kernel)
  obtain ⟨R27, e27⟩ : ∃ R : Int32 → Int32 → Mem → Prop, ∀ x3 x4 M, R x3 x4 M ↔ WW p l e rmX0_findWay s m args below meth c D T LH σ 7 (MQ below (postI D T LH σ post) args s 0 0 (fA LH σ)) 27 [(0, .ref (σ 35)), (2, .int a2), (3, .int x3), (4, .int x4)] [] M := ⟨_, fun _ _ _ => Iff.rfl⟩
  obtain ⟨R54, e54⟩ : ∃ R : Int32 → Int32 → Int32 → Int32 → Mem → Prop, ∀ x3 x4 x5 x6 M, R x3 x4 x5 x6 M ↔ WW p l e rmX0_findWay s m args below meth c D T LH σ 7 (MQ below (postI D T LH σ post) args s 0 0 (fA LH σ)) 54 [(0, .ref (σ 35)), (2, .int a2), (3, .int x3), (4, .int x4), (5, .int x5), (6, .int x6)] [] M := ⟨_, fun _ _ _ _ _ => Iff.rfl⟩
  have h := h R27 R54
  have z27 : ∀ x3 x4 M, qX0_findWay_b27 a1 a2 post R27 R54 x3 x4 M → R27 x3 x4 M := by
    intro x3 x4 M h
    refine (e27 _ _ _).mpr (fun H locs ls hW hl => ?_)
    refine lv_iload S.1 S.2.1 dX0_findWay_27 (lv_at hl 3 rfl) ?_
    refine lv_iload_n S.1 S.2.1 dX0_findWay_29 rfl (lv_at hl 2 rfl) ?_
    refine lv_icmp_ge (tgt := 131) S.1 S.2.1 dX0_findWay_30 (by decide) (fun c7 => ?_) (fun c7 => ?_)
    · have h := h.1 c7
      refine lv_iconst (v := 0) S.1 S.2.1 dX0_findWay_131 rfl ?_
      exact r_zret S hr hlk hW rfl h dX0_findWay_132
    · have h := h.2 c7
      refine lv_iload S.1 S.2.1 dX0_findWay_33 (lv_at hl 3 rfl) ?_
      refine lv_aload_n S.1 S.2.1 dX0_findWay_35 rfl (lv_at hl 0 rfl) ?_
      refine r_getI (j := 0) S hW inX0 rfl f9 rfl LH_35 (by decide) rfl dX0_findWay_36 ?_
      refine lv_icmp_ge (tgt := 131) S.1 S.2.1 dX0_findWay_39 (by decide) (fun c8 => ?_) (fun c8 => ?_)
      · have h := h.1 c8
        refine lv_iconst (v := 0) S.1 S.2.1 dX0_findWay_131 rfl ?_
        exact r_zret S hr hlk hW rfl h dX0_findWay_132
      · have h := h.2 c8
        refine lv_aload_n S.1 S.2.1 dX0_findWay_42 rfl (lv_at hl 0 rfl) ?_
        refine r_getR (j := 3) S hW inX0 rfl f24 rfl LH_35 (by decide) rfl dX0_findWay_43 ?_
        refine lv_iload S.1 S.2.1 dX0_findWay_46 (lv_at hl 3 rfl) ?_
        have b9 := h.1
        have h := h.2
        refine r_iald S hW LH_72 b9 dX0_findWay_48 ?_
        refine lv_topi (fun v10 ev10 => ?_)
        have h := h v10 ev10
        refine lv_istore (lv' := [(5, .int v10), (0, .ref (σ 35)), (2, .int a2), (3, .int x3), (4, .int x4)]) S.1 S.2.1 dX0_findWay_49 hl (by decide) rfl (fun ls hl => ?_)
        refine lv_iconst (v := 0) S.1 S.2.1 dX0_findWay_51 rfl ?_
        refine lv_istore (lv' := [(6, .int (0 : Int32)), (5, .int v10), (0, .ref (σ 35)), (2, .int a2), (3, .int x3), (4, .int x4)]) S.1 S.2.1 dX0_findWay_52 hl (by decide) rfl (fun ls hl => ?_)
        exact (e54 _ _ _ _ _).mp h H locs ls hW (lv_sub hl [2, 3, 4, 5, 1, 0] rfl)
  have z54 : ∀ x3 x4 x5 x6 M, qX0_findWay_b54 a1 a2 post R27 R54 x3 x4 x5 x6 M → R54 x3 x4 x5 x6 M := by
    intro x3 x4 x5 x6 M h
    refine (e54 _ _ _ _ _).mpr (fun H locs ls hW hl => ?_)
    refine lv_iload S.1 S.2.1 dX0_findWay_54 (lv_at hl 5 rfl) ?_
    refine lv_aload_n S.1 S.2.1 dX0_findWay_56 rfl (lv_at hl 0 rfl) ?_
    refine r_getI (j := 0) S hW inX0 rfl f9 rfl LH_35 (by decide) rfl dX0_findWay_57 ?_
    refine lv_icmp_ge (tgt := 113) S.1 S.2.1 dX0_findWay_60 (by decide) (fun c11 => ?_) (fun c11 => ?_)
    · have h := h.1 c11
      refine lv_aload_n S.1 S.2.1 dX0_findWay_113 rfl (lv_at hl 0 rfl) ?_
      refine r_getR (j := 2) S hW inX0 rfl f20 rfl LH_35 (by decide) rfl dX0_findWay_114 ?_
      refine lv_iload_n S.1 S.2.1 dX0_findWay_117 rfl (lv_at hl 1 rfl) ?_
      have b12 := h.1
      have h := h.2
      refine r_iald S hW LH_71 b12 dX0_findWay_118 ?_
      refine lv_iconst (v := -1) S.1 S.2.1 dX0_findWay_119 rfl ?_
      refine lv_icmp_eq (tgt := 125) S.1 S.2.1 dX0_findWay_120 (by decide) (fun c13 => ?_) (fun c13 => ?_)
      · have h := h.1 c13
        obtain ⟨v14, ev14⟩ : ∃ y : Int32, y = x4 + 1 := ⟨_, rfl⟩
        have h := h v14 ev14
        refine lv_iinc (v := v14) (lv' := [(4, .int v14), (0, .ref (σ 35)), (2, .int a2), (3, .int x3), (5, .int x5), (6, .int x6)]) S.1 S.2.1 dX0_findWay_125 hl (k := 3) rfl (by rw [ev14]; rfl) (by decide) rfl (fun ls hl => ?_)
        refine lv_goto (tgt := 27) S.1 S.2.1 dX0_findWay_128 (by decide) ?_
        exact (e27 _ _ _).mp h H locs ls hW (lv_sub hl [1, 2, 3, 0] rfl)
      · have h := h.2 c13
        refine lv_iconst (v := 1) S.1 S.2.1 dX0_findWay_123 rfl ?_
        exact r_zret S hr hlk hW rfl h dX0_findWay_124
    · have h := h.2 c11
      refine lv_aload_n S.1 S.2.1 dX0_findWay_63 rfl (lv_at hl 0 rfl) ?_
      refine r_getR (j := 1) S hW inX0 rfl f17 rfl LH_35 (by decide) rfl dX0_findWay_64 ?_
      refine lv_iload S.1 S.2.1 dX0_findWay_67 (lv_at hl 4 rfl) ?_
      have b15 := h.1
      have h := h.2
      refine r_aald (t := 0) S hW LH_36 (by decide) b15 dX0_findWay_69 ?_
      refine lv_iload S.1 S.2.1 dX0_findWay_70 (lv_at hl 5 rfl) ?_
      have b16 := h.1
      have h := h.2
      refine r_iald S hW (LHr_36 (vp_lt b15)) b16 dX0_findWay_72 ?_
      refine lv_if_le (tgt := 107) S.1 S.2.1 dX0_findWay_73 (by decide) (fun c17 => ?_) (fun c17 => ?_)
      · have h := h.1 c17
        obtain ⟨v18, ev18⟩ : ∃ y : Int32, y = x6 + 1 := ⟨_, rfl⟩
        have h := h v18 ev18
        refine lv_iinc (v := v18) (lv' := [(6, .int v18), (0, .ref (σ 35)), (2, .int a2), (3, .int x3), (4, .int x4), (5, .int x5)]) S.1 S.2.1 dX0_findWay_107 hl (k := 5) rfl (by rw [ev18]; rfl) (by decide) rfl (fun ls hl => ?_)
        refine lv_goto (tgt := 54) S.1 S.2.1 dX0_findWay_110 (by decide) ?_
        exact (e54 _ _ _ _ _).mp h H locs ls hW (lv_sub hl [1, 2, 3, 4, 5, 0] rfl)
      · have h := h.2 c17
        refine lv_aload_n S.1 S.2.1 dX0_findWay_76 rfl (lv_at hl 0 rfl) ?_
        refine r_getR (j := 2) S hW inX0 rfl f20 rfl LH_35 (by decide) rfl dX0_findWay_77 ?_
        refine lv_iload S.1 S.2.1 dX0_findWay_80 (lv_at hl 5 rfl) ?_
        have b19 := h.1
        have h := h.2
        refine r_iald S hW LH_71 b19 dX0_findWay_82 ?_
        refine lv_iconst (v := -1) S.1 S.2.1 dX0_findWay_83 rfl ?_
        refine lv_icmp_ne (tgt := 107) S.1 S.2.1 dX0_findWay_84 (by decide) (fun c20 => ?_) (fun c20 => ?_)
        · have h := h.1 c20
          obtain ⟨v21, ev21⟩ : ∃ y : Int32, y = x6 + 1 := ⟨_, rfl⟩
          have h := h v21 ev21
          refine lv_iinc (v := v21) (lv' := [(6, .int v21), (0, .ref (σ 35)), (2, .int a2), (3, .int x3), (4, .int x4), (5, .int x5)]) S.1 S.2.1 dX0_findWay_107 hl (k := 5) rfl (by rw [ev21]; rfl) (by decide) rfl (fun ls hl => ?_)
          refine lv_goto (tgt := 54) S.1 S.2.1 dX0_findWay_110 (by decide) ?_
          exact (e54 _ _ _ _ _).mp h H locs ls hW (lv_sub hl [1, 2, 3, 4, 5, 0] rfl)
        · have h := h.2 c20
          refine lv_aload_n S.1 S.2.1 dX0_findWay_87 rfl (lv_at hl 0 rfl) ?_
          refine r_getR (j := 2) S hW inX0 rfl f20 rfl LH_35 (by decide) rfl dX0_findWay_88 ?_
          refine lv_iload S.1 S.2.1 dX0_findWay_91 (lv_at hl 5 rfl) ?_
          refine lv_iload S.1 S.2.1 dX0_findWay_93 (lv_at hl 4 rfl) ?_
          have b22 := h.1
          have h := h.2
          refine r_iast S hW LH_71 b22 dX0_findWay_95 (fun M23 H locs eM23 hW => ?_)
          have h := h M23 eM23
          refine lv_aload_n S.1 S.2.1 dX0_findWay_96 rfl (lv_at hl 0 rfl) ?_
          refine r_getR (j := 3) S hW inX0 rfl f24 rfl LH_35 (by decide) rfl dX0_findWay_97 ?_
          refine lv_iload_n S.1 S.2.1 dX0_findWay_100 rfl (lv_at hl 2 rfl) ?_
          obtain ⟨v24, ev24⟩ : ∃ y : Int32, y = x3 + 1 := ⟨_, rfl⟩
          have h := h v24 ev24
          refine lv_iinc (v := v24) (lv' := [(3, .int v24), (0, .ref (σ 35)), (2, .int a2), (4, .int x4), (5, .int x5), (6, .int x6)]) S.1 S.2.1 dX0_findWay_101 hl (k := 2) rfl (by rw [ev24]; rfl) (by decide) rfl (fun ls hl => ?_)
          refine lv_iload S.1 S.2.1 dX0_findWay_104 (lv_at hl 5 rfl) ?_
          have b25 := h.1
          have h := h.2
          refine r_iast S hW LH_72 b25 dX0_findWay_106 (fun M26 H locs eM26 hW => ?_)
          have h := h M26 eM26
          obtain ⟨v27, ev27⟩ : ∃ y : Int32, y = x6 + 1 := ⟨_, rfl⟩
          have h := h v27 ev27
          refine lv_iinc (v := v27) (lv' := [(6, .int v27), (3, .int v24), (0, .ref (σ 35)), (2, .int a2), (4, .int x4), (5, .int x5)]) S.1 S.2.1 dX0_findWay_107 hl (k := 5) rfl (by rw [ev27]; rfl) (by decide) rfl (fun ls hl => ?_)
          refine lv_goto (tgt := 54) S.1 S.2.1 dX0_findWay_110 (by decide) ?_
          exact (e54 _ _ _ _ _).mp h H locs ls hW (lv_sub hl [2, 3, 1, 4, 5, 0] rfl)
  have h := h z27 z54
  refine lv_aload_n S.1 S.2.1 dX0_findWay_0 rfl (lv_at hl 0 rfl) ?_
  refine r_getR (j := 2) S hW inX0 rfl f20 rfl LH_35 (by decide) rfl dX0_findWay_1 ?_
  refine lv_iconst (v := -1) S.1 S.2.1 dX0_findWay_4 rfl ?_
  refine r_goV (r_runS (rest := []) S hW (mJ7_fill_53178 l D T LH σ 71 LH_71  M (-1 : Int32) _ h) w27 rfl hl.1 rfl (Nat.le_of_ble_eq_true rfl) dX0_findWay_5 ⟨Nat.zero_le _, Nat.zero_le _⟩) hW (fun M2 H locs h hW => ?_)
  refine lv_aload_n S.1 S.2.1 dX0_findWay_8 rfl (lv_at hl 0 rfl) ?_
  refine r_getR (j := 2) S hW inX0 rfl f20 rfl LH_35 (by decide) rfl dX0_findWay_9 ?_
  refine lv_iload_n S.1 S.2.1 dX0_findWay_12 rfl (lv_at hl 1 rfl) ?_
  refine lv_iload_n S.1 S.2.1 dX0_findWay_13 rfl (lv_at hl 1 rfl) ?_
  have b3 := h.1
  have h := h.2
  refine r_iast S hW LH_71 b3 dX0_findWay_14 (fun M4 H locs eM4 hW => ?_)
  have h := h M4 eM4
  refine lv_aload_n S.1 S.2.1 dX0_findWay_15 rfl (lv_at hl 0 rfl) ?_
  refine r_getR (j := 3) S hW inX0 rfl f24 rfl LH_35 (by decide) rfl dX0_findWay_16 ?_
  refine lv_iconst (v := 0) S.1 S.2.1 dX0_findWay_19 rfl ?_
  refine lv_iload_n S.1 S.2.1 dX0_findWay_20 rfl (lv_at hl 1 rfl) ?_
  have b5 := h.1
  have h := h.2
  refine r_iast S hW LH_72 b5 dX0_findWay_21 (fun M6 H locs eM6 hW => ?_)
  have h := h M6 eM6
  refine lv_iconst (v := 1) S.1 S.2.1 dX0_findWay_22 rfl ?_
  refine lv_istore_n (lv' := [(3, .int (1 : Int32)), (0, .ref (σ 35)), (1, .int a1), (2, .int a2)]) S.1 S.2.1 dX0_findWay_23 rfl hl (by decide) rfl (fun ls hl => ?_)
  refine lv_iconst (v := 0) S.1 S.2.1 dX0_findWay_24 rfl ?_
  refine lv_istore (lv' := [(4, .int (0 : Int32)), (3, .int (1 : Int32)), (0, .ref (σ 35)), (1, .int a1), (2, .int a2)]) S.1 S.2.1 dX0_findWay_25 hl (by decide) rfl (fun ls hl => ?_)
  exact (e27 _ _ _).mp h H locs ls hW (lv_sub hl [2, 4, 1, 0] rfl)
abbrev rmX0_send : Room := { frames := 1, cells := 0, slots := 0, locals := 23 }
set_option maxHeartbeats 4000000 in
set_option maxRecDepth 100000 in
theorem mX0_send (l : Launch) (D : va_G) (T : Nat → ClassId) (σ : Nat → Nat) (M : Mem) (a1 : Int32) (a2 : Int32) (a3 : Int32) (post : Int32 → Mem → Prop) (h : qX0_send a1 a2 a3 M post) : Met l yX0_send wsX0_send rmX0_send (preW D T LH σ [.ref (σ 35), .int a1, .int a2, .int a3] M) (postI D T LH σ post) 0 0 (fA LH σ) := by
  refine m_of (cc := cX0_send) (maxL := 7) (ret := (some .int)) (own := RX0) (by decide) rfl rfl (Nat.le_of_ble_eq_true rfl) ?_
  intro p e s m args below meth c H ls locs S hr hlk hl hW
  have hl : lv_has ls 7 [(0, .ref (σ 35)), (1, .int a1), (2, .int a2), (3, .int a3)] := hl
  have inX0 : ∀ w ∈ u_ws RX0 TX0 4, w ∈ wsX0_send := by decide +kernel
  have f9 := S.2.2.2.2 (.fieldLink RX0 9 "MachineHall$Flow" "nodes" "I") (by decide +kernel)
  have f17 := S.2.2.2.2 (.fieldLink RX0 17 "MachineHall$Flow" "open" "[[I") (by decide +kernel)
  have f20 := S.2.2.2.2 (.fieldLink RX0 20 "MachineHall$Flow" "cameFrom" "[I") (by decide +kernel)
  have l45 := S.2.2.2.2 (.methodLink RX0 45 Lib.Math.min.name) (by decide +kernel)
  have smin := S.2.2.2.2 (.static Lib.Math.min.name) (by decide +kernel)
  have omin := S.2.2.2.2 (.code Lib.Math.min.name Lib.Math.min.code 2 (some .int)) (by decide +kernel)
  have iMath := S.2.2.2.2 (.initialized "java/lang/Math") (by decide +kernel)
  obtain ⟨R9, e9⟩ : ∃ R : Int32 → Int32 → Int32 → Mem → Prop, ∀ x4 x5 x6 M, R x4 x5 x6 M ↔ WW p l e rmX0_send s m args below meth c D T LH σ 7 (MQ below (postI D T LH σ post) args s 0 0 (fA LH σ)) 9 [(0, .ref (σ 35)), (1, .int a1), (2, .int a2), (4, .int x4), (5, .int x5), (6, .int x6)] [] M := ⟨_, fun _ _ _ _ => Iff.rfl⟩
  obtain ⟨R67, e67⟩ : ∃ R : Int32 → Int32 → Int32 → Mem → Prop, ∀ x4 x5 x6 M, R x4 x5 x6 M ↔ WW p l e rmX0_send s m args below meth c D T LH σ 7 (MQ below (postI D T LH σ post) args s 0 0 (fA LH σ)) 67 [(0, .ref (σ 35)), (1, .int a1), (4, .int x4), (5, .int x5), (6, .int x6)] [] M := ⟨_, fun _ _ _ _ => Iff.rfl⟩
  have h := h R9 R67
  have z9 : ∀ x4 x5 x6 M, qX0_send_b9 a1 a2 a3 post R9 R67 x4 x5 x6 M → R9 x4 x5 x6 M := by
    intro x4 x5 x6 M h
    refine (e9 _ _ _ _).mpr (fun H locs ls hW hl => ?_)
    refine lv_iload S.1 S.2.1 dX0_send_9 (lv_at hl 5 rfl) ?_
    refine lv_aload_n S.1 S.2.1 dX0_send_11 rfl (lv_at hl 0 rfl) ?_
    refine r_getI (j := 0) S hW inX0 rfl f9 rfl LH_35 (by decide) rfl dX0_send_12 ?_
    refine lv_icmp_ge (tgt := 61) S.1 S.2.1 dX0_send_15 (by decide) (fun c1 => ?_) (fun c1 => ?_)
    · have h := h.1 c1
      refine lv_iload_n S.1 S.2.1 dX0_send_61 rfl (lv_at hl 2 rfl) ?_
      refine lv_istore (lv' := [(5, .int a2), (0, .ref (σ 35)), (1, .int a1), (2, .int a2), (4, .int x4), (6, .int x6)]) S.1 S.2.1 dX0_send_62 hl (by decide) rfl (fun ls hl => ?_)
      refine lv_iconst (v := 0) S.1 S.2.1 dX0_send_64 rfl ?_
      refine lv_istore (lv' := [(6, .int (0 : Int32)), (5, .int a2), (0, .ref (σ 35)), (1, .int a1), (2, .int a2), (4, .int x4)]) S.1 S.2.1 dX0_send_65 hl (by decide) rfl (fun ls hl => ?_)
      exact (e67 _ _ _ _).mp h H locs ls hW (lv_sub hl [2, 3, 5, 1, 0] rfl)
    · have h := h.2 c1
      refine lv_iload S.1 S.2.1 dX0_send_18 (lv_at hl 4 rfl) ?_
      refine lv_iload_n S.1 S.2.1 dX0_send_20 rfl (lv_at hl 1 rfl) ?_
      refine lv_icmp_eq (tgt := 61) S.1 S.2.1 dX0_send_21 (by decide) (fun c2 => ?_) (fun c2 => ?_)
      · have h := h.1 c2
        refine lv_iload_n S.1 S.2.1 dX0_send_61 rfl (lv_at hl 2 rfl) ?_
        refine lv_istore (lv' := [(5, .int a2), (0, .ref (σ 35)), (1, .int a1), (2, .int a2), (4, .int x4), (6, .int x6)]) S.1 S.2.1 dX0_send_62 hl (by decide) rfl (fun ls hl => ?_)
        refine lv_iconst (v := 0) S.1 S.2.1 dX0_send_64 rfl ?_
        refine lv_istore (lv' := [(6, .int (0 : Int32)), (5, .int a2), (0, .ref (σ 35)), (1, .int a1), (2, .int a2), (4, .int x4)]) S.1 S.2.1 dX0_send_65 hl (by decide) rfl (fun ls hl => ?_)
        exact (e67 _ _ _ _).mp h H locs ls hW (lv_sub hl [2, 3, 5, 1, 0] rfl)
      · have h := h.2 c2
        refine lv_iload S.1 S.2.1 dX0_send_24 (lv_at hl 3 rfl) ?_
        refine lv_aload_n S.1 S.2.1 dX0_send_26 rfl (lv_at hl 0 rfl) ?_
        refine r_getR (j := 1) S hW inX0 rfl f17 rfl LH_35 (by decide) rfl dX0_send_27 ?_
        refine lv_aload_n S.1 S.2.1 dX0_send_30 rfl (lv_at hl 0 rfl) ?_
        refine r_getR (j := 2) S hW inX0 rfl f20 rfl LH_35 (by decide) rfl dX0_send_31 ?_
        refine lv_iload S.1 S.2.1 dX0_send_34 (lv_at hl 4 rfl) ?_
        have b3 := h.1
        have h := h.2
        refine r_iald S hW LH_71 b3 dX0_send_36 ?_
        have b4 := h.1
        have h := h.2
        refine r_aald (t := 0) S hW LH_36 (by decide) b4 dX0_send_37 ?_
        refine lv_iload S.1 S.2.1 dX0_send_38 (lv_at hl 4 rfl) ?_
        have b5 := h.1
        have h := h.2
        refine r_iald S hW (LHr_36 (vp_lt b4)) b5 dX0_send_40 ?_
        refine r_min S hl.1 l45 smin iMath omin (Nat.le_of_ble_eq_true rfl) (Nat.le_of_ble_eq_true rfl) (Nat.zero_le _) (Nat.zero_le _) dX0_send_41 ?_
        refine lv_topi (fun v6 ev6 => ?_)
        have h := h v6 ev6
        refine lv_istore (lv' := [(4, .int v6), (0, .ref (σ 35)), (1, .int a1), (2, .int a2), (5, .int x5), (6, .int x6)]) S.1 S.2.1 dX0_send_44 hl (by decide) rfl (fun ls hl => ?_)
        refine lv_aload_n S.1 S.2.1 dX0_send_46 rfl (lv_at hl 1 rfl) ?_
        refine r_getR (j := 2) S hW inX0 rfl f20 rfl LH_35 (by decide) rfl dX0_send_47 ?_
        refine lv_iload S.1 S.2.1 dX0_send_50 (lv_at hl 4 rfl) ?_
        have b7 := h.1
        have h := h.2
        refine r_iald S hW LH_71 b7 dX0_send_52 ?_
        refine lv_topi (fun v8 ev8 => ?_)
        have h := h v8 ev8
        refine lv_istore (lv' := [(5, .int v8), (4, .int v6), (0, .ref (σ 35)), (1, .int a1), (2, .int a2), (6, .int x6)]) S.1 S.2.1 dX0_send_53 hl (by decide) rfl (fun ls hl => ?_)
        obtain ⟨v9, ev9⟩ : ∃ y : Int32, y = x6 + 1 := ⟨_, rfl⟩
        have h := h v9 ev9
        refine lv_iinc (v := v9) (lv' := [(6, .int v9), (5, .int v8), (4, .int v6), (0, .ref (σ 35)), (1, .int a1), (2, .int a2)]) S.1 S.2.1 dX0_send_55 hl (k := 5) rfl (by rw [ev9]; rfl) (by decide) rfl (fun ls hl => ?_)
        refine lv_goto (tgt := 9) S.1 S.2.1 dX0_send_58 (by decide) ?_
        exact (e9 _ _ _ _).mp h H locs ls hW (lv_sub hl [3, 4, 5, 2, 1, 0] rfl)
  have z67 : ∀ x4 x5 x6 M, qX0_send_b67 a1 a2 a3 post R9 R67 x4 x5 x6 M → R67 x4 x5 x6 M := by
    intro x4 x5 x6 M h
    refine (e67 _ _ _ _).mpr (fun H locs ls hW hl => ?_)
    refine lv_iload S.1 S.2.1 dX0_send_67 (lv_at hl 4 rfl) ?_
    refine lv_aload_n S.1 S.2.1 dX0_send_69 rfl (lv_at hl 0 rfl) ?_
    refine r_getI (j := 0) S hW inX0 rfl f9 rfl LH_35 (by decide) rfl dX0_send_70 ?_
    refine lv_icmp_ge (tgt := 137) S.1 S.2.1 dX0_send_73 (by decide) (fun c10 => ?_) (fun c10 => ?_)
    · have h := h.1 c10
      refine lv_iload S.1 S.2.1 dX0_send_137 (lv_at hl 2 rfl) ?_
      exact r_iret S hr hlk hW h dX0_send_139
    · have h := h.2 c10
      refine lv_iload S.1 S.2.1 dX0_send_76 (lv_at hl 3 rfl) ?_
      refine lv_iload_n S.1 S.2.1 dX0_send_78 rfl (lv_at hl 1 rfl) ?_
      refine lv_icmp_eq (tgt := 137) S.1 S.2.1 dX0_send_79 (by decide) (fun c11 => ?_) (fun c11 => ?_)
      · have h := h.1 c11
        refine lv_iload S.1 S.2.1 dX0_send_137 (lv_at hl 2 rfl) ?_
        exact r_iret S hr hlk hW h dX0_send_139
      · have h := h.2 c11
        refine lv_aload_n S.1 S.2.1 dX0_send_82 rfl (lv_at hl 0 rfl) ?_
        refine r_getR (j := 1) S hW inX0 rfl f17 rfl LH_35 (by decide) rfl dX0_send_83 ?_
        refine lv_aload_n S.1 S.2.1 dX0_send_86 rfl (lv_at hl 0 rfl) ?_
        refine r_getR (j := 2) S hW inX0 rfl f20 rfl LH_35 (by decide) rfl dX0_send_87 ?_
        refine lv_iload S.1 S.2.1 dX0_send_90 (lv_at hl 3 rfl) ?_
        have b12 := h.1
        have h := h.2
        refine r_iald S hW LH_71 b12 dX0_send_92 ?_
        have b13 := h.1
        have h := h.2
        refine r_aald (t := 0) S hW LH_36 (by decide) b13 dX0_send_93 ?_
        refine lv_iload S.1 S.2.1 dX0_send_94 (lv_at hl 3 rfl) ?_
        refine lv_dup2_11 S.1 S.2.1 dX0_send_96 rfl rfl ?_
        have b14 := h.1
        have h := h.2
        refine r_iald S hW (LHr_36 (vp_lt b13)) b14 dX0_send_97 ?_
        refine lv_iload S.1 S.2.1 dX0_send_98 (lv_at hl 2 rfl) ?_
        refine lv_isub S.1 S.2.1 dX0_send_100 ?_
        have b15 := h.1
        have h := h.2
        refine r_iast S hW (LHr_36 (vp_lt b13)) b15 dX0_send_101 (fun M16 H locs eM16 hW => ?_)
        have h := h M16 eM16
        refine lv_aload_n S.1 S.2.1 dX0_send_102 rfl (lv_at hl 0 rfl) ?_
        refine r_getR (j := 1) S hW inX0 rfl f17 rfl LH_35 (by decide) rfl dX0_send_103 ?_
        refine lv_iload S.1 S.2.1 dX0_send_106 (lv_at hl 3 rfl) ?_
        have b17 := h.1
        have h := h.2
        refine r_aald (t := 0) S hW LH_36 (by decide) b17 dX0_send_108 ?_
        refine lv_aload_n S.1 S.2.1 dX0_send_109 rfl (lv_at hl 0 rfl) ?_
        refine r_getR (j := 2) S hW inX0 rfl f20 rfl LH_35 (by decide) rfl dX0_send_110 ?_
        refine lv_iload S.1 S.2.1 dX0_send_113 (lv_at hl 3 rfl) ?_
        have b18 := h.1
        have h := h.2
        refine r_iald S hW LH_71 b18 dX0_send_115 ?_
        refine lv_dup2_11 S.1 S.2.1 dX0_send_116 rfl rfl ?_
        have b19 := h.1
        have h := h.2
        refine r_iald S hW (LHr_36 (vp_lt b17)) b19 dX0_send_117 ?_
        refine lv_iload S.1 S.2.1 dX0_send_118 (lv_at hl 2 rfl) ?_
        refine lv_iadd S.1 S.2.1 dX0_send_120 ?_
        have b20 := h.1
        have h := h.2
        refine r_iast S hW (LHr_36 (vp_lt b17)) b20 dX0_send_121 (fun M21 H locs eM21 hW => ?_)
        have h := h M21 eM21
        refine lv_aload_n S.1 S.2.1 dX0_send_122 rfl (lv_at hl 0 rfl) ?_
        refine r_getR (j := 2) S hW inX0 rfl f20 rfl LH_35 (by decide) rfl dX0_send_123 ?_
        refine lv_iload S.1 S.2.1 dX0_send_126 (lv_at hl 3 rfl) ?_
        have b22 := h.1
        have h := h.2
        refine r_iald S hW LH_71 b22 dX0_send_128 ?_
        refine lv_topi (fun v23 ev23 => ?_)
        have h := h v23 ev23
        refine lv_istore (lv' := [(5, .int v23), (0, .ref (σ 35)), (1, .int a1), (4, .int x4), (6, .int x6)]) S.1 S.2.1 dX0_send_129 hl (by decide) rfl (fun ls hl => ?_)
        obtain ⟨v24, ev24⟩ : ∃ y : Int32, y = x6 + 1 := ⟨_, rfl⟩
        have h := h v24 ev24
        refine lv_iinc (v := v24) (lv' := [(6, .int v24), (5, .int v23), (0, .ref (σ 35)), (1, .int a1), (4, .int x4)]) S.1 S.2.1 dX0_send_131 hl (k := 4) rfl (by rw [ev24]; rfl) (by decide) rfl (fun ls hl => ?_)
        refine lv_goto (tgt := 67) S.1 S.2.1 dX0_send_134 (by decide) ?_
        exact (e67 _ _ _ _).mp h H locs ls hW (lv_sub hl [2, 3, 4, 1, 0] rfl)
  have h := h z9 z67
  refine lv_iload_n S.1 S.2.1 dX0_send_0 rfl (lv_at hl 3 rfl) ?_
  refine lv_istore (lv' := [(4, .int a3), (0, .ref (σ 35)), (1, .int a1), (2, .int a2), (3, .int a3)]) S.1 S.2.1 dX0_send_1 hl (by decide) rfl (fun ls hl => ?_)
  refine lv_iload_n S.1 S.2.1 dX0_send_3 rfl (lv_at hl 3 rfl) ?_
  refine lv_istore (lv' := [(5, .int a2), (4, .int a3), (0, .ref (σ 35)), (1, .int a1), (2, .int a2), (3, .int a3)]) S.1 S.2.1 dX0_send_4 hl (by decide) rfl (fun ls hl => ?_)
  refine lv_iconst (v := 0) S.1 S.2.1 dX0_send_6 rfl ?_
  refine lv_istore (lv' := [(6, .int (0 : Int32)), (5, .int a2), (4, .int a3), (0, .ref (σ 35)), (1, .int a1), (2, .int a2), (3, .int a3)]) S.1 S.2.1 dX0_send_7 hl (by decide) rfl (fun ls hl => ?_)
  exact (e9 _ _ _ _).mp h H locs ls hW (lv_sub hl [3, 4, 5, 2, 1, 0] rfl)
abbrev rmX0_push : Room := { frames := 2, cells := 0, slots := 0, locals := 49 }
set_option maxHeartbeats 4000000 in
set_option maxRecDepth 100000 in
theorem mX0_push (l : Launch) (D : va_G) (T : Nat → ClassId) (σ : Nat → Nat) (M : Mem) (a1 : Int32) (a2 : Int32) (a3 : Int32) (post : Int32 → Mem → Prop) (h : qX0_push a1 a2 a3 M post) : Met l yX0_push wsX0_push rmX0_push (preW D T LH σ [.ref (σ 35), .int a1, .int a2, .int a3] M) (postI D T LH σ post) 0 0 (fA LH σ) := by
  refine m_of (cc := cX0_push) (maxL := 6) (ret := (some .int)) (own := RX0) (by decide) rfl rfl (Nat.le_of_ble_eq_true rfl) ?_
  intro p e s m args below meth c H ls locs S hr hlk hl hW
  have hl : lv_has ls 6 [(0, .ref (σ 35)), (1, .int a1), (2, .int a2), (3, .int a3)] := hl
  have k33 := S.2.2.2.2 (.constant RX0 33 (1000000)) (by decide +kernel)
  have w34 := cwV (R := rmX0_push) (rm := rmX0_findWay) (mc := 0) (ms := 0) 2 S.2.2.2.2 gX0_push_X0_findWay rfl rfl rfl (by decide +kernel) ⟨Nat.le_of_ble_eq_true rfl, Nat.le_of_ble_eq_true rfl⟩
  have w38 := cwV (R := rmX0_push) (rm := rmX0_send) (mc := 0) (ms := 0) 3 S.2.2.2.2 gX0_push_X0_send rfl rfl rfl (by decide +kernel) ⟨Nat.le_of_ble_eq_true rfl, Nat.le_of_ble_eq_true rfl⟩
  obtain ⟨R6, e6⟩ : ∃ R : Int32 → Int32 → Mem → Prop, ∀ x4 x5 M, R x4 x5 M ↔ WW p l e rmX0_push s m args below meth c D T LH σ 6 (MQ below (postI D T LH σ post) args s 0 0 (fA LH σ)) 6 [(0, .ref (σ 35)), (1, .int a1), (2, .int a2), (3, .int a3), (4, .int x4), (5, .int x5)] [] M := ⟨_, fun _ _ _ => Iff.rfl⟩
  have h := h R6
  have z6 : ∀ x4 x5 M, qX0_push_b6 a1 a2 a3 post R6 x4 x5 M → R6 x4 x5 M := by
    intro x4 x5 M h
    refine (e6 _ _ _).mpr (fun H locs ls hW hl => ?_)
    refine lv_iload S.1 S.2.1 dX0_push_6 (lv_at hl 5 rfl) ?_
    refine lv_ldc S.1 S.2.1 S.2.2.2.1 k33 dX0_push_8 ?_
    refine lv_icmp_ge (tgt := 49) S.1 S.2.1 dX0_push_10 (by decide) (fun c1 => ?_) (fun c1 => ?_)
    · have h := h.1 c1
      refine lv_iload S.1 S.2.1 dX0_push_49 (lv_at hl 4 rfl) ?_
      exact r_iret S hr hlk hW h dX0_push_51
    · have h := h.2 c1
      refine lv_iload S.1 S.2.1 dX0_push_13 (lv_at hl 4 rfl) ?_
      refine lv_iload_n S.1 S.2.1 dX0_push_15 rfl (lv_at hl 3 rfl) ?_
      refine lv_icmp_ge (tgt := 49) S.1 S.2.1 dX0_push_16 (by decide) (fun c2 => ?_) (fun c2 => ?_)
      · have h := h.1 c2
        refine lv_iload S.1 S.2.1 dX0_push_49 (lv_at hl 4 rfl) ?_
        exact r_iret S hr hlk hW h dX0_push_51
      · have h := h.2 c2
        refine lv_aload_n S.1 S.2.1 dX0_push_19 rfl (lv_at hl 0 rfl) ?_
        refine lv_iload_n S.1 S.2.1 dX0_push_20 rfl (lv_at hl 1 rfl) ?_
        refine lv_iload_n S.1 S.2.1 dX0_push_21 rfl (lv_at hl 2 rfl) ?_
        refine r_goI (r_runV (rest := []) S hW (mX0_findWay l D T σ M a1 a2 _ h) w34 rfl LH_35 rfl hl.1 rfl (Nat.le_of_ble_eq_true rfl) dX0_push_22 ⟨Nat.zero_le _, Nat.zero_le _⟩) hW (fun r3 M4 H locs h hW => ?_)
        refine lv_if_eq (tgt := 49) S.1 S.2.1 dX0_push_25 (by decide) (fun c5 => ?_) (fun c5 => ?_)
        · have h := h.1 c5
          refine lv_iload S.1 S.2.1 dX0_push_49 (lv_at hl 4 rfl) ?_
          exact r_iret S hr hlk hW h dX0_push_51
        · have h := h.2 c5
          refine lv_iload S.1 S.2.1 dX0_push_28 (lv_at hl 4 rfl) ?_
          refine lv_aload_n S.1 S.2.1 dX0_push_30 rfl (lv_at hl 0 rfl) ?_
          refine lv_iload_n S.1 S.2.1 dX0_push_31 rfl (lv_at hl 1 rfl) ?_
          refine lv_iload_n S.1 S.2.1 dX0_push_32 rfl (lv_at hl 2 rfl) ?_
          refine lv_iload_n S.1 S.2.1 dX0_push_33 rfl (lv_at hl 3 rfl) ?_
          refine lv_iload S.1 S.2.1 dX0_push_34 (lv_at hl 4 rfl) ?_
          refine lv_isub S.1 S.2.1 dX0_push_36 ?_
          refine r_goI (r_runV (rest := [.int x4]) S hW (mX0_send l D T σ M4 a1 a2 (a3 - x4) _ h) w38 rfl LH_35 rfl hl.1 rfl (Nat.le_of_ble_eq_true rfl) dX0_push_37 ⟨Nat.zero_le _, Nat.zero_le _⟩) hW (fun r6 M7 H locs h hW => ?_)
          refine lv_iadd S.1 S.2.1 dX0_push_40 ?_
          refine lv_topi (fun v8 ev8 => ?_)
          have h := h v8 ev8
          refine lv_istore (lv' := [(4, .int v8), (0, .ref (σ 35)), (1, .int a1), (2, .int a2), (3, .int a3), (5, .int x5)]) S.1 S.2.1 dX0_push_41 hl (by decide) rfl (fun ls hl => ?_)
          obtain ⟨v9, ev9⟩ : ∃ y : Int32, y = x5 + 1 := ⟨_, rfl⟩
          have h := h v9 ev9
          refine lv_iinc (v := v9) (lv' := [(5, .int v9), (4, .int v8), (0, .ref (σ 35)), (1, .int a1), (2, .int a2), (3, .int a3)]) S.1 S.2.1 dX0_push_43 hl (k := 5) rfl (by rw [ev9]; rfl) (by decide) rfl (fun ls hl => ?_)
          refine lv_goto (tgt := 6) S.1 S.2.1 dX0_push_46 (by decide) ?_
          exact (e6 _ _ _).mp h H locs ls hW (lv_sub hl [2, 3, 4, 5, 1, 0] rfl)
  have h := h z6
  refine lv_iconst (v := 0) S.1 S.2.1 dX0_push_0 rfl ?_
  refine lv_istore (lv' := [(4, .int (0 : Int32)), (0, .ref (σ 35)), (1, .int a1), (2, .int a2), (3, .int a3)]) S.1 S.2.1 dX0_push_1 hl (by decide) rfl (fun ls hl => ?_)
  refine lv_iconst (v := 0) S.1 S.2.1 dX0_push_3 rfl ?_
  refine lv_istore (lv' := [(5, .int (0 : Int32)), (4, .int (0 : Int32)), (0, .ref (σ 35)), (1, .int a1), (2, .int a2), (3, .int a3)]) S.1 S.2.1 dX0_push_4 hl (by decide) rfl (fun ls hl => ?_)
  exact (e6 _ _ _).mp h H locs ls hW (lv_sub hl [2, 3, 4, 5, 1, 0] rfl)
abbrev rmX0_settle : Room := { frames := 3, cells := 0, slots := 0, locals := 74 }
set_option maxHeartbeats 4000000 in
set_option maxRecDepth 100000 in
theorem mX0_settle (l : Launch) (D : va_G) (T : Nat → ClassId) (σ : Nat → Nat) (M : Mem) (a1 : Int32) (a2 : Int32) (post : Int32 → Mem → Prop) (h : qX0_settle a1 a2 M post) : Met l yX0_settle wsX0_settle rmX0_settle (preW D T LH σ [.ref (σ 35), .int a1, .int a2] M) (postI D T LH σ post) 0 0 (fA LH σ) := by
  refine m_of (cc := cX0_settle) (maxL := 5) (ret := (some .int)) (own := RX0) (by decide) rfl rfl (Nat.le_of_ble_eq_true rfl) ?_
  intro p e s m args below meth c H ls locs S hr hlk hl hW
  have hl : lv_has ls 5 [(0, .ref (σ 35)), (1, .int a1), (2, .int a2)] := hl
  have inX0 : ∀ w ∈ u_ws RX0 TX0 4, w ∈ wsX0_settle := by decide +kernel
  have f17 := S.2.2.2.2 (.fieldLink RX0 17 "MachineHall$Flow" "open" "[[I") (by decide +kernel)
  have w42 := cwV (R := rmX0_settle) (rm := rmX0_push) (mc := 0) (ms := 0) 3 S.2.2.2.2 gX0_settle_X0_push rfl rfl rfl (by decide +kernel) ⟨Nat.le_of_ble_eq_true rfl, Nat.le_of_ble_eq_true rfl⟩
  refine lv_aload_n S.1 S.2.1 dX0_settle_0 rfl (lv_at hl 0 rfl) ?_
  refine r_getR (j := 1) S hW inX0 rfl f17 rfl LH_35 (by decide) rfl dX0_settle_1 ?_
  refine lv_iload_n S.1 S.2.1 dX0_settle_4 rfl (lv_at hl 1 rfl) ?_
  have b1 := h.1
  have h := h.2
  refine r_aald (t := 0) S hW LH_36 (by decide) b1 dX0_settle_5 ?_
  refine lv_iload_n S.1 S.2.1 dX0_settle_6 rfl (lv_at hl 2 rfl) ?_
  have b2 := h.1
  have h := h.2
  refine r_iald S hW (LHr_36 (vp_lt b1)) b2 dX0_settle_7 ?_
  refine lv_topi (fun v3 ev3 => ?_)
  have h := h v3 ev3
  refine lv_istore_n (lv' := [(3, .int v3), (0, .ref (σ 35)), (1, .int a1), (2, .int a2)]) S.1 S.2.1 dX0_settle_8 rfl hl (by decide) rfl (fun ls hl => ?_)
  refine lv_aload_n S.1 S.2.1 dX0_settle_9 rfl (lv_at hl 1 rfl) ?_
  refine r_getR (j := 1) S hW inX0 rfl f17 rfl LH_35 (by decide) rfl dX0_settle_10 ?_
  refine lv_iload_n S.1 S.2.1 dX0_settle_13 rfl (lv_at hl 3 rfl) ?_
  have b4 := h.1
  have h := h.2
  refine r_aald (t := 0) S hW LH_36 (by decide) b4 dX0_settle_14 ?_
  refine lv_iload_n S.1 S.2.1 dX0_settle_15 rfl (lv_at hl 2 rfl) ?_
  have b5 := h.1
  have h := h.2
  refine r_iald S hW (LHr_36 (vp_lt b4)) b5 dX0_settle_16 ?_
  refine lv_topi (fun v6 ev6 => ?_)
  have h := h v6 ev6
  refine lv_istore (lv' := [(4, .int v6), (3, .int v3), (0, .ref (σ 35)), (1, .int a1), (2, .int a2)]) S.1 S.2.1 dX0_settle_17 hl (by decide) rfl (fun ls hl => ?_)
  refine lv_aload_n S.1 S.2.1 dX0_settle_19 rfl (lv_at hl 2 rfl) ?_
  refine r_getR (j := 1) S hW inX0 rfl f17 rfl LH_35 (by decide) rfl dX0_settle_20 ?_
  refine lv_iload_n S.1 S.2.1 dX0_settle_23 rfl (lv_at hl 3 rfl) ?_
  have b7 := h.1
  have h := h.2
  refine r_aald (t := 0) S hW LH_36 (by decide) b7 dX0_settle_24 ?_
  refine lv_iload_n S.1 S.2.1 dX0_settle_25 rfl (lv_at hl 4 rfl) ?_
  refine lv_iconst (v := 0) S.1 S.2.1 dX0_settle_26 rfl ?_
  have b8 := h.1
  have h := h.2
  refine r_iast S hW (LHr_36 (vp_lt b7)) b8 dX0_settle_27 (fun M9 H locs eM9 hW => ?_)
  have h := h M9 eM9
  refine lv_aload_n S.1 S.2.1 dX0_settle_28 rfl (lv_at hl 2 rfl) ?_
  refine r_getR (j := 1) S hW inX0 rfl f17 rfl LH_35 (by decide) rfl dX0_settle_29 ?_
  refine lv_iload_n S.1 S.2.1 dX0_settle_32 rfl (lv_at hl 4 rfl) ?_
  have b10 := h.1
  have h := h.2
  refine r_aald (t := 0) S hW LH_36 (by decide) b10 dX0_settle_33 ?_
  refine lv_iload_n S.1 S.2.1 dX0_settle_34 rfl (lv_at hl 3 rfl) ?_
  refine lv_iconst (v := 0) S.1 S.2.1 dX0_settle_35 rfl ?_
  have b11 := h.1
  have h := h.2
  refine r_iast S hW (LHr_36 (vp_lt b10)) b11 dX0_settle_36 (fun M12 H locs eM12 hW => ?_)
  have h := h M12 eM12
  refine lv_iload S.1 S.2.1 dX0_settle_37 (lv_at hl 0 rfl) ?_
  refine lv_aload_n S.1 S.2.1 dX0_settle_39 rfl (lv_at hl 2 rfl) ?_
  refine lv_iload_n S.1 S.2.1 dX0_settle_40 rfl (lv_at hl 4 rfl) ?_
  refine lv_iload_n S.1 S.2.1 dX0_settle_41 rfl (lv_at hl 3 rfl) ?_
  refine lv_iload_n S.1 S.2.1 dX0_settle_42 rfl (lv_at hl 1 rfl) ?_
  refine r_goI (r_runV (rest := [.int v6]) S hW (mX0_push l D T σ M12 a2 a1 v3 _ h) w42 rfl LH_35 rfl hl.1 rfl (Nat.le_of_ble_eq_true rfl) dX0_settle_43 ⟨Nat.zero_le _, Nat.zero_le _⟩) hW (fun r13 M14 H locs h hW => ?_)
  refine lv_iadd S.1 S.2.1 dX0_settle_46 ?_
  exact r_iret S hr hlk hW h dX0_settle_47
abbrev rmX3_settleParts : Room := { frames := 4, cells := 0, slots := 0, locals := 98 }
set_option maxHeartbeats 4000000 in
set_option maxRecDepth 100000 in
theorem mX3_settleParts (l : Launch) (D : va_G) (T : Nat → ClassId) (σ : Nat → Nat) (M : Mem)  (post : Mem → Prop) (h : qX3_settleParts M post) : Met l yX3_settleParts wsX3_settleParts rmX3_settleParts (preW D T LH σ [.ref (σ 21)] M) (postV D T LH σ post) 0 0 (fA LH σ) := by
  refine m_of (cc := cX3_settleParts) (maxL := 3) (ret := none) (own := RX3) (by decide) rfl rfl (Nat.le_of_ble_eq_true rfl) ?_
  intro p e s m args below meth c H ls locs S hr hlk hl hW
  have hl : lv_has ls 3 [(0, .ref (σ 21))] := hl
  have inX3 : ∀ w ∈ u_ws RX3 TX3 9, w ∈ wsX3_settleParts := by decide +kernel
  have f42 := S.2.2.2.2 (.fieldLink RX3 42 "MachineHall$Plan" "batches" "I") (by decide +kernel)
  have f20 := S.2.2.2.2 (.fieldLink RX3 20 "MachineHall$Plan" "froms" "[I") (by decide +kernel)
  have f23 := S.2.2.2.2 (.fieldLink RX3 23 "MachineHall$Plan" "dues" "[I") (by decide +kernel)
  have f13 := S.2.2.2.2 (.fieldLink RX3 13 "MachineHall$Plan" "parts" "[[I") (by decide +kernel)
  have f34 := S.2.2.2.2 (.fieldLink RX3 34 "MachineHall$Plan" "flow" "LMachineHall$Flow;") (by decide +kernel)
  have w79 := cwV (R := rmX3_settleParts) (rm := rmX0_settle) (mc := 0) (ms := 0) 2 S.2.2.2.2 gX3_settleParts_X0_settle rfl rfl rfl (by decide +kernel) ⟨Nat.le_of_ble_eq_true rfl, Nat.le_of_ble_eq_true rfl⟩
  obtain ⟨R2, e2⟩ : ∃ R : Int32 → Mem → Prop, ∀ x1 M, R x1 M ↔ WW p l e rmX3_settleParts s m args below meth c D T LH σ 3 (MQ below (postV D T LH σ post) args s 0 0 (fA LH σ)) 2 [(0, .ref (σ 21)), (1, .int x1)] [] M := ⟨_, fun _ _ => Iff.rfl⟩
  obtain ⟨R17, e17⟩ : ∃ R : Int32 → Int32 → Mem → Prop, ∀ x1 x2 M, R x1 x2 M ↔ WW p l e rmX3_settleParts s m args below meth c D T LH σ 3 (MQ below (postV D T LH σ post) args s 0 0 (fA LH σ)) 17 [(0, .ref (σ 21)), (1, .int x1), (2, .int x2)] [] M := ⟨_, fun _ _ _ => Iff.rfl⟩
  have h := h R2 R17
  have z2 : ∀ x1 M, qX3_settleParts_b2 post R2 R17 x1 M → R2 x1 M := by
    intro x1 M h
    refine (e2 _ _).mpr (fun H locs ls hW hl => ?_)
    refine lv_iload_n S.1 S.2.1 dX3_settleParts_2 rfl (lv_at hl 1 rfl) ?_
    refine lv_aload_n S.1 S.2.1 dX3_settleParts_3 rfl (lv_at hl 0 rfl) ?_
    refine r_getI (j := 0) S hW inX3 rfl f42 rfl LH_21 (by decide) rfl dX3_settleParts_4 ?_
    refine lv_icmp_ge (tgt := 59) S.1 S.2.1 dX3_settleParts_7 (by decide) (fun c1 => ?_) (fun c1 => ?_)
    · have h := h.1 c1
      exact r_vret S hr hlk hW h dX3_settleParts_59
    · have h := h.2 c1
      refine lv_aload_n S.1 S.2.1 dX3_settleParts_10 rfl (lv_at hl 0 rfl) ?_
      refine r_getR (j := 4) S hW inX3 rfl f20 rfl LH_21 (by decide) rfl dX3_settleParts_11 ?_
      refine lv_iload_n S.1 S.2.1 dX3_settleParts_14 rfl (lv_at hl 1 rfl) ?_
      have b2 := h.1
      have h := h.2
      refine r_iald S hW LH_32 b2 dX3_settleParts_15 ?_
      refine lv_topi (fun v3 ev3 => ?_)
      have h := h v3 ev3
      refine lv_istore_n (lv' := [(2, .int v3), (0, .ref (σ 21)), (1, .int x1)]) S.1 S.2.1 dX3_settleParts_16 rfl hl (by decide) rfl (fun ls hl => ?_)
      exact (e17 _ _ _).mp h H locs ls hW (lv_sub hl [1, 2, 0] rfl)
  have z17 : ∀ x1 x2 M, qX3_settleParts_b17 post R2 R17 x1 x2 M → R17 x1 x2 M := by
    intro x1 x2 M h
    refine (e17 _ _ _).mpr (fun H locs ls hW hl => ?_)
    refine lv_iload_n S.1 S.2.1 dX3_settleParts_17 rfl (lv_at hl 2 rfl) ?_
    refine lv_aload_n S.1 S.2.1 dX3_settleParts_18 rfl (lv_at hl 0 rfl) ?_
    refine r_getR (j := 5) S hW inX3 rfl f23 rfl LH_21 (by decide) rfl dX3_settleParts_19 ?_
    refine lv_iload_n S.1 S.2.1 dX3_settleParts_22 rfl (lv_at hl 1 rfl) ?_
    have b4 := h.1
    have h := h.2
    refine r_iald S hW LH_33 b4 dX3_settleParts_23 ?_
    refine lv_icmp_ge (tgt := 53) S.1 S.2.1 dX3_settleParts_24 (by decide) (fun c5 => ?_) (fun c5 => ?_)
    · have h := h.1 c5
      obtain ⟨v6, ev6⟩ : ∃ y : Int32, y = x1 + 1 := ⟨_, rfl⟩
      have h := h v6 ev6
      refine lv_iinc (v := v6) (lv' := [(1, .int v6), (0, .ref (σ 21)), (2, .int x2)]) S.1 S.2.1 dX3_settleParts_53 hl (k := 1) rfl (by rw [ev6]; rfl) (by decide) rfl (fun ls hl => ?_)
      refine lv_goto (tgt := 2) S.1 S.2.1 dX3_settleParts_56 (by decide) ?_
      exact (e2 _ _).mp h H locs ls hW (lv_sub hl [1, 0] rfl)
    · have h := h.2 c5
      refine lv_aload_n S.1 S.2.1 dX3_settleParts_27 rfl (lv_at hl 0 rfl) ?_
      refine r_getR (j := 2) S hW inX3 rfl f13 rfl LH_21 (by decide) rfl dX3_settleParts_28 ?_
      refine lv_iload_n S.1 S.2.1 dX3_settleParts_31 rfl (lv_at hl 1 rfl) ?_
      have b7 := h.1
      have h := h.2
      refine r_aald (t := 0) S hW LH_22 (by decide) b7 dX3_settleParts_32 ?_
      refine lv_iload_n S.1 S.2.1 dX3_settleParts_33 rfl (lv_at hl 2 rfl) ?_
      refine lv_aload_n S.1 S.2.1 dX3_settleParts_34 rfl (lv_at hl 0 rfl) ?_
      refine r_getR (j := 7) S hW inX3 rfl f34 rfl LH_21 (by decide) rfl dX3_settleParts_35 ?_
      refine lv_iload_n S.1 S.2.1 dX3_settleParts_38 rfl (lv_at hl 1 rfl) ?_
      refine lv_bipush (v := 8) S.1 S.2.1 dX3_settleParts_39 rfl ?_
      refine lv_iload_n S.1 S.2.1 dX3_settleParts_41 rfl (lv_at hl 2 rfl) ?_
      refine lv_iadd S.1 S.2.1 dX3_settleParts_42 ?_
      refine r_goI (r_runV (rest := [.int x2, .ref (σ (23 + x1.toNatClampNeg))]) S hW (mX0_settle l D T σ M x1 ((8 : Int32) + x2) _ h) w79 rfl LH_35 rfl hl.1 rfl (Nat.le_of_ble_eq_true rfl) dX3_settleParts_43 ⟨Nat.zero_le _, Nat.zero_le _⟩) hW (fun r8 M9 H locs h hW => ?_)
      have b10 := h.1
      have h := h.2
      refine r_iast S hW (LHr_22 (vp_lt b7)) b10 dX3_settleParts_46 (fun M11 H locs eM11 hW => ?_)
      have h := h M11 eM11
      obtain ⟨v12, ev12⟩ : ∃ y : Int32, y = x2 + 1 := ⟨_, rfl⟩
      have h := h v12 ev12
      refine lv_iinc (v := v12) (lv' := [(2, .int v12), (0, .ref (σ 21)), (1, .int x1)]) S.1 S.2.1 dX3_settleParts_47 hl (k := 2) rfl (by rw [ev12]; rfl) (by decide) rfl (fun ls hl => ?_)
      refine lv_goto (tgt := 17) S.1 S.2.1 dX3_settleParts_50 (by decide) ?_
      exact (e17 _ _ _).mp h H locs ls hW (lv_sub hl [1, 2, 0] rfl)
  have h := h z2 z17
  refine lv_iconst (v := 0) S.1 S.2.1 dX3_settleParts_0 rfl ?_
  refine lv_istore_n (lv' := [(1, .int (0 : Int32)), (0, .ref (σ 21))]) S.1 S.2.1 dX3_settleParts_1 rfl hl (by decide) rfl (fun ls hl => ?_)
  exact (e2 _ _).mp h H locs ls hW (lv_sub hl [1, 0] rfl)
abbrev rmX3_lay : Room := { frames := 5, cells := 0, slots := 0, locals := 120 }
set_option maxHeartbeats 4000000 in
set_option maxRecDepth 100000 in
theorem mX3_lay (l : Launch) (D : va_G) (T : Nat → ClassId) (σ : Nat → Nat) (M : Mem) (a2 : Int32) (post : Mem → Prop) (h : qX3_lay a2 M post) : Met l yX3_lay wsX3_lay rmX3_lay (preW D T LH σ [.ref (σ 21), .ref (σ 11), .int a2] M) (postV D T LH σ post) 0 0 (fA LH σ) := by
  refine m_of (cc := cX3_lay) (maxL := 3) (ret := none) (own := RX3) (by decide) rfl rfl (Nat.le_of_ble_eq_true rfl) ?_
  intro p e s m args below meth c H ls locs S hr hlk hl hW
  have hl : lv_has ls 3 [(0, .ref (σ 21)), (1, .ref (σ 11)), (2, .int a2)] := hl
  have inX3 : ∀ w ∈ u_ws RX3 TX3 9, w ∈ wsX3_lay := by decide +kernel
  have f38 := S.2.2.2.2 (.fieldLink RX3 38 "MachineHall$Plan" "laidFor" "I") (by decide +kernel)
  have w52 := cwV (R := rmX3_lay) (rm := rmX3_layPipes) (mc := 0) (ms := 0) 2 S.2.2.2.2 gX3_lay_X3_layPipes rfl rfl rfl (by decide +kernel) ⟨Nat.le_of_ble_eq_true rfl, Nat.le_of_ble_eq_true rfl⟩
  have f56 := S.2.2.2.2 (.fieldLink RX3 56 "MachineHall$Plan" "unlaid" "I") (by decide +kernel)
  have f34 := S.2.2.2.2 (.fieldLink RX3 34 "MachineHall$Plan" "flow" "LMachineHall$Flow;") (by decide +kernel)
  have w59 := cwV (R := rmX3_lay) (rm := rmX0_push) (mc := 0) (ms := 0) 3 S.2.2.2.2 gX3_lay_X0_push rfl rfl rfl (by decide +kernel) ⟨Nat.le_of_ble_eq_true rfl, Nat.le_of_ble_eq_true rfl⟩
  have w63 := cwV (R := rmX3_lay) (rm := rmX3_settleParts) (mc := 0) (ms := 0) 0 S.2.2.2.2 gX3_lay_X3_settleParts rfl rfl rfl (by decide +kernel) ⟨Nat.le_of_ble_eq_true rfl, Nat.le_of_ble_eq_true rfl⟩
  refine lv_aload_n S.1 S.2.1 dX3_lay_0 rfl (lv_at hl 0 rfl) ?_
  refine r_getI (j := 8) S hW inX3 rfl f38 rfl LH_21 (by decide) rfl dX3_lay_1 ?_
  refine lv_iload_n S.1 S.2.1 dX3_lay_4 rfl (lv_at hl 2 rfl) ?_
  refine lv_icmp_ne (tgt := 9) S.1 S.2.1 dX3_lay_5 (by decide) (fun c1 => ?_) (fun c1 => ?_)
  · have h := h.1 c1
    refine lv_aload_n S.1 S.2.1 dX3_lay_9 rfl (lv_at hl 0 rfl) ?_
    refine lv_iload_n S.1 S.2.1 dX3_lay_10 rfl (lv_at hl 2 rfl) ?_
    refine r_putI (j := 8) S hW inX3 rfl f38 rfl LH_21 (by decide) rfl tyX3 tyX3_ok nmX3 rfl rfl rfl dX3_lay_11 (fun M2 H locs eM2 hW => ?_)
    have h := h M2 eM2
    refine lv_aload_n S.1 S.2.1 dX3_lay_14 rfl (lv_at hl 0 rfl) ?_
    refine lv_aload_n S.1 S.2.1 dX3_lay_15 rfl (lv_at hl 0 rfl) ?_
    refine lv_aload_n S.1 S.2.1 dX3_lay_16 rfl (lv_at hl 1 rfl) ?_
    refine lv_iload_n S.1 S.2.1 dX3_lay_17 rfl (lv_at hl 2 rfl) ?_
    refine r_goI (r_runV (rest := [.ref (σ 21)]) S hW (mX3_layPipes l D T σ M2 a2 _ h) w52 rfl LH_21 rfl hl.1 rfl (Nat.le_of_ble_eq_true rfl) dX3_lay_18 ⟨Nat.zero_le _, Nat.zero_le _⟩) hW (fun r3 M4 H locs h hW => ?_)
    refine r_putI (j := 1) S hW inX3 rfl f56 rfl LH_21 (by decide) rfl tyX3 tyX3_ok nmX3 rfl rfl rfl dX3_lay_21 (fun M5 H locs eM5 hW => ?_)
    have h := h M5 eM5
    refine lv_aload_n S.1 S.2.1 dX3_lay_24 rfl (lv_at hl 0 rfl) ?_
    refine lv_dup S.1 S.2.1 dX3_lay_25 rfl ?_
    refine r_getI (j := 1) S hW inX3 rfl f56 rfl LH_21 (by decide) rfl dX3_lay_26 ?_
    refine lv_aload_n S.1 S.2.1 dX3_lay_29 rfl (lv_at hl 0 rfl) ?_
    refine r_getR (j := 7) S hW inX3 rfl f34 rfl LH_21 (by decide) rfl dX3_lay_30 ?_
    refine lv_bipush (v := 32) S.1 S.2.1 dX3_lay_33 rfl ?_
    refine lv_bipush (v := 33) S.1 S.2.1 dX3_lay_35 rfl ?_
    refine lv_aload_n S.1 S.2.1 dX3_lay_37 rfl (lv_at hl 0 rfl) ?_
    refine r_getI (j := 1) S hW inX3 rfl f56 rfl LH_21 (by decide) rfl dX3_lay_38 ?_
    refine r_goI (r_runV (rest := [.int (M5.1 21 1), .ref (σ 21)]) S hW (mX0_push l D T σ M5 (32 : Int32) (33 : Int32) (M5.1 21 1) _ h) w59 rfl LH_35 rfl hl.1 rfl (Nat.le_of_ble_eq_true rfl) dX3_lay_41 ⟨Nat.zero_le _, Nat.zero_le _⟩) hW (fun r6 M7 H locs h hW => ?_)
    refine lv_isub S.1 S.2.1 dX3_lay_44 ?_
    refine r_putI (j := 1) S hW inX3 rfl f56 rfl LH_21 (by decide) rfl tyX3 tyX3_ok nmX3 rfl rfl rfl dX3_lay_45 (fun M8 H locs eM8 hW => ?_)
    have h := h M8 eM8
    refine lv_aload_n S.1 S.2.1 dX3_lay_48 rfl (lv_at hl 0 rfl) ?_
    refine r_getI (j := 1) S hW inX3 rfl f56 rfl LH_21 (by decide) rfl dX3_lay_49 ?_
    refine lv_if_ne (tgt := 59) S.1 S.2.1 dX3_lay_52 (by decide) (fun c9 => ?_) (fun c9 => ?_)
    · have h := h.1 c9
      exact r_vret S hr hlk hW h dX3_lay_59
    · have h := h.2 c9
      refine lv_aload_n S.1 S.2.1 dX3_lay_55 rfl (lv_at hl 0 rfl) ?_
      refine r_goV (r_runV (rest := []) S hW (mX3_settleParts l D T σ M8 _ h) w63 rfl LH_21 rfl hl.1 rfl (Nat.le_of_ble_eq_true rfl) dX3_lay_56 ⟨Nat.zero_le _, Nat.zero_le _⟩) hW (fun M11 H locs h hW => ?_)
      exact r_vret S hr hlk hW h dX3_lay_59
  · have h := h.2 c1
    exact r_vret S hr hlk hW h dX3_lay_8
abbrev rmX3_hasBatch : Room := { frames := 1, cells := 0, slots := 0, locals := 23 }
set_option maxHeartbeats 4000000 in
set_option maxRecDepth 100000 in
theorem mX3_hasBatch (l : Launch) (D : va_G) (T : Nat → ClassId) (σ : Nat → Nat) (M : Mem) (a1 : Int32) (post : Int32 → Mem → Prop) (h : qX3_hasBatch a1 M post) : Met l yX3_hasBatch wsX3_hasBatch rmX3_hasBatch (preW D T LH σ [.ref (σ 21), .int a1] M) (postI D T LH σ post) 0 0 (fA LH σ) := by
  refine m_of (cc := cX3_hasBatch) (maxL := 2) (ret := (some .boolean)) (own := RX3) (by decide) rfl rfl (Nat.le_of_ble_eq_true rfl) ?_
  intro p e s m args below meth c H ls locs S hr hlk hl hW
  have hl : lv_has ls 2 [(0, .ref (σ 21)), (1, .int a1)] := hl
  have inX3 : ∀ w ∈ u_ws RX3 TX3 9, w ∈ wsX3_hasBatch := by decide +kernel
  have f42 := S.2.2.2.2 (.fieldLink RX3 42 "MachineHall$Plan" "batches" "I") (by decide +kernel)
  have w45 := va_cnB (args := args) (R := rmX3_hasBatch) (rm := rmX6_within) (mc := 0) (ms := 0) 3 S.2.2.2.2 gX3_hasBatch_X6_within_n45 rfl rfl rfl hW.2.2.2.2.2.2.1 (S.2.2.2.2 (.initialized RX6) (by decide +kernel)) (by decide +kernel) ⟨Nat.le_of_ble_eq_true rfl, Nat.le_of_ble_eq_true rfl⟩
  have stX6_within := S.2.2.2.2 (.static yX6_within) (by decide +kernel)
  refine lv_iload_n S.1 S.2.1 dX3_hasBatch_0 rfl (lv_at hl 1 rfl) ?_
  refine lv_i2l S.1 S.2.1 dX3_hasBatch_1 rfl ?_
  refine lv_iconst (v := 0) S.1 S.2.1 dX3_hasBatch_2 rfl ?_
  refine lv_aload_n S.1 S.2.1 dX3_hasBatch_3 rfl (lv_at hl 0 rfl) ?_
  refine r_getI (j := 0) S hW inX3 rfl f42 rfl LH_21 (by decide) rfl dX3_hasBatch_4 ?_
  refine lv_iconst (v := 1) S.1 S.2.1 dX3_hasBatch_7 rfl ?_
  refine lv_isub S.1 S.2.1 dX3_hasBatch_8 ?_
  refine r_goI (r_runN (rest := []) S hW (mX6_within l D T LH σ M (a1.toInt64) (0 : Int32) ((M.1 21 0) - (1 : Int32)) _ h) w45 stX6_within rfl hl.1 rfl (Nat.le_of_ble_eq_true rfl) dX3_hasBatch_9 ⟨Nat.zero_le _, Nat.zero_le _⟩) hW (fun r1 M2 H locs h hW => ?_)
  exact r_zret S hr hlk hW h.1 h.2 dX3_hasBatch_12
abbrev rmX4_whyNotFirst : Room := { frames := 1, cells := 0, slots := 0, locals := 23 }
set_option maxHeartbeats 4000000 in
set_option maxRecDepth 100000 in
theorem mX4_whyNotFirst (l : Launch) (D : va_G) (T : Nat → ClassId) (σ : Nat → Nat) (M : Mem) (a1 : Int32) (a2 : Int32) (a3 : Int32) (post : Int32 → Mem → Prop) (h : qX4_whyNotFirst a1 a2 a3 M post) : Met l yX4_whyNotFirst wsX4_whyNotFirst rmX4_whyNotFirst (preW D T LH σ [.ref (σ 1), .int a1, .int a2, .int a3] M) (postI D T LH σ post) 0 0 (fA LH σ) := by
  refine m_of (cc := cX4_whyNotFirst) (maxL := 5) (ret := (some .int)) (own := RX4) (by decide) rfl rfl (Nat.le_of_ble_eq_true rfl) ?_
  intro p e s m args below meth c H ls locs S hr hlk hl hW
  have hl : lv_has ls 5 [(0, .ref (σ 1)), (1, .int a1), (2, .int a2), (3, .int a3)] := hl
  have w44 := cwV (R := rmX4_whyNotFirst) (rm := rmX4_isMissing) (mc := 0) (ms := 0) 1 S.2.2.2.2 gX4_whyNotFirst_X4_isMissing rfl rfl rfl (by decide +kernel) ⟨Nat.le_of_ble_eq_true rfl, Nat.le_of_ble_eq_true rfl⟩
  have inX4 : ∀ w ∈ u_ws RX4 TX4 3, w ∈ wsX4_whyNotFirst := by decide +kernel
  have f20 := S.2.2.2.2 (.fieldLink RX4 20 "MachineHall$Sheets" "lengths" "[I") (by decide +kernel)
  have f13 := S.2.2.2.2 (.fieldLink RX4 13 "MachineHall$Sheets" "numbers" "[[J") (by decide +kernel)
  have w29 := va_cnB (args := args) (R := rmX4_whyNotFirst) (rm := rmX6_within) (mc := 0) (ms := 0) 3 S.2.2.2.2 gX4_whyNotFirst_X6_within_n29 rfl rfl rfl hW.2.2.2.2.1 (S.2.2.2.2 (.initialized RX6) (by decide +kernel)) (by decide +kernel) ⟨Nat.le_of_ble_eq_true rfl, Nat.le_of_ble_eq_true rfl⟩
  have stX6_within := S.2.2.2.2 (.static yX6_within) (by decide +kernel)
  obtain ⟨R25, e25⟩ : ∃ R : Int32 → Mem → Prop, ∀ x4 M, R x4 M ↔ WW p l e rmX4_whyNotFirst s m args below meth c D T LH σ 5 (MQ below (postI D T LH σ post) args s 0 0 (fA LH σ)) 25 [(0, .ref (σ 1)), (1, .int a1), (2, .int a2), (3, .int a3), (4, .int x4)] [] M := ⟨_, fun _ _ => Iff.rfl⟩
  have h := h R25
  have z25 : ∀ x4 M, qX4_whyNotFirst_b25 a1 a2 a3 post R25 x4 M → R25 x4 M := by
    intro x4 M h
    refine (e25 _ _).mpr (fun H locs ls hW hl => ?_)
    refine lv_iload S.1 S.2.1 dX4_whyNotFirst_25 (lv_at hl 4 rfl) ?_
    refine lv_iload_n S.1 S.2.1 dX4_whyNotFirst_27 rfl (lv_at hl 2 rfl) ?_
    refine lv_icmp_ge (tgt := 56) S.1 S.2.1 dX4_whyNotFirst_28 (by decide) (fun c6 => ?_) (fun c6 => ?_)
    · have h := h.1 c6
      refine lv_iconst (v := 0) S.1 S.2.1 dX4_whyNotFirst_56 rfl ?_
      exact r_iret S hr hlk hW h dX4_whyNotFirst_57
    · have h := h.2 c6
      refine lv_aload_n S.1 S.2.1 dX4_whyNotFirst_31 rfl (lv_at hl 0 rfl) ?_
      refine r_getR (j := 0) S hW inX4 rfl f13 rfl LH_1 (by decide) rfl dX4_whyNotFirst_32 ?_
      refine lv_iload_n S.1 S.2.1 dX4_whyNotFirst_35 rfl (lv_at hl 1 rfl) ?_
      have b7 := h.1
      have h := h.2
      refine r_aald (t := 1) S hW LH_2 (by decide) b7 dX4_whyNotFirst_36 ?_
      refine lv_iload S.1 S.2.1 dX4_whyNotFirst_37 (lv_at hl 4 rfl) ?_
      have b8 := h.1
      have h := h.2
      refine r_lald S hW (LHr_2 (vp_lt b7)) b8 dX4_whyNotFirst_39 ?_
      refine lv_iconst (v := 0) S.1 S.2.1 dX4_whyNotFirst_40 rfl ?_
      refine lv_iload_n S.1 S.2.1 dX4_whyNotFirst_41 rfl (lv_at hl 3 rfl) ?_
      refine r_goI (r_runN (rest := []) S hW (mX6_within l D T LH σ M (M.2 (3 + a1.toNatClampNeg) x4.toNatClampNeg) (0 : Int32) a3 _ h) w29 stX6_within rfl hl.1 rfl (Nat.le_of_ble_eq_true rfl) dX4_whyNotFirst_42 ⟨Nat.zero_le _, Nat.zero_le _⟩) hW (fun r9 M10 H locs h hW => ?_)
      refine lv_if_ne (tgt := 50) S.1 S.2.1 dX4_whyNotFirst_45 (by decide) (fun c11 => ?_) (fun c11 => ?_)
      · have h := h.1 c11
        obtain ⟨v12, ev12⟩ : ∃ y : Int32, y = x4 + 1 := ⟨_, rfl⟩
        have h := h v12 ev12
        refine lv_iinc (v := v12) (lv' := [(4, .int v12), (0, .ref (σ 1)), (1, .int a1), (2, .int a2), (3, .int a3)]) S.1 S.2.1 dX4_whyNotFirst_50 hl (k := 4) rfl (by rw [ev12]; rfl) (by decide) rfl (fun ls hl => ?_)
        refine lv_goto (tgt := 25) S.1 S.2.1 dX4_whyNotFirst_53 (by decide) ?_
        exact (e25 _ _).mp h H locs ls hW (lv_sub hl [1, 2, 3, 4, 0] rfl)
      · have h := h.2 c11
        refine lv_iconst (v := 1) S.1 S.2.1 dX4_whyNotFirst_48 rfl ?_
        exact r_iret S hr hlk hW h dX4_whyNotFirst_49
  have h := h z25
  refine lv_aload_n S.1 S.2.1 dX4_whyNotFirst_0 rfl (lv_at hl 0 rfl) ?_
  refine lv_iload_n S.1 S.2.1 dX4_whyNotFirst_1 rfl (lv_at hl 1 rfl) ?_
  refine r_goI (r_runV (rest := []) S hW (mX4_isMissing l D T σ M a1 _ h) w44 rfl LH_1 rfl hl.1 rfl (Nat.le_of_ble_eq_true rfl) dX4_whyNotFirst_2 ⟨Nat.zero_le _, Nat.zero_le _⟩) hW (fun r1 M2 H locs h hW => ?_)
  refine lv_if_eq (tgt := 10) S.1 S.2.1 dX4_whyNotFirst_5 (by decide) (fun c3 => ?_) (fun c3 => ?_)
  · have h := h.1 c3
    refine lv_iload_n S.1 S.2.1 dX4_whyNotFirst_10 rfl (lv_at hl 2 rfl) ?_
    refine lv_aload_n S.1 S.2.1 dX4_whyNotFirst_11 rfl (lv_at hl 0 rfl) ?_
    refine r_getR (j := 2) S hW inX4 rfl f20 rfl LH_1 (by decide) rfl dX4_whyNotFirst_12 ?_
    refine lv_iload_n S.1 S.2.1 dX4_whyNotFirst_15 rfl (lv_at hl 1 rfl) ?_
    have b4 := h.1
    have h := h.2
    refine r_iald S hW LH_10 b4 dX4_whyNotFirst_16 ?_
    refine lv_icmp_le (tgt := 22) S.1 S.2.1 dX4_whyNotFirst_17 (by decide) (fun c5 => ?_) (fun c5 => ?_)
    · have h := h.1 c5
      refine lv_iconst (v := 0) S.1 S.2.1 dX4_whyNotFirst_22 rfl ?_
      refine lv_istore (lv' := [(4, .int (0 : Int32)), (0, .ref (σ 1)), (1, .int a1), (2, .int a2), (3, .int a3)]) S.1 S.2.1 dX4_whyNotFirst_23 hl (by decide) rfl (fun ls hl => ?_)
      exact (e25 _ _).mp h H locs ls hW (lv_sub hl [1, 2, 3, 4, 0] rfl)
    · have h := h.2 c5
      refine lv_iconst (v := 3) S.1 S.2.1 dX4_whyNotFirst_20 rfl ?_
      exact r_iret S hr hlk hW h dX4_whyNotFirst_21
  · have h := h.2 c3
    refine lv_iconst (v := 2) S.1 S.2.1 dX4_whyNotFirst_8 rfl ?_
    exact r_iret S hr hlk hW h dX4_whyNotFirst_9
abbrev rmX5_note : Room := { frames := 1, cells := 0, slots := 0, locals := 23 }
set_option maxHeartbeats 4000000 in
set_option maxRecDepth 100000 in
theorem mX5_note (l : Launch) (D : va_G) (T : Nat → ClassId) (σ : Nat → Nat) (M : Mem) (a1 : Int32) (post : Mem → Prop) (h : qX5_note a1 M post) : Met l yX5_note wsX5_note rmX5_note (preW D T LH σ [.ref (σ 73), .int a1] M) (postV D T LH σ post) 0 0 (fA LH σ) := by
  refine m_of (cc := cX5_note) (maxL := 2) (ret := none) (own := RX5) (by decide) rfl rfl (Nat.le_of_ble_eq_true rfl) ?_
  intro p e s m args below meth c H ls locs S hr hlk hl hW
  have hl : lv_has ls 2 [(0, .ref (σ 73)), (1, .int a1)] := hl
  have inX5 : ∀ w ∈ u_ws RX5 TX5 6, w ∈ wsX5_note := by decide +kernel
  have f13 := S.2.2.2.2 (.fieldLink RX5 13 "MachineHall$Waiting" "greatest" "I") (by decide +kernel)
  have l41 := S.2.2.2.2 (.methodLink RX5 41 Lib.Math.max.name) (by decide +kernel)
  have smax := S.2.2.2.2 (.static Lib.Math.max.name) (by decide +kernel)
  have omax := S.2.2.2.2 (.code Lib.Math.max.name Lib.Math.max.code 2 (some .int)) (by decide +kernel)
  have iMath := S.2.2.2.2 (.initialized "java/lang/Math") (by decide +kernel)
  have f17 := S.2.2.2.2 (.fieldLink RX5 17 "MachineHall$Waiting" "together" "I") (by decide +kernel)
  have f20 := S.2.2.2.2 (.fieldLink RX5 20 "MachineHall$Waiting" "came" "I") (by decide +kernel)
  have f23 := S.2.2.2.2 (.fieldLink RX5 23 "MachineHall$Waiting" "waited" "I") (by decide +kernel)
  refine lv_aload_n S.1 S.2.1 dX5_note_0 rfl (lv_at hl 0 rfl) ?_
  refine lv_aload_n S.1 S.2.1 dX5_note_1 rfl (lv_at hl 0 rfl) ?_
  refine r_getI (j := 0) S hW inX5 rfl f13 rfl LH_73 (by decide) rfl dX5_note_2 ?_
  refine lv_iload_n S.1 S.2.1 dX5_note_5 rfl (lv_at hl 1 rfl) ?_
  refine r_max S hl.1 l41 smax iMath omax (Nat.le_of_ble_eq_true rfl) (Nat.le_of_ble_eq_true rfl) (Nat.zero_le _) (Nat.zero_le _) dX5_note_6 ?_
  refine r_putI (j := 0) S hW inX5 rfl f13 rfl LH_73 (by decide) rfl tyX5 tyX5_ok nmX5 rfl rfl rfl dX5_note_9 (fun M1 H locs eM1 hW => ?_)
  have h := h M1 eM1
  refine lv_aload_n S.1 S.2.1 dX5_note_12 rfl (lv_at hl 0 rfl) ?_
  refine lv_dup S.1 S.2.1 dX5_note_13 rfl ?_
  refine r_getI (j := 1) S hW inX5 rfl f17 rfl LH_73 (by decide) rfl dX5_note_14 ?_
  refine lv_iload_n S.1 S.2.1 dX5_note_17 rfl (lv_at hl 1 rfl) ?_
  refine lv_iadd S.1 S.2.1 dX5_note_18 ?_
  refine r_putI (j := 1) S hW inX5 rfl f17 rfl LH_73 (by decide) rfl tyX5 tyX5_ok nmX5 rfl rfl rfl dX5_note_19 (fun M2 H locs eM2 hW => ?_)
  have h := h M2 eM2
  refine lv_aload_n S.1 S.2.1 dX5_note_22 rfl (lv_at hl 0 rfl) ?_
  refine lv_dup S.1 S.2.1 dX5_note_23 rfl ?_
  refine r_getI (j := 2) S hW inX5 rfl f20 rfl LH_73 (by decide) rfl dX5_note_24 ?_
  refine lv_iconst (v := 1) S.1 S.2.1 dX5_note_27 rfl ?_
  refine lv_iadd S.1 S.2.1 dX5_note_28 ?_
  refine r_putI (j := 2) S hW inX5 rfl f20 rfl LH_73 (by decide) rfl tyX5 tyX5_ok nmX5 rfl rfl rfl dX5_note_29 (fun M3 H locs eM3 hW => ?_)
  have h := h M3 eM3
  refine lv_aload_n S.1 S.2.1 dX5_note_32 rfl (lv_at hl 0 rfl) ?_
  refine lv_dup S.1 S.2.1 dX5_note_33 rfl ?_
  refine r_getI (j := 3) S hW inX5 rfl f23 rfl LH_73 (by decide) rfl dX5_note_34 ?_
  refine lv_iload_n S.1 S.2.1 dX5_note_37 rfl (lv_at hl 1 rfl) ?_
  refine lv_if_le (tgt := 45) S.1 S.2.1 dX5_note_38 (by decide) (fun c4 => ?_) (fun c4 => ?_)
  · have h := h.1 c4
    refine lv_iconst (v := 0) S.1 S.2.1 dX5_note_45 rfl ?_
    refine lv_iadd S.1 S.2.1 dX5_note_46 ?_
    refine r_putI (j := 3) S hW inX5 rfl f23 rfl LH_73 (by decide) rfl tyX5 tyX5_ok nmX5 rfl rfl rfl dX5_note_47 (fun M5 H locs eM5 hW => ?_)
    have h := h M5 eM5
    exact r_vret S hr hlk hW h dX5_note_50
  · have h := h.2 c4
    refine lv_iconst (v := 1) S.1 S.2.1 dX5_note_41 rfl ?_
    refine lv_goto (tgt := 46) S.1 S.2.1 dX5_note_42 (by decide) ?_
    refine lv_iadd S.1 S.2.1 dX5_note_46 ?_
    refine r_putI (j := 3) S hW inX5 rfl f23 rfl LH_73 (by decide) rfl tyX5 tyX5_ok nmX5 rfl rfl rfl dX5_note_47 (fun M6 H locs eM6 hW => ?_)
    have h := h M6 eM6
    exact r_vret S hr hlk hW h dX5_note_50
abbrev rmX5_serve : Room := { frames := 2, cells := 0, slots := 0, locals := 44 }
set_option maxHeartbeats 4000000 in
set_option maxRecDepth 100000 in
theorem mX5_serve (l : Launch) (D : va_G) (T : Nat → ClassId) (σ : Nat → Nat) (M : Mem) (a2 : Int32) (a3 : Int32) (a4 : Int32) (a5 : Int32) (post : Mem → Prop) (h : qX5_serve a2 a3 a4 a5 M post) : Met l yX5_serve wsX5_serve rmX5_serve (preW D T LH σ [.ref (σ 73), .ref (σ 1), .int a2, .int a3, .int a4, .int a5] M) (postV D T LH σ post) 0 0 (fA LH σ) := by
  refine m_of (cc := cX5_serve) (maxL := 12) (ret := none) (own := RX5) (by decide) rfl rfl (Nat.le_of_ble_eq_true rfl) ?_
  intro p e s m args below meth c H ls locs S hr hlk hl hW
  have hl : lv_has ls 12 [(0, .ref (σ 73)), (1, .ref (σ 1)), (2, .int a2), (3, .int a3), (4, .int a4), (5, .int a5)] := hl
  have inX5 : ∀ w ∈ u_ws RX5 TX5 6, w ∈ wsX5_serve := by decide +kernel
  have f13 := S.2.2.2.2 (.fieldLink RX5 13 "MachineHall$Waiting" "greatest" "I") (by decide +kernel)
  have f17 := S.2.2.2.2 (.fieldLink RX5 17 "MachineHall$Waiting" "together" "I") (by decide +kernel)
  have f20 := S.2.2.2.2 (.fieldLink RX5 20 "MachineHall$Waiting" "came" "I") (by decide +kernel)
  have f23 := S.2.2.2.2 (.fieldLink RX5 23 "MachineHall$Waiting" "waited" "I") (by decide +kernel)
  have f26 := S.2.2.2.2 (.fieldLink RX5 26 "MachineHall$Waiting" "end" "I") (by decide +kernel)
  have f9 := S.2.2.2.2 (.fieldLink RX5 9 "MachineHall$Waiting" "freeAt" "[I") (by decide +kernel)
  have w29 := va_cwS (R := rmX5_serve) (rm := rmJ7_fill_53178) (mc := 0) (ms := 0) 2 S.2.2.2.2 gX5_serve_J7_fill_53178 rfl rfl rfl (by decide +kernel) ⟨Nat.le_of_ble_eq_true rfl, Nat.le_of_ble_eq_true rfl⟩
  have w35 := cwV (R := rmX5_serve) (rm := rmX4_at) (mc := 0) (ms := 0) 2 S.2.2.2.2 gX5_serve_X4_at rfl rfl rfl (by decide +kernel) ⟨Nat.le_of_ble_eq_true rfl, Nat.le_of_ble_eq_true rfl⟩
  have l41 := S.2.2.2.2 (.methodLink RX5 41 Lib.Math.max.name) (by decide +kernel)
  have smax := S.2.2.2.2 (.static Lib.Math.max.name) (by decide +kernel)
  have omax := S.2.2.2.2 (.code Lib.Math.max.name Lib.Math.max.code 2 (some .int)) (by decide +kernel)
  have iMath := S.2.2.2.2 (.initialized "java/lang/Math") (by decide +kernel)
  have w47 := cwV (R := rmX5_serve) (rm := rmX5_note) (mc := 0) (ms := 0) 1 S.2.2.2.2 gX5_serve_X5_note rfl rfl rfl (by decide +kernel) ⟨Nat.le_of_ble_eq_true rfl, Nat.le_of_ble_eq_true rfl⟩
  obtain ⟨R39, e39⟩ : ∃ R : Int32 → Int32 → Mem → Prop, ∀ x6 x7 M, R x6 x7 M ↔ WW p l e rmX5_serve s m args below meth c D T LH σ 12 (MQ below (postV D T LH σ post) args s 0 0 (fA LH σ)) 39 [(0, .ref (σ 73)), (1, .ref (σ 1)), (2, .int a2), (3, .int a3), (4, .int a4), (5, .int a5), (6, .int x6), (7, .int x7)] [] M := ⟨_, fun _ _ _ => Iff.rfl⟩
  obtain ⟨R57, e57⟩ : ∃ R : Int32 → Int32 → Int64 → Int32 → Mem → Prop, ∀ x6 x7 x8 x10 M, R x6 x7 x8 x10 M ↔ WW p l e rmX5_serve s m args below meth c D T LH σ 12 (MQ below (postV D T LH σ post) args s 0 0 (fA LH σ)) 57 [(0, .ref (σ 73)), (1, .ref (σ 1)), (2, .int a2), (3, .int a3), (4, .int a4), (5, .int a5), (6, .int x6), (7, .int x7), (8, .long x8), (10, .int x10)] [] M := ⟨_, fun _ _ _ _ _ => Iff.rfl⟩
  have h := h R39 R57
  have z39 : ∀ x6 x7 M, qX5_serve_b39 a2 a3 a4 a5 post R39 R57 x6 x7 M → R39 x6 x7 M := by
    intro x6 x7 M h
    refine (e39 _ _ _).mpr (fun H locs ls hW hl => ?_)
    refine lv_iload S.1 S.2.1 dX5_serve_39 (lv_at hl 7 rfl) ?_
    refine lv_iload_n S.1 S.2.1 dX5_serve_41 rfl (lv_at hl 3 rfl) ?_
    refine lv_icmp_ge (tgt := 140) S.1 S.2.1 dX5_serve_42 (by decide) (fun c8 => ?_) (fun c8 => ?_)
    · have h := h.1 c8
      exact r_vret S hr hlk hW h dX5_serve_140
    · have h := h.2 c8
      refine lv_aload_n S.1 S.2.1 dX5_serve_45 rfl (lv_at hl 1 rfl) ?_
      refine lv_iload_n S.1 S.2.1 dX5_serve_46 rfl (lv_at hl 2 rfl) ?_
      refine lv_iload S.1 S.2.1 dX5_serve_47 (lv_at hl 7 rfl) ?_
      refine r_goL (r_runV (rest := []) S hW (mX4_at l D T σ M a2 x7 _ h) w35 rfl LH_1 rfl hl.1 rfl (Nat.le_of_ble_eq_true rfl) dX5_serve_49 ⟨Nat.zero_le _, Nat.zero_le _⟩) hW (fun r9 M10 H locs h hW => ?_)
      refine lv_lstore (lv' := [(8, .long r9), (0, .ref (σ 73)), (1, .ref (σ 1)), (2, .int a2), (3, .int a3), (4, .int a4), (5, .int a5), (6, .int x6), (7, .int x7)]) S.1 S.2.1 dX5_serve_52 hl (by decide) rfl (fun ls hl => ?_)
      refine lv_iconst (v := 0) S.1 S.2.1 dX5_serve_54 rfl ?_
      refine lv_istore (lv' := [(10, .int (0 : Int32)), (8, .long r9), (0, .ref (σ 73)), (1, .ref (σ 1)), (2, .int a2), (3, .int a3), (4, .int a4), (5, .int a5), (6, .int x6), (7, .int x7)]) S.1 S.2.1 dX5_serve_55 hl (by decide) rfl (fun ls hl => ?_)
      exact (e57 _ _ _ _ _).mp h H locs ls hW (lv_sub hl [2, 3, 4, 5, 6, 7, 8, 9, 1, 0] rfl)
  have z57 : ∀ x6 x7 x8 x10 M, qX5_serve_b57 a2 a3 a4 a5 post R39 R57 x6 x7 x8 x10 M → R57 x6 x7 x8 x10 M := by
    intro x6 x7 x8 x10 M h
    refine (e57 _ _ _ _ _).mpr (fun H locs ls hW hl => ?_)
    refine lv_iload S.1 S.2.1 dX5_serve_57 (lv_at hl 9 rfl) ?_
    refine lv_i2l S.1 S.2.1 dX5_serve_59 rfl ?_
    refine lv_lload S.1 S.2.1 dX5_serve_60 (lv_at hl 8 rfl) ?_
    refine W.lcmp S.1 S.2.1 dX5_serve_62 ?_
    refine lv_if_ge (tgt := 134) S.1 S.2.1 dX5_serve_63 (by decide) (fun c11 => ?_) (fun c11 => ?_)
    · have h := h.1 c11
      obtain ⟨v12, ev12⟩ : ∃ y : Int32, y = x7 + 1 := ⟨_, rfl⟩
      have h := h v12 ev12
      refine lv_iinc (v := v12) (lv' := [(7, .int v12), (0, .ref (σ 73)), (1, .ref (σ 1)), (2, .int a2), (3, .int a3), (4, .int a4), (5, .int a5), (6, .int x6), (8, .long x8), (10, .int x10)]) S.1 S.2.1 dX5_serve_134 hl (k := 7) rfl (by rw [ev12]; rfl) (by decide) rfl (fun ls hl => ?_)
      refine lv_goto (tgt := 39) S.1 S.2.1 dX5_serve_137 (by decide) ?_
      exact (e39 _ _ _).mp h H locs ls hW (lv_sub hl [1, 2, 3, 4, 5, 6, 7, 0] rfl)
    · have h := h.2 c11
      refine lv_iload S.1 S.2.1 dX5_serve_66 (lv_at hl 7 rfl) ?_
      refine lv_aload_n S.1 S.2.1 dX5_serve_68 rfl (lv_at hl 0 rfl) ?_
      refine r_getR (j := 5) S hW inX5 rfl f9 rfl LH_73 (by decide) rfl dX5_serve_69 ?_
      refine lv_iload S.1 S.2.1 dX5_serve_72 (lv_at hl 6 rfl) ?_
      have b13 := h.1
      have h := h.2
      refine r_iald S hW LH_74 b13 dX5_serve_74 ?_
      refine r_max S hl.1 l41 smax iMath omax (Nat.le_of_ble_eq_true rfl) (Nat.le_of_ble_eq_true rfl) (Nat.zero_le _) (Nat.zero_le _) dX5_serve_75 ?_
      refine lv_topi (fun v14 ev14 => ?_)
      have h := h v14 ev14
      refine lv_istore (lv' := [(11, .int v14), (0, .ref (σ 73)), (1, .ref (σ 1)), (2, .int a2), (3, .int a3), (4, .int a4), (5, .int a5), (6, .int x6), (7, .int x7), (8, .long x8), (10, .int x10)]) S.1 S.2.1 dX5_serve_78 hl (by decide) rfl (fun ls hl => ?_)
      refine lv_aload_n S.1 S.2.1 dX5_serve_80 rfl (lv_at hl 1 rfl) ?_
      refine lv_iload S.1 S.2.1 dX5_serve_81 (lv_at hl 0 rfl) ?_
      refine lv_iload S.1 S.2.1 dX5_serve_83 (lv_at hl 8 rfl) ?_
      refine lv_isub S.1 S.2.1 dX5_serve_85 ?_
      refine r_goV (r_runV (rest := []) S hW (mX5_note l D T σ M (v14 - x7) _ h) w47 rfl LH_73 rfl hl.1 rfl (Nat.le_of_ble_eq_true rfl) dX5_serve_86 ⟨Nat.zero_le _, Nat.zero_le _⟩) hW (fun M16 H locs h hW => ?_)
      refine lv_aload_n S.1 S.2.1 dX5_serve_89 rfl (lv_at hl 1 rfl) ?_
      refine lv_iload S.1 S.2.1 dX5_serve_90 (lv_at hl 0 rfl) ?_
      refine lv_iload S.1 S.2.1 dX5_serve_92 (lv_at hl 6 rfl) ?_
      refine lv_iadd S.1 S.2.1 dX5_serve_94 ?_
      refine r_putI (j := 4) S hW inX5 rfl f26 rfl LH_73 (by decide) rfl tyX5 tyX5_ok nmX5 rfl rfl rfl dX5_serve_95 (fun M17 H locs eM17 hW => ?_)
      have h := h M17 eM17
      refine lv_aload_n S.1 S.2.1 dX5_serve_98 rfl (lv_at hl 1 rfl) ?_
      refine r_getR (j := 5) S hW inX5 rfl f9 rfl LH_73 (by decide) rfl dX5_serve_99 ?_
      refine lv_iload S.1 S.2.1 dX5_serve_102 (lv_at hl 7 rfl) ?_
      refine lv_aload_n S.1 S.2.1 dX5_serve_104 rfl (lv_at hl 1 rfl) ?_
      refine r_getI (j := 4) S hW inX5 rfl f26 rfl LH_73 (by decide) rfl dX5_serve_105 ?_
      have b18 := h.1
      have h := h.2
      refine r_iast S hW LH_74 b18 dX5_serve_108 (fun M19 H locs eM19 hW => ?_)
      have h := h M19 eM19
      refine lv_iload S.1 S.2.1 dX5_serve_109 (lv_at hl 7 rfl) ?_
      refine lv_iconst (v := 1) S.1 S.2.1 dX5_serve_111 rfl ?_
      refine lv_iadd S.1 S.2.1 dX5_serve_112 ?_
      refine lv_iload S.1 S.2.1 dX5_serve_113 (lv_at hl 5 rfl) ?_
      refine lv_icmp_ge (tgt := 125) S.1 S.2.1 dX5_serve_115 (by decide) (fun c20 => ?_) (fun c20 => ?_)
      · have h := h.1 c20
        refine lv_iconst (v := 0) S.1 S.2.1 dX5_serve_125 rfl ?_
        refine lv_istore (lv' := [(6, .int (0 : Int32)), (11, .int v14), (0, .ref (σ 73)), (1, .ref (σ 1)), (2, .int a2), (3, .int a3), (4, .int a4), (5, .int a5), (7, .int x7), (8, .long x8), (10, .int x10)]) S.1 S.2.1 dX5_serve_126 hl (by decide) rfl (fun ls hl => ?_)
        obtain ⟨v21, ev21⟩ : ∃ y : Int32, y = x10 + 1 := ⟨_, rfl⟩
        have h := h v21 ev21
        refine lv_iinc (v := v21) (lv' := [(10, .int v21), (6, .int (0 : Int32)), (11, .int v14), (0, .ref (σ 73)), (1, .ref (σ 1)), (2, .int a2), (3, .int a3), (4, .int a4), (5, .int a5), (7, .int x7), (8, .long x8)]) S.1 S.2.1 dX5_serve_128 hl (k := 10) rfl (by rw [ev21]; rfl) (by decide) rfl (fun ls hl => ?_)
        refine lv_goto (tgt := 57) S.1 S.2.1 dX5_serve_131 (by decide) ?_
        exact (e57 _ _ _ _ _).mp h H locs ls hW (lv_sub hl [3, 4, 5, 6, 7, 8, 1, 9, 10, 0] rfl)
      · have h := h.2 c20
        refine lv_iload S.1 S.2.1 dX5_serve_118 (lv_at hl 7 rfl) ?_
        refine lv_iconst (v := 1) S.1 S.2.1 dX5_serve_120 rfl ?_
        refine lv_iadd S.1 S.2.1 dX5_serve_121 ?_
        refine lv_goto (tgt := 126) S.1 S.2.1 dX5_serve_122 (by decide) ?_
        refine lv_topi (fun v22 ev22 => ?_)
        have h := h v22 ev22
        refine lv_istore (lv' := [(6, .int v22), (11, .int v14), (0, .ref (σ 73)), (1, .ref (σ 1)), (2, .int a2), (3, .int a3), (4, .int a4), (5, .int a5), (7, .int x7), (8, .long x8), (10, .int x10)]) S.1 S.2.1 dX5_serve_126 hl (by decide) rfl (fun ls hl => ?_)
        obtain ⟨v23, ev23⟩ : ∃ y : Int32, y = x10 + 1 := ⟨_, rfl⟩
        have h := h v23 ev23
        refine lv_iinc (v := v23) (lv' := [(10, .int v23), (6, .int v22), (11, .int v14), (0, .ref (σ 73)), (1, .ref (σ 1)), (2, .int a2), (3, .int a3), (4, .int a4), (5, .int a5), (7, .int x7), (8, .long x8)]) S.1 S.2.1 dX5_serve_128 hl (k := 10) rfl (by rw [ev23]; rfl) (by decide) rfl (fun ls hl => ?_)
        refine lv_goto (tgt := 57) S.1 S.2.1 dX5_serve_131 (by decide) ?_
        exact (e57 _ _ _ _ _).mp h H locs ls hW (lv_sub hl [3, 4, 5, 6, 7, 8, 1, 9, 10, 0] rfl)
  have h := h z39 z57
  refine lv_aload_n S.1 S.2.1 dX5_serve_0 rfl (lv_at hl 0 rfl) ?_
  refine lv_iconst (v := 0) S.1 S.2.1 dX5_serve_1 rfl ?_
  refine r_putI (j := 0) S hW inX5 rfl f13 rfl LH_73 (by decide) rfl tyX5 tyX5_ok nmX5 rfl rfl rfl dX5_serve_2 (fun M1 H locs eM1 hW => ?_)
  have h := h M1 eM1
  refine lv_aload_n S.1 S.2.1 dX5_serve_5 rfl (lv_at hl 0 rfl) ?_
  refine lv_iconst (v := 0) S.1 S.2.1 dX5_serve_6 rfl ?_
  refine r_putI (j := 1) S hW inX5 rfl f17 rfl LH_73 (by decide) rfl tyX5 tyX5_ok nmX5 rfl rfl rfl dX5_serve_7 (fun M2 H locs eM2 hW => ?_)
  have h := h M2 eM2
  refine lv_aload_n S.1 S.2.1 dX5_serve_10 rfl (lv_at hl 0 rfl) ?_
  refine lv_iconst (v := 0) S.1 S.2.1 dX5_serve_11 rfl ?_
  refine r_putI (j := 2) S hW inX5 rfl f20 rfl LH_73 (by decide) rfl tyX5 tyX5_ok nmX5 rfl rfl rfl dX5_serve_12 (fun M3 H locs eM3 hW => ?_)
  have h := h M3 eM3
  refine lv_aload_n S.1 S.2.1 dX5_serve_15 rfl (lv_at hl 0 rfl) ?_
  refine lv_iconst (v := 0) S.1 S.2.1 dX5_serve_16 rfl ?_
  refine r_putI (j := 3) S hW inX5 rfl f23 rfl LH_73 (by decide) rfl tyX5 tyX5_ok nmX5 rfl rfl rfl dX5_serve_17 (fun M4 H locs eM4 hW => ?_)
  have h := h M4 eM4
  refine lv_aload_n S.1 S.2.1 dX5_serve_20 rfl (lv_at hl 0 rfl) ?_
  refine lv_iconst (v := 0) S.1 S.2.1 dX5_serve_21 rfl ?_
  refine r_putI (j := 4) S hW inX5 rfl f26 rfl LH_73 (by decide) rfl tyX5 tyX5_ok nmX5 rfl rfl rfl dX5_serve_22 (fun M5 H locs eM5 hW => ?_)
  have h := h M5 eM5
  refine lv_aload_n S.1 S.2.1 dX5_serve_25 rfl (lv_at hl 0 rfl) ?_
  refine r_getR (j := 5) S hW inX5 rfl f9 rfl LH_73 (by decide) rfl dX5_serve_26 ?_
  refine lv_iconst (v := 0) S.1 S.2.1 dX5_serve_29 rfl ?_
  refine r_goV (r_runS (rest := []) S hW (mJ7_fill_53178 l D T LH σ 74 LH_74  M5 (0 : Int32) _ h) w29 rfl hl.1 rfl (Nat.le_of_ble_eq_true rfl) dX5_serve_30 ⟨Nat.zero_le _, Nat.zero_le _⟩) hW (fun M7 H locs h hW => ?_)
  refine lv_iconst (v := 0) S.1 S.2.1 dX5_serve_33 rfl ?_
  refine lv_istore (lv' := [(6, .int (0 : Int32)), (0, .ref (σ 73)), (1, .ref (σ 1)), (2, .int a2), (3, .int a3), (4, .int a4), (5, .int a5)]) S.1 S.2.1 dX5_serve_34 hl (by decide) rfl (fun ls hl => ?_)
  refine lv_iconst (v := 0) S.1 S.2.1 dX5_serve_36 rfl ?_
  refine lv_istore (lv' := [(7, .int (0 : Int32)), (6, .int (0 : Int32)), (0, .ref (σ 73)), (1, .ref (σ 1)), (2, .int a2), (3, .int a3), (4, .int a4), (5, .int a5)]) S.1 S.2.1 dX5_serve_37 hl (by decide) rfl (fun ls hl => ?_)
  exact (e39 _ _ _).mp h H locs ls hW (lv_sub hl [2, 3, 4, 5, 6, 7, 1, 0] rfl)
abbrev rmX5_told : Room := { frames := 0, cells := 0, slots := 0, locals := 0 }
set_option maxHeartbeats 4000000 in
set_option maxRecDepth 100000 in
theorem mX5_told (l : Launch) (D : va_G) (T : Nat → ClassId) (σ : Nat → Nat) (M : Mem) (a1 : Int32) (post : Int32 → Mem → Prop) (h : qX5_told a1 M post) : Met l yX5_told wsX5_told rmX5_told (preW D T LH σ [.ref (σ 73), .int a1] M) (postI D T LH σ post) 0 0 (fA LH σ) := by
  refine m_of (cc := cX5_told) (maxL := 2) (ret := (some .int)) (own := RX5) (by decide) rfl rfl (Nat.le_of_ble_eq_true rfl) ?_
  intro p e s m args below meth c H ls locs S hr hlk hl hW
  have hl : lv_has ls 2 [(0, .ref (σ 73)), (1, .int a1)] := hl
  have inX5 : ∀ w ∈ u_ws RX5 TX5 6, w ∈ wsX5_told := by decide +kernel
  have f13 := S.2.2.2.2 (.fieldLink RX5 13 "MachineHall$Waiting" "greatest" "I") (by decide +kernel)
  have f17 := S.2.2.2.2 (.fieldLink RX5 17 "MachineHall$Waiting" "together" "I") (by decide +kernel)
  have f20 := S.2.2.2.2 (.fieldLink RX5 20 "MachineHall$Waiting" "came" "I") (by decide +kernel)
  have f23 := S.2.2.2.2 (.fieldLink RX5 23 "MachineHall$Waiting" "waited" "I") (by decide +kernel)
  have f26 := S.2.2.2.2 (.fieldLink RX5 26 "MachineHall$Waiting" "end" "I") (by decide +kernel)
  refine lv_iload_n S.1 S.2.1 dX5_told_0 rfl (lv_at hl 1 rfl) ?_
  refine r_ts S dX5_told_1 (by decide) (fun k off ho hx => ?_) (by decide) (by decide) (fun hx => ?_)
  · match k, ho with
    | 0, ho =>
      cases ho
      have h := h.1 hx
      refine lv_aload_n S.1 S.2.1 dX5_told_32 rfl (lv_at hl 0 rfl) ?_
      refine r_getI (j := 0) S hW inX5 rfl f13 rfl LH_73 (by decide) rfl dX5_told_33 ?_
      exact r_iret S hr hlk hW h dX5_told_36
    | 1, ho =>
      cases ho
      have h := h.2.1 hx
      refine lv_aload_n S.1 S.2.1 dX5_told_37 rfl (lv_at hl 0 rfl) ?_
      refine r_getI (j := 1) S hW inX5 rfl f17 rfl LH_73 (by decide) rfl dX5_told_38 ?_
      exact r_iret S hr hlk hW h dX5_told_41
    | 2, ho =>
      cases ho
      have h := h.2.2.1 hx
      refine lv_aload_n S.1 S.2.1 dX5_told_42 rfl (lv_at hl 0 rfl) ?_
      refine r_getI (j := 2) S hW inX5 rfl f20 rfl LH_73 (by decide) rfl dX5_told_43 ?_
      exact r_iret S hr hlk hW h dX5_told_46
    | 3, ho =>
      cases ho
      have h := h.2.2.2.1 hx
      refine lv_aload_n S.1 S.2.1 dX5_told_47 rfl (lv_at hl 0 rfl) ?_
      refine r_getI (j := 3) S hW inX5 rfl f23 rfl LH_73 (by decide) rfl dX5_told_48 ?_
      exact r_iret S hr hlk hW h dX5_told_51
    | k + 4, ho => simp at ho
  · have h := h.2.2.2.2 hx
    refine lv_aload_n S.1 S.2.1 dX5_told_52 rfl (lv_at hl 0 rfl) ?_
    refine r_getI (j := 4) S hW inX5 rfl f26 rfl LH_73 (by decide) rfl dX5_told_53 ?_
    exact r_iret S hr hlk hW h dX5_told_56
abbrev rmX2_want : Room := { frames := 1, cells := 0, slots := 0, locals := 22 }
set_option maxHeartbeats 4000000 in
set_option maxRecDepth 100000 in
theorem mX2_want (l : Launch) (D : va_G) (T : Nat → ClassId) (σ : Nat → Nat) (M : Mem) (a2 : Int32) (post : Mem → Prop) (h : qX2_want a2 M post) : Met l yX2_want wsX2_want rmX2_want (preW D T LH σ [.ref (σ 75), .ref (σ 1), .int a2] M) (postV D T LH σ post) 0 0 (fA LH σ) := by
  refine m_of (cc := cX2_want) (maxL := 4) (ret := none) (own := RX2) (by decide) rfl rfl (Nat.le_of_ble_eq_true rfl) ?_
  intro p e s m args below meth c H ls locs S hr hlk hl hW
  have hl : lv_has ls 4 [(0, .ref (σ 75)), (1, .ref (σ 1)), (2, .int a2)] := hl
  have inX2 : ∀ w ∈ u_ws RX2 TX2 12, w ∈ wsX2_want := by decide +kernel
  have f57 := S.2.2.2.2 (.fieldLink RX2 57 "MachineHall$Market" "solved" "Z") (by decide +kernel)
  have f16 := S.2.2.2.2 (.fieldLink RX2 16 "MachineHall$Market" "wants" "[I") (by decide +kernel)
  have w51 := cwV (R := rmX2_want) (rm := rmX4_at) (mc := 0) (ms := 0) 2 S.2.2.2.2 gX2_want_X4_at rfl rfl rfl (by decide +kernel) ⟨Nat.le_of_ble_eq_true rfl, Nat.le_of_ble_eq_true rfl⟩
  obtain ⟨R2, e2⟩ : ∃ R : Int32 → Mem → Prop, ∀ x3 M, R x3 M ↔ WW p l e rmX2_want s m args below meth c D T LH σ 4 (MQ below (postV D T LH σ post) args s 0 0 (fA LH σ)) 2 [(0, .ref (σ 75)), (1, .ref (σ 1)), (2, .int a2), (3, .int x3)] [] M := ⟨_, fun _ _ => Iff.rfl⟩
  have h := h R2
  have z2 : ∀ x3 M, qX2_want_b2 a2 post R2 x3 M → R2 x3 M := by
    intro x3 M h
    refine (e2 _ _).mpr (fun H locs ls hW hl => ?_)
    refine lv_iload_n S.1 S.2.1 dX2_want_2 rfl (lv_at hl 3 rfl) ?_
    refine lv_bipush (v := 12) S.1 S.2.1 dX2_want_3 rfl ?_
    refine lv_icmp_ge (tgt := 27) S.1 S.2.1 dX2_want_5 (by decide) (fun c1 => ?_) (fun c1 => ?_)
    · have h := h.1 c1
      refine lv_aload_n S.1 S.2.1 dX2_want_27 rfl (lv_at hl 0 rfl) ?_
      refine lv_iconst (v := 0) S.1 S.2.1 dX2_want_28 rfl ?_
      refine r_putI (j := 11) S hW inX2 rfl f57 rfl LH_75 (by decide) rfl tyX2 tyX2_ok nmX2 rfl rfl rfl dX2_want_29 (fun M2 H locs eM2 hW => ?_)
      have h := h M2 eM2
      exact r_vret S hr hlk hW h dX2_want_32
    · have h := h.2 c1
      refine lv_aload_n S.1 S.2.1 dX2_want_8 rfl (lv_at hl 0 rfl) ?_
      refine r_getR (j := 4) S hW inX2 rfl f16 rfl LH_75 (by decide) rfl dX2_want_9 ?_
      refine lv_iload_n S.1 S.2.1 dX2_want_12 rfl (lv_at hl 3 rfl) ?_
      refine lv_aload_n S.1 S.2.1 dX2_want_13 rfl (lv_at hl 1 rfl) ?_
      refine lv_iload_n S.1 S.2.1 dX2_want_14 rfl (lv_at hl 2 rfl) ?_
      refine lv_iload_n S.1 S.2.1 dX2_want_15 rfl (lv_at hl 3 rfl) ?_
      refine r_goL (r_runV (rest := [.int x3, .ref (σ 89)]) S hW (mX4_at l D T σ M a2 x3 _ h) w51 rfl LH_1 rfl hl.1 rfl (Nat.le_of_ble_eq_true rfl) dX2_want_16 ⟨Nat.zero_le _, Nat.zero_le _⟩) hW (fun r3 M4 H locs h hW => ?_)
      refine lv_l2i S.1 S.2.1 dX2_want_19 rfl ?_
      have b5 := h.1
      have h := h.2
      refine r_iast S hW LH_89 b5 dX2_want_20 (fun M6 H locs eM6 hW => ?_)
      have h := h M6 eM6
      obtain ⟨v7, ev7⟩ : ∃ y : Int32, y = x3 + 1 := ⟨_, rfl⟩
      have h := h v7 ev7
      refine lv_iinc (v := v7) (lv' := [(3, .int v7), (0, .ref (σ 75)), (1, .ref (σ 1)), (2, .int a2)]) S.1 S.2.1 dX2_want_21 hl (k := 3) rfl (by rw [ev7]; rfl) (by decide) rfl (fun ls hl => ?_)
      refine lv_goto (tgt := 2) S.1 S.2.1 dX2_want_24 (by decide) ?_
      exact (e2 _ _).mp h H locs ls hW (lv_sub hl [1, 2, 3, 0] rfl)
  have h := h z2
  refine lv_iconst (v := 0) S.1 S.2.1 dX2_want_0 rfl ?_
  refine lv_istore_n (lv' := [(3, .int (0 : Int32)), (0, .ref (σ 75)), (1, .ref (σ 1)), (2, .int a2)]) S.1 S.2.1 dX2_want_1 rfl hl (by decide) rfl (fun ls hl => ?_)
  exact (e2 _ _).mp h H locs ls hW (lv_sub hl [1, 2, 3, 0] rfl)
abbrev rmX2_own : Room := { frames := 0, cells := 0, slots := 0, locals := 0 }
set_option maxHeartbeats 4000000 in
set_option maxRecDepth 100000 in
theorem mX2_own (l : Launch) (D : va_G) (T : Nat → ClassId) (σ : Nat → Nat) (M : Mem) (a1 : Int32) (post : Mem → Prop) (h : qX2_own a1 M post) : Met l yX2_own wsX2_own rmX2_own (preW D T LH σ [.ref (σ 75), .int a1] M) (postV D T LH σ post) 0 0 (fA LH σ) := by
  refine m_of (cc := cX2_own) (maxL := 2) (ret := none) (own := RX2) (by decide) rfl rfl (Nat.le_of_ble_eq_true rfl) ?_
  intro p e s m args below meth c H ls locs S hr hlk hl hW
  have hl : lv_has ls 2 [(0, .ref (σ 75)), (1, .int a1)] := hl
  have inX2 : ∀ w ∈ u_ws RX2 TX2 12, w ∈ wsX2_own := by decide +kernel
  have f61 := S.2.2.2.2 (.fieldLink RX2 61 "MachineHall$Market" "owned" "I") (by decide +kernel)
  have f57 := S.2.2.2.2 (.fieldLink RX2 57 "MachineHall$Market" "solved" "Z") (by decide +kernel)
  refine lv_aload_n S.1 S.2.1 dX2_own_0 rfl (lv_at hl 0 rfl) ?_
  refine lv_iload_n S.1 S.2.1 dX2_own_1 rfl (lv_at hl 1 rfl) ?_
  refine r_putI (j := 3) S hW inX2 rfl f61 rfl LH_75 (by decide) rfl tyX2 tyX2_ok nmX2 rfl rfl rfl dX2_own_2 (fun M1 H locs eM1 hW => ?_)
  have h := h M1 eM1
  refine lv_aload_n S.1 S.2.1 dX2_own_5 rfl (lv_at hl 0 rfl) ?_
  refine lv_iconst (v := 0) S.1 S.2.1 dX2_own_6 rfl ?_
  refine r_putI (j := 11) S hW inX2 rfl f57 rfl LH_75 (by decide) rfl tyX2 tyX2_ok nmX2 rfl rfl rfl dX2_own_7 (fun M2 H locs eM2 hW => ?_)
  have h := h M2 eM2
  exact r_vret S hr hlk hW h dX2_own_10
abbrev rmX2_addType : Room := { frames := 1, cells := 0, slots := 0, locals := 22 }
set_option maxHeartbeats 4000000 in
set_option maxRecDepth 100000 in
theorem mX2_addType (l : Launch) (D : va_G) (T : Nat → ClassId) (σ : Nat → Nat) (M : Mem) (a1 : Int32) (a2 : Int32) (a3 : Int32) (a5 : Int32) (post : Int32 → Mem → Prop) (h : qX2_addType a1 a2 a3 a5 M post) : Met l yX2_addType wsX2_addType rmX2_addType (preW D T LH σ [.ref (σ 75), .int a1, .int a2, .int a3, .ref (σ 1), .int a5] M) (postI D T LH σ post) 0 0 (fA LH σ) := by
  refine m_of (cc := cX2_addType) (maxL := 8) (ret := (some .int)) (own := RX2) (by decide) rfl rfl (Nat.le_of_ble_eq_true rfl) ?_
  intro p e s m args below meth c H ls locs S hr hlk hl hW
  have hl : lv_has ls 8 [(0, .ref (σ 75)), (1, .int a1), (2, .int a2), (3, .int a3), (4, .ref (σ 1)), (5, .int a5)] := hl
  have inX2 : ∀ w ∈ u_ws RX2 TX2 12, w ∈ wsX2_addType := by decide +kernel
  have f39 := S.2.2.2.2 (.fieldLink RX2 39 "MachineHall$Market" "types" "I") (by decide +kernel)
  have f20 := S.2.2.2.2 (.fieldLink RX2 20 "MachineHall$Market" "sizes" "[I") (by decide +kernel)
  have f23 := S.2.2.2.2 (.fieldLink RX2 23 "MachineHall$Market" "leads" "[I") (by decide +kernel)
  have f26 := S.2.2.2.2 (.fieldLink RX2 26 "MachineHall$Market" "powers" "[I") (by decide +kernel)
  have f57 := S.2.2.2.2 (.fieldLink RX2 57 "MachineHall$Market" "solved" "Z") (by decide +kernel)
  have f29 := S.2.2.2.2 (.fieldLink RX2 29 "MachineHall$Market" "prices" "[[I") (by decide +kernel)
  have w51 := cwV (R := rmX2_addType) (rm := rmX4_at) (mc := 0) (ms := 0) 2 S.2.2.2.2 gX2_addType_X4_at rfl rfl rfl (by decide +kernel) ⟨Nat.le_of_ble_eq_true rfl, Nat.le_of_ble_eq_true rfl⟩
  obtain ⟨R40, e40⟩ : ∃ R : Int32 → Int32 → Mem → Prop, ∀ x6 x7 M, R x6 x7 M ↔ WW p l e rmX2_addType s m args below meth c D T LH σ 8 (MQ below (postI D T LH σ post) args s 0 0 (fA LH σ)) 40 [(0, .ref (σ 75)), (4, .ref (σ 1)), (5, .int a5), (6, .int x6), (7, .int x7)] [] M := ⟨_, fun _ _ _ => Iff.rfl⟩
  have h := h R40
  have z40 : ∀ x6 x7 M, qX2_addType_b40 a1 a2 a3 a5 post R40 x6 x7 M → R40 x6 x7 M := by
    intro x6 x7 M h
    refine (e40 _ _ _).mpr (fun H locs ls hW hl => ?_)
    refine lv_iload S.1 S.2.1 dX2_addType_40 (lv_at hl 4 rfl) ?_
    refine lv_bipush (v := 12) S.1 S.2.1 dX2_addType_42 rfl ?_
    refine lv_icmp_ge (tgt := 73) S.1 S.2.1 dX2_addType_44 (by decide) (fun c9 => ?_) (fun c9 => ?_)
    · have h := h.1 c9
      refine lv_aload_n S.1 S.2.1 dX2_addType_73 rfl (lv_at hl 0 rfl) ?_
      refine lv_iconst (v := 0) S.1 S.2.1 dX2_addType_74 rfl ?_
      refine r_putI (j := 11) S hW inX2 rfl f57 rfl LH_75 (by decide) rfl tyX2 tyX2_ok nmX2 rfl rfl rfl dX2_addType_75 (fun M10 H locs eM10 hW => ?_)
      have h := h M10 eM10
      refine lv_iload S.1 S.2.1 dX2_addType_78 (lv_at hl 3 rfl) ?_
      exact r_iret S hr hlk hW h dX2_addType_80
    · have h := h.2 c9
      refine lv_aload_n S.1 S.2.1 dX2_addType_47 rfl (lv_at hl 0 rfl) ?_
      refine r_getR (j := 8) S hW inX2 rfl f29 rfl LH_75 (by decide) rfl dX2_addType_48 ?_
      refine lv_iload S.1 S.2.1 dX2_addType_51 (lv_at hl 3 rfl) ?_
      have b11 := h.1
      have h := h.2
      refine r_aald (t := 0) S hW LH_93 (by decide) b11 dX2_addType_53 ?_
      refine lv_iload S.1 S.2.1 dX2_addType_54 (lv_at hl 4 rfl) ?_
      refine lv_aload S.1 S.2.1 dX2_addType_56 (lv_at hl 1 rfl) ?_
      refine lv_iload S.1 S.2.1 dX2_addType_58 (lv_at hl 2 rfl) ?_
      refine lv_iload S.1 S.2.1 dX2_addType_60 (lv_at hl 4 rfl) ?_
      refine r_goL (r_runV (rest := [.int x7, .ref (σ (94 + x6.toNatClampNeg))]) S hW (mX4_at l D T σ M a5 x7 _ h) w51 rfl LH_1 rfl hl.1 rfl (Nat.le_of_ble_eq_true rfl) dX2_addType_62 ⟨Nat.zero_le _, Nat.zero_le _⟩) hW (fun r12 M13 H locs h hW => ?_)
      refine lv_l2i S.1 S.2.1 dX2_addType_65 rfl ?_
      have b14 := h.1
      have h := h.2
      refine r_iast S hW (LHr_93 (vp_lt b11)) b14 dX2_addType_66 (fun M15 H locs eM15 hW => ?_)
      have h := h M15 eM15
      obtain ⟨v16, ev16⟩ : ∃ y : Int32, y = x7 + 1 := ⟨_, rfl⟩
      have h := h v16 ev16
      refine lv_iinc (v := v16) (lv' := [(7, .int v16), (0, .ref (σ 75)), (4, .ref (σ 1)), (5, .int a5), (6, .int x6)]) S.1 S.2.1 dX2_addType_67 hl (k := 4) rfl (by rw [ev16]; rfl) (by decide) rfl (fun ls hl => ?_)
      refine lv_goto (tgt := 40) S.1 S.2.1 dX2_addType_70 (by decide) ?_
      exact (e40 _ _ _).mp h H locs ls hW (lv_sub hl [1, 2, 3, 4, 0] rfl)
  have h := h z40
  refine lv_aload_n S.1 S.2.1 dX2_addType_0 rfl (lv_at hl 0 rfl) ?_
  refine lv_dup S.1 S.2.1 dX2_addType_1 rfl ?_
  refine r_getI (j := 0) S hW inX2 rfl f39 rfl LH_75 (by decide) rfl dX2_addType_2 ?_
  refine lv_dup_x1 S.1 S.2.1 dX2_addType_5 rfl rfl ?_
  refine lv_iconst (v := 1) S.1 S.2.1 dX2_addType_6 rfl ?_
  refine lv_iadd S.1 S.2.1 dX2_addType_7 ?_
  refine r_putI (j := 0) S hW inX2 rfl f39 rfl LH_75 (by decide) rfl tyX2 tyX2_ok nmX2 rfl rfl rfl dX2_addType_8 (fun M1 H locs eM1 hW => ?_)
  have h := h M1 eM1
  refine lv_topi (fun v2 ev2 => ?_)
  have h := h v2 ev2
  refine lv_istore (lv' := [(6, .int v2), (0, .ref (σ 75)), (1, .int a1), (2, .int a2), (3, .int a3), (4, .ref (σ 1)), (5, .int a5)]) S.1 S.2.1 dX2_addType_11 hl (by decide) rfl (fun ls hl => ?_)
  refine lv_aload_n S.1 S.2.1 dX2_addType_13 rfl (lv_at hl 1 rfl) ?_
  refine r_getR (j := 5) S hW inX2 rfl f20 rfl LH_75 (by decide) rfl dX2_addType_14 ?_
  refine lv_iload S.1 S.2.1 dX2_addType_17 (lv_at hl 0 rfl) ?_
  refine lv_iload_n S.1 S.2.1 dX2_addType_19 rfl (lv_at hl 2 rfl) ?_
  have b3 := h.1
  have h := h.2
  refine r_iast S hW LH_90 b3 dX2_addType_20 (fun M4 H locs eM4 hW => ?_)
  have h := h M4 eM4
  refine lv_aload_n S.1 S.2.1 dX2_addType_21 rfl (lv_at hl 1 rfl) ?_
  refine r_getR (j := 6) S hW inX2 rfl f23 rfl LH_75 (by decide) rfl dX2_addType_22 ?_
  refine lv_iload S.1 S.2.1 dX2_addType_25 (lv_at hl 0 rfl) ?_
  refine lv_iload_n S.1 S.2.1 dX2_addType_27 rfl (lv_at hl 3 rfl) ?_
  have b5 := h.1
  have h := h.2
  refine r_iast S hW LH_91 b5 dX2_addType_28 (fun M6 H locs eM6 hW => ?_)
  have h := h M6 eM6
  refine lv_aload_n S.1 S.2.1 dX2_addType_29 rfl (lv_at hl 1 rfl) ?_
  refine r_getR (j := 7) S hW inX2 rfl f26 rfl LH_75 (by decide) rfl dX2_addType_30 ?_
  refine lv_iload S.1 S.2.1 dX2_addType_33 (lv_at hl 0 rfl) ?_
  refine lv_iload_n S.1 S.2.1 dX2_addType_35 rfl (lv_at hl 4 rfl) ?_
  have b7 := h.1
  have h := h.2
  refine r_iast S hW LH_92 b7 dX2_addType_36 (fun M8 H locs eM8 hW => ?_)
  have h := h M8 eM8
  refine lv_iconst (v := 0) S.1 S.2.1 dX2_addType_37 rfl ?_
  refine lv_istore (lv' := [(7, .int (0 : Int32)), (6, .int v2), (0, .ref (σ 75)), (1, .int a1), (2, .int a2), (3, .int a3), (4, .ref (σ 1)), (5, .int a5)]) S.1 S.2.1 dX2_addType_38 hl (by decide) rfl (fun ls hl => ?_)
  exact (e40 _ _ _).mp h H locs ls hW (lv_sub hl [2, 6, 7, 1, 0] rfl)
abbrev rmJ7_rangeCheck_23922 : Room := { frames := 0, cells := 0, slots := 0, locals := 0 }
set_option maxHeartbeats 4000000 in
set_option maxRecDepth 100000 in
theorem mJ7_rangeCheck_23922 (l : Launch) (D : va_G) (T : Nat → ClassId) (L : Lay) (σ : Nat → Nat) (M : Mem) (a0 : Int32) (a1 : Int32) (a2 : Int32) (post : Mem → Prop) (h : qJ7_rangeCheck_23922 a0 a1 a2 M post) : Met l yJ7_rangeCheck_23922 wsJ7_rangeCheck_23922 rmJ7_rangeCheck_23922 (preW D T L σ [.int a0, .int a1, .int a2] M) (postV D T L σ post) 0 0 (fA L σ) := by
  refine m_of (cc := cJ7_rangeCheck_23922) (maxL := 3) (ret := none) (own := RJ7) (by decide) rfl rfl (Nat.le_of_ble_eq_true rfl) ?_
  intro p e s m args below meth c H ls locs S hr hlk hl hW
  have hl : lv_has ls 3 [(0, .int a0), (1, .int a1), (2, .int a2)] := hl
  refine lv_iload_n S.1 S.2.1 dJ7_rangeCheck_23922_0 rfl (lv_at hl 1 rfl) ?_
  refine lv_iload_n S.1 S.2.1 dJ7_rangeCheck_23922_1 rfl (lv_at hl 2 rfl) ?_
  refine lv_icmp_le (tgt := 46) S.1 S.2.1 dJ7_rangeCheck_23922_2 (by decide) (fun c1 => ?_) (fun c1 => ?_)
  · have h := h.1 c1
    refine lv_iload_n S.1 S.2.1 dJ7_rangeCheck_23922_46 rfl (lv_at hl 1 rfl) ?_
    refine lv_if_ge (tgt := 59) S.1 S.2.1 dJ7_rangeCheck_23922_47 (by decide) (fun c2 => ?_) (fun c2 => ?_)
    · have h := h.1 c2
      refine lv_iload_n S.1 S.2.1 dJ7_rangeCheck_23922_59 rfl (lv_at hl 2 rfl) ?_
      refine lv_iload_n S.1 S.2.1 dJ7_rangeCheck_23922_60 rfl (lv_at hl 0 rfl) ?_
      refine lv_icmp_le (tgt := 73) S.1 S.2.1 dJ7_rangeCheck_23922_61 (by decide) (fun c3 => ?_) (fun c3 => ?_)
      · have h := h.1 c3
        exact r_vret S hr hlk hW h dJ7_rangeCheck_23922_73
      · have h := h.2 c3
        exact h.elim
    · have h := h.2 c2
      exact h.elim
  · have h := h.2 c1
    exact h.elim
abbrev rmJ7_fill_fda19 : Room := { frames := 1, cells := 0, slots := 0, locals := 22 }
set_option maxHeartbeats 4000000 in
set_option maxRecDepth 100000 in
theorem mJ7_fill_fda19 (l : Launch) (D : va_G) (T : Nat → ClassId) (L : Lay) (σ : Nat → Nat) (k : Nat) {n b : Nat} {sl : List (Option Nat)} (hk : L[k]? = some (1, n, b, sl)) (M : Mem) (a1 : Int32) (a2 : Int32) (a3 : Int32) (post : Mem → Prop) (h : qJ7_fill_fda19 k n a1 a2 a3 M post) : Met l yJ7_fill_fda19 wsJ7_fill_fda19 rmJ7_fill_fda19 (preW D T L σ [.ref (σ k), .int a1, .int a2, .int a3] M) (postV D T L σ post) 0 0 (fA L σ) := by
  refine m_of (cc := cJ7_fill_fda19) (maxL := 5) (ret := none) (own := RJ7) (by decide) rfl rfl (Nat.le_of_ble_eq_true rfl) ?_
  intro p e s m args below meth c H ls locs S hr hlk hl hW
  have hl : lv_has ls 5 [(0, .ref (σ k)), (1, .int a1), (2, .int a2), (3, .int a3)] := hl
  have w13 := va_cwS (R := rmJ7_fill_fda19) (rm := rmJ7_rangeCheck_23922) (mc := 0) (ms := 0) 3 S.2.2.2.2 gJ7_fill_fda19_J7_rangeCheck_23922 rfl rfl rfl (by decide +kernel) ⟨Nat.le_of_ble_eq_true rfl, Nat.le_of_ble_eq_true rfl⟩
  obtain ⟨R10, e10⟩ : ∃ R : Int32 → Mem → Prop, ∀ x4 M, R x4 M ↔ WW p l e rmJ7_fill_fda19 s m args below meth c D T L σ 5 (MQ below (postV D T L σ post) args s 0 0 (fA L σ)) 10 [(0, .ref (σ k)), (2, .int a2), (3, .int a3), (4, .int x4)] [] M := ⟨_, fun _ _ => Iff.rfl⟩
  have h := h R10
  have z10 : ∀ x4 M, qJ7_fill_fda19_b10 k n a1 a2 a3 post R10 x4 M → R10 x4 M := by
    intro x4 M h
    refine (e10 _ _).mpr (fun H locs ls hW hl => ?_)
    refine lv_iload S.1 S.2.1 dJ7_fill_fda19_10 (lv_at hl 3 rfl) ?_
    refine lv_iload_n S.1 S.2.1 dJ7_fill_fda19_12 rfl (lv_at hl 1 rfl) ?_
    refine lv_icmp_ge (tgt := 27) S.1 S.2.1 dJ7_fill_fda19_13 (by decide) (fun c3 => ?_) (fun c3 => ?_)
    · have h := h.1 c3
      exact r_vret S hr hlk hW h dJ7_fill_fda19_27
    · have h := h.2 c3
      refine lv_aload_n S.1 S.2.1 dJ7_fill_fda19_16 rfl (lv_at hl 0 rfl) ?_
      refine lv_iload S.1 S.2.1 dJ7_fill_fda19_17 (lv_at hl 3 rfl) ?_
      refine lv_iload_n S.1 S.2.1 dJ7_fill_fda19_19 rfl (lv_at hl 2 rfl) ?_
      have b4 := h.1
      have h := h.2
      refine r_iast S hW hk b4 dJ7_fill_fda19_20 (fun M5 H locs eM5 hW => ?_)
      have h := h M5 eM5
      obtain ⟨v6, ev6⟩ : ∃ y : Int32, y = x4 + 1 := ⟨_, rfl⟩
      have h := h v6 ev6
      refine lv_iinc (v := v6) (lv' := [(4, .int v6), (0, .ref (σ k)), (2, .int a2), (3, .int a3)]) S.1 S.2.1 dJ7_fill_fda19_21 hl (k := 3) rfl (by rw [ev6]; rfl) (by decide) rfl (fun ls hl => ?_)
      refine lv_goto (tgt := 10) S.1 S.2.1 dJ7_fill_fda19_24 (by decide) ?_
      exact (e10 _ _).mp h H locs ls hW (lv_sub hl [1, 2, 3, 0] rfl)
  have h := h z10
  refine lv_aload_n S.1 S.2.1 dJ7_fill_fda19_0 rfl (lv_at hl 0 rfl) ?_
  refine r_alenI S hW hk dJ7_fill_fda19_1 ?_
  refine lv_iload_n S.1 S.2.1 dJ7_fill_fda19_2 rfl (lv_at hl 1 rfl) ?_
  refine lv_iload_n S.1 S.2.1 dJ7_fill_fda19_3 rfl (lv_at hl 2 rfl) ?_
  refine r_goV (r_runS (rest := []) S hW (mJ7_rangeCheck_23922 l D T L σ M (nI n) a1 a2 _ h) w13 rfl hl.1 rfl (Nat.le_of_ble_eq_true rfl) dJ7_fill_fda19_4 ⟨Nat.zero_le _, Nat.zero_le _⟩) hW (fun M2 H locs h hW => ?_)
  refine lv_iload_n S.1 S.2.1 dJ7_fill_fda19_7 rfl (lv_at hl 1 rfl) ?_
  refine lv_istore (lv' := [(4, .int a1), (0, .ref (σ k)), (1, .int a1), (2, .int a2), (3, .int a3)]) S.1 S.2.1 dJ7_fill_fda19_8 hl (by decide) rfl (fun ls hl => ?_)
  exact (e10 _ _).mp h H locs ls hW (lv_sub hl [1, 3, 4, 0] rfl)
abbrev rmX2_word : Room := { frames := 0, cells := 0, slots := 0, locals := 0 }
set_option maxHeartbeats 4000000 in
set_option maxRecDepth 100000 in
theorem mX2_word (l : Launch) (D : va_G) (T : Nat → ClassId) (σ : Nat → Nat) (M : Mem) (a0 : Int32) (a1 : Int32) (a2 : Int32) (post : Int32 → Mem → Prop) (h : qX2_word a0 a1 a2 M post) : Met l yX2_word wsX2_word rmX2_word (preW D T LH σ [.int a0, .int a1, .int a2] M) (postI D T LH σ post) 0 0 (fA LH σ) := by
  refine m_of (cc := cX2_word) (maxL := 3) (ret := (some .int)) (own := RX2) (by decide) rfl rfl (Nat.le_of_ble_eq_true rfl) ?_
  intro p e s m args below meth c H ls locs S hr hlk hl hW
  have hl : lv_has ls 3 [(0, .int a0), (1, .int a1), (2, .int a2)] := hl
  refine lv_iload_n S.1 S.2.1 dX2_word_0 rfl (lv_at hl 0 rfl) ?_
  refine lv_iconst (v := 4) S.1 S.2.1 dX2_word_1 rfl ?_
  refine lv_imul S.1 S.2.1 dX2_word_2 ?_
  refine lv_iload_n S.1 S.2.1 dX2_word_3 rfl (lv_at hl 1 rfl) ?_
  refine lv_iadd S.1 S.2.1 dX2_word_4 ?_
  refine lv_bipush (v := 8) S.1 S.2.1 dX2_word_5 rfl ?_
  refine lv_imul S.1 S.2.1 dX2_word_7 ?_
  refine lv_iload_n S.1 S.2.1 dX2_word_8 rfl (lv_at hl 2 rfl) ?_
  refine lv_bipush (v := 6) S.1 S.2.1 dX2_word_9 rfl ?_
  refine lv_ishr S.1 S.2.1 dX2_word_11 ?_
  refine lv_iadd S.1 S.2.1 dX2_word_12 ?_
  exact r_iret S hr hlk hW h dX2_word_13
abbrev rmX2_offer : Room := { frames := 1, cells := 0, slots := 0, locals := 23 }
set_option maxHeartbeats 4000000 in
set_option maxRecDepth 100000 in
theorem mX2_offer (l : Launch) (D : va_G) (T : Nat → ClassId) (σ : Nat → Nat) (M : Mem) (a1 : Int32) (a2 : Int32) (post : Mem → Prop) (h : qX2_offer a1 a2 M post) : Met l yX2_offer wsX2_offer rmX2_offer (preW D T LH σ [.ref (σ 75), .int a1, .int a2] M) (postV D T LH σ post) 0 0 (fA LH σ) := by
  refine m_of (cc := cX2_offer) (maxL := 6) (ret := none) (own := RX2) (by decide) rfl rfl (Nat.le_of_ble_eq_true rfl) ?_
  intro p e s m args below meth c H ls locs S hr hlk hl hW
  have hl : lv_has ls 6 [(0, .ref (σ 75)), (1, .int a1), (2, .int a2)] := hl
  have inX2 : ∀ w ∈ u_ws RX2 TX2 12, w ∈ wsX2_offer := by decide +kernel
  have f29 := S.2.2.2.2 (.fieldLink RX2 29 "MachineHall$Market" "prices" "[[I") (by decide +kernel)
  have f23 := S.2.2.2.2 (.fieldLink RX2 23 "MachineHall$Market" "leads" "[I") (by decide +kernel)
  have f26 := S.2.2.2.2 (.fieldLink RX2 26 "MachineHall$Market" "powers" "[I") (by decide +kernel)
  have f32 := S.2.2.2.2 (.fieldLink RX2 32 "MachineHall$Market" "toPay" "[I") (by decide +kernel)
  have f20 := S.2.2.2.2 (.fieldLink RX2 20 "MachineHall$Market" "sizes" "[I") (by decide +kernel)
  have l87 := S.2.2.2.2 (.methodLink RX2 87 Lib.Math.min.name) (by decide +kernel)
  have smin := S.2.2.2.2 (.static Lib.Math.min.name) (by decide +kernel)
  have omin := S.2.2.2.2 (.code Lib.Math.min.name Lib.Math.min.code 2 (some .int)) (by decide +kernel)
  have iMath := S.2.2.2.2 (.initialized "java/lang/Math") (by decide +kernel)
  have f35 := S.2.2.2.2 (.fieldLink RX2 35 "MachineHall$Market" "oneMore" "[J") (by decide +kernel)
  have w93 := va_cwS (R := rmX2_offer) (rm := rmX2_word) (mc := 0) (ms := 0) 3 S.2.2.2.2 gX2_offer_X2_word rfl rfl rfl (by decide +kernel) ⟨Nat.le_of_ble_eq_true rfl, Nat.le_of_ble_eq_true rfl⟩
  obtain ⟨R33, e33⟩ : ∃ R : Int32 → Int32 → Mem → Prop, ∀ x3 x4 M, R x3 x4 M ↔ WW p l e rmX2_offer s m args below meth c D T LH σ 6 (MQ below (postV D T LH σ post) args s 0 0 (fA LH σ)) 33 [(0, .ref (σ 75)), (1, .int a1), (2, .int a2), (3, .int x3), (4, .int x4)] [] M := ⟨_, fun _ _ _ => Iff.rfl⟩
  have h := h R33
  have z33 : ∀ x3 x4 M, qX2_offer_b33 a1 a2 post R33 x3 x4 M → R33 x3 x4 M := by
    intro x3 x4 M h
    refine (e33 _ _ _).mpr (fun H locs ls hW hl => ?_)
    refine lv_iload S.1 S.2.1 dX2_offer_33 (lv_at hl 4 rfl) ?_
    refine lv_if_lt (tgt := 111) S.1 S.2.1 dX2_offer_35 (by decide) (fun c6 => ?_) (fun c6 => ?_)
    · have h := h.1 c6
      exact r_vret S hr hlk hW h dX2_offer_111
    · have h := h.2 c6
      refine lv_iload_n S.1 S.2.1 dX2_offer_38 rfl (lv_at hl 3 rfl) ?_
      refine lv_aload_n S.1 S.2.1 dX2_offer_39 rfl (lv_at hl 0 rfl) ?_
      refine r_getR (j := 9) S hW inX2 rfl f32 rfl LH_75 (by decide) rfl dX2_offer_40 ?_
      refine lv_sipush (v := 500) S.1 S.2.1 dX2_offer_43 rfl ?_
      refine lv_iload S.1 S.2.1 dX2_offer_46 (lv_at hl 4 rfl) ?_
      refine lv_aload_n S.1 S.2.1 dX2_offer_48 rfl (lv_at hl 0 rfl) ?_
      refine r_getR (j := 5) S hW inX2 rfl f20 rfl LH_75 (by decide) rfl dX2_offer_49 ?_
      refine lv_iload_n S.1 S.2.1 dX2_offer_52 rfl (lv_at hl 2 rfl) ?_
      have b7 := h.1
      have h := h.2
      refine r_iald S hW LH_90 b7 dX2_offer_53 ?_
      refine lv_iadd S.1 S.2.1 dX2_offer_54 ?_
      refine r_min S hl.1 l87 smin iMath omin (Nat.le_of_ble_eq_true rfl) (Nat.le_of_ble_eq_true rfl) (Nat.zero_le _) (Nat.zero_le _) dX2_offer_55 ?_
      have b8 := h.1
      have h := h.2
      refine r_iald S hW LH_98 b8 dX2_offer_58 ?_
      refine lv_iadd S.1 S.2.1 dX2_offer_59 ?_
      refine lv_topi (fun v9 ev9 => ?_)
      have h := h v9 ev9
      refine lv_istore (lv' := [(5, .int v9), (0, .ref (σ 75)), (1, .int a1), (2, .int a2), (3, .int x3), (4, .int x4)]) S.1 S.2.1 dX2_offer_60 hl (by decide) rfl (fun ls hl => ?_)
      refine lv_iload S.1 S.2.1 dX2_offer_62 (lv_at hl 0 rfl) ?_
      refine lv_aload_n S.1 S.2.1 dX2_offer_64 rfl (lv_at hl 1 rfl) ?_
      refine r_getR (j := 9) S hW inX2 rfl f32 rfl LH_75 (by decide) rfl dX2_offer_65 ?_
      refine lv_iload S.1 S.2.1 dX2_offer_68 (lv_at hl 5 rfl) ?_
      have b10 := h.1
      have h := h.2
      refine r_iald S hW LH_98 b10 dX2_offer_70 ?_
      refine lv_icmp_ge (tgt := 105) S.1 S.2.1 dX2_offer_71 (by decide) (fun c11 => ?_) (fun c11 => ?_)
      · have h := h.1 c11
        obtain ⟨v12, ev12⟩ : ∃ y : Int32, y = x4 + (-1) := ⟨_, rfl⟩
        have h := h v12 ev12
        refine lv_iinc (v := v12) (lv' := [(4, .int v12), (5, .int v9), (0, .ref (σ 75)), (1, .int a1), (2, .int a2), (3, .int x3)]) S.1 S.2.1 dX2_offer_105 hl (k := 5) rfl (by rw [ev12]; rfl) (by decide) rfl (fun ls hl => ?_)
        refine lv_goto (tgt := 33) S.1 S.2.1 dX2_offer_108 (by decide) ?_
        exact (e33 _ _ _).mp h H locs ls hW (lv_sub hl [2, 3, 4, 5, 0] rfl)
      · have h := h.2 c11
        refine lv_aload_n S.1 S.2.1 dX2_offer_74 rfl (lv_at hl 1 rfl) ?_
        refine r_getR (j := 9) S hW inX2 rfl f32 rfl LH_75 (by decide) rfl dX2_offer_75 ?_
        refine lv_iload S.1 S.2.1 dX2_offer_78 (lv_at hl 5 rfl) ?_
        refine lv_iload S.1 S.2.1 dX2_offer_80 (lv_at hl 0 rfl) ?_
        have b13 := h.1
        have h := h.2
        refine r_iast S hW LH_98 b13 dX2_offer_82 (fun M14 H locs eM14 hW => ?_)
        have h := h M14 eM14
        refine lv_aload_n S.1 S.2.1 dX2_offer_83 rfl (lv_at hl 1 rfl) ?_
        refine r_getR (j := 10) S hW inX2 rfl f35 rfl LH_75 (by decide) rfl dX2_offer_84 ?_
        refine lv_iload_n S.1 S.2.1 dX2_offer_87 rfl (lv_at hl 2 rfl) ?_
        refine lv_iload_n S.1 S.2.1 dX2_offer_88 rfl (lv_at hl 3 rfl) ?_
        refine lv_iload S.1 S.2.1 dX2_offer_89 (lv_at hl 5 rfl) ?_
        refine r_goI (r_runS (rest := [.ref (σ 99)]) S hW (mX2_word l D T σ M14 a1 a2 x4 _ h) w93 rfl hl.1 rfl (Nat.le_of_ble_eq_true rfl) dX2_offer_91 ⟨Nat.zero_le _, Nat.zero_le _⟩) hW (fun r15 M16 H locs h hW => ?_)
        refine lv_dup2_11 S.1 S.2.1 dX2_offer_94 rfl rfl ?_
        have b17 := h.1
        have h := h.2
        refine r_lald S hW LH_99 b17 dX2_offer_95 ?_
        refine lv_lconst (v := 1) S.1 S.2.1 dX2_offer_96 rfl ?_
        refine lv_iload S.1 S.2.1 dX2_offer_97 (lv_at hl 5 rfl) ?_
        refine lv_bipush (v := 63) S.1 S.2.1 dX2_offer_99 rfl ?_
        refine lv_iand S.1 S.2.1 dX2_offer_101 ?_
        refine lv_lshl (v := (jshlL (1 : Int64) (x4 &&& (63 : Int32)))) S.1 S.2.1 dX2_offer_102 rfl ?_
        refine lv_lor S.1 S.2.1 dX2_offer_103 ?_
        have b18 := h.1
        have h := h.2
        refine r_last S hW LH_99 b18 dX2_offer_104 (fun M19 H locs eM19 hW => ?_)
        have h := h M19 eM19
        obtain ⟨v20, ev20⟩ : ∃ y : Int32, y = x4 + (-1) := ⟨_, rfl⟩
        have h := h v20 ev20
        refine lv_iinc (v := v20) (lv' := [(4, .int v20), (5, .int v9), (0, .ref (σ 75)), (1, .int a1), (2, .int a2), (3, .int x3)]) S.1 S.2.1 dX2_offer_105 hl (k := 5) rfl (by rw [ev20]; rfl) (by decide) rfl (fun ls hl => ?_)
        refine lv_goto (tgt := 33) S.1 S.2.1 dX2_offer_108 (by decide) ?_
        exact (e33 _ _ _).mp h H locs ls hW (lv_sub hl [2, 3, 4, 5, 0] rfl)
  have h := h z33
  refine lv_aload_n S.1 S.2.1 dX2_offer_0 rfl (lv_at hl 0 rfl) ?_
  refine r_getR (j := 8) S hW inX2 rfl f29 rfl LH_75 (by decide) rfl dX2_offer_1 ?_
  refine lv_iload_n S.1 S.2.1 dX2_offer_4 rfl (lv_at hl 2 rfl) ?_
  have b1 := h.1
  have h := h.2
  refine r_aald (t := 0) S hW LH_93 (by decide) b1 dX2_offer_5 ?_
  refine lv_iload_n S.1 S.2.1 dX2_offer_6 rfl (lv_at hl 1 rfl) ?_
  refine lv_aload_n S.1 S.2.1 dX2_offer_7 rfl (lv_at hl 0 rfl) ?_
  refine r_getR (j := 6) S hW inX2 rfl f23 rfl LH_75 (by decide) rfl dX2_offer_8 ?_
  refine lv_iload_n S.1 S.2.1 dX2_offer_11 rfl (lv_at hl 2 rfl) ?_
  have b2 := h.1
  have h := h.2
  refine r_iald S hW LH_91 b2 dX2_offer_12 ?_
  refine lv_isub S.1 S.2.1 dX2_offer_13 ?_
  have b3 := h.1
  have h := h.2
  refine r_iald S hW (LHr_93 (vp_lt b1)) b3 dX2_offer_14 ?_
  refine lv_aload_n S.1 S.2.1 dX2_offer_15 rfl (lv_at hl 0 rfl) ?_
  refine r_getR (j := 7) S hW inX2 rfl f26 rfl LH_75 (by decide) rfl dX2_offer_16 ?_
  refine lv_iload_n S.1 S.2.1 dX2_offer_19 rfl (lv_at hl 2 rfl) ?_
  have b4 := h.1
  have h := h.2
  refine r_iald S hW LH_92 b4 dX2_offer_20 ?_
  refine lv_bipush (v := 12) S.1 S.2.1 dX2_offer_21 rfl ?_
  refine lv_iload_n S.1 S.2.1 dX2_offer_23 rfl (lv_at hl 1 rfl) ?_
  refine lv_isub S.1 S.2.1 dX2_offer_24 ?_
  refine lv_imul S.1 S.2.1 dX2_offer_25 ?_
  refine lv_iadd S.1 S.2.1 dX2_offer_26 ?_
  refine lv_topi (fun v5 ev5 => ?_)
  have h := h v5 ev5
  refine lv_istore_n (lv' := [(3, .int v5), (0, .ref (σ 75)), (1, .int a1), (2, .int a2)]) S.1 S.2.1 dX2_offer_27 rfl hl (by decide) rfl (fun ls hl => ?_)
  refine lv_sipush (v := 499) S.1 S.2.1 dX2_offer_28 rfl ?_
  refine lv_istore (lv' := [(4, .int (499 : Int32)), (3, .int v5), (0, .ref (σ 75)), (1, .int a1), (2, .int a2)]) S.1 S.2.1 dX2_offer_31 hl (by decide) rfl (fun ls hl => ?_)
  exact (e33 _ _ _).mp h H locs ls hW (lv_sub hl [2, 3, 4, 1, 0] rfl)
abbrev rmX2_isEnough : Room := { frames := 0, cells := 0, slots := 0, locals := 0 }
set_option maxHeartbeats 4000000 in
set_option maxRecDepth 100000 in
theorem mX2_isEnough (l : Launch) (D : va_G) (T : Nat → ClassId) (σ : Nat → Nat) (M : Mem)  (post : Int32 → Mem → Prop) (h : qX2_isEnough M post) : Met l yX2_isEnough wsX2_isEnough rmX2_isEnough (preW D T LH σ [.ref (σ 75)] M) (postI D T LH σ post) 0 0 (fA LH σ) := by
  refine m_of (cc := cX2_isEnough) (maxL := 1) (ret := (some .boolean)) (own := RX2) (by decide) rfl rfl (Nat.le_of_ble_eq_true rfl) ?_
  intro p e s m args below meth c H ls locs S hr hlk hl hW
  have hl : lv_has ls 1 [(0, .ref (σ 75))] := hl
  have inX2 : ∀ w ∈ u_ws RX2 TX2 12, w ∈ wsX2_isEnough := by decide +kernel
  have f47 := S.2.2.2.2 (.fieldLink RX2 47 "MachineHall$Market" "least" "I") (by decide +kernel)
  have k50 := S.2.2.2.2 (.constant RX2 50 (1000000000)) (by decide +kernel)
  refine lv_aload_n S.1 S.2.1 dX2_isEnough_0 rfl (lv_at hl 0 rfl) ?_
  refine r_getI (j := 1) S hW inX2 rfl f47 rfl LH_75 (by decide) rfl dX2_isEnough_1 ?_
  refine lv_ldc S.1 S.2.1 S.2.2.2.1 k50 dX2_isEnough_4 ?_
  refine lv_icmp_ge (tgt := 13) S.1 S.2.1 dX2_isEnough_6 (by decide) (fun c1 => ?_) (fun c1 => ?_)
  · have h := h.1 c1
    refine lv_iconst (v := 0) S.1 S.2.1 dX2_isEnough_13 rfl ?_
    exact r_zret S hr hlk hW rfl h dX2_isEnough_14
  · have h := h.2 c1
    refine lv_iconst (v := 1) S.1 S.2.1 dX2_isEnough_9 rfl ?_
    refine lv_goto (tgt := 14) S.1 S.2.1 dX2_isEnough_10 (by decide) ?_
    exact r_zret S hr hlk hW rfl h dX2_isEnough_14
abbrev rmX2_mustBuy : Room := { frames := 1, cells := 0, slots := 0, locals := 22 }
set_option maxHeartbeats 4000000 in
set_option maxRecDepth 100000 in
theorem mX2_mustBuy (l : Launch) (D : va_G) (T : Nat → ClassId) (σ : Nat → Nat) (M : Mem) (a1 : Int32) (a2 : Int32) (a3 : Int32) (post : Int32 → Mem → Prop) (h : qX2_mustBuy a1 a2 a3 M post) : Met l yX2_mustBuy wsX2_mustBuy rmX2_mustBuy (preW D T LH σ [.ref (σ 75), .int a1, .int a2, .int a3] M) (postI D T LH σ post) 0 0 (fA LH σ) := by
  refine m_of (cc := cX2_mustBuy) (maxL := 4) (ret := (some .boolean)) (own := RX2) (by decide) rfl rfl (Nat.le_of_ble_eq_true rfl) ?_
  intro p e s m args below meth c H ls locs S hr hlk hl hW
  have hl : lv_has ls 4 [(0, .ref (σ 75)), (1, .int a1), (2, .int a2), (3, .int a3)] := hl
  have inX2 : ∀ w ∈ u_ws RX2 TX2 12, w ∈ wsX2_mustBuy := by decide +kernel
  have f35 := S.2.2.2.2 (.fieldLink RX2 35 "MachineHall$Market" "oneMore" "[J") (by decide +kernel)
  have w93 := va_cwS (R := rmX2_mustBuy) (rm := rmX2_word) (mc := 0) (ms := 0) 3 S.2.2.2.2 gX2_mustBuy_X2_word rfl rfl rfl (by decide +kernel) ⟨Nat.le_of_ble_eq_true rfl, Nat.le_of_ble_eq_true rfl⟩
  refine lv_aload_n S.1 S.2.1 dX2_mustBuy_0 rfl (lv_at hl 0 rfl) ?_
  refine r_getR (j := 10) S hW inX2 rfl f35 rfl LH_75 (by decide) rfl dX2_mustBuy_1 ?_
  refine lv_iload_n S.1 S.2.1 dX2_mustBuy_4 rfl (lv_at hl 1 rfl) ?_
  refine lv_iload_n S.1 S.2.1 dX2_mustBuy_5 rfl (lv_at hl 2 rfl) ?_
  refine lv_iload_n S.1 S.2.1 dX2_mustBuy_6 rfl (lv_at hl 3 rfl) ?_
  refine r_goI (r_runS (rest := [.ref (σ 99)]) S hW (mX2_word l D T σ M a1 a2 a3 _ h) w93 rfl hl.1 rfl (Nat.le_of_ble_eq_true rfl) dX2_mustBuy_7 ⟨Nat.zero_le _, Nat.zero_le _⟩) hW (fun r1 M2 H locs h hW => ?_)
  have b3 := h.1
  have h := h.2
  refine r_lald S hW LH_99 b3 dX2_mustBuy_10 ?_
  refine lv_iload_n S.1 S.2.1 dX2_mustBuy_11 rfl (lv_at hl 3 rfl) ?_
  refine lv_bipush (v := 63) S.1 S.2.1 dX2_mustBuy_12 rfl ?_
  refine lv_iand S.1 S.2.1 dX2_mustBuy_14 ?_
  refine lv_lushr (v := (jushrL (M2.2 99 r1.toNatClampNeg) (a3 &&& (63 : Int32)))) S.1 S.2.1 dX2_mustBuy_15 rfl ?_
  refine lv_lconst (v := 1) S.1 S.2.1 dX2_mustBuy_16 rfl ?_
  refine lv_land S.1 S.2.1 dX2_mustBuy_17 ?_
  refine lv_lconst (v := 0) S.1 S.2.1 dX2_mustBuy_18 rfl ?_
  refine W.lcmp S.1 S.2.1 dX2_mustBuy_19 ?_
  refine lv_if_eq (tgt := 27) S.1 S.2.1 dX2_mustBuy_20 (by decide) (fun c4 => ?_) (fun c4 => ?_)
  · have h := h.1 c4
    refine lv_iconst (v := 0) S.1 S.2.1 dX2_mustBuy_27 rfl ?_
    exact r_zret S hr hlk hW rfl h dX2_mustBuy_28
  · have h := h.2 c4
    refine lv_iconst (v := 1) S.1 S.2.1 dX2_mustBuy_23 rfl ?_
    refine lv_goto (tgt := 28) S.1 S.2.1 dX2_mustBuy_24 (by decide) ?_
    exact r_zret S hr hlk hW rfl h dX2_mustBuy_28
abbrev rmX2_choose : Room := { frames := 2, cells := 0, slots := 0, locals := 45 }
set_option maxHeartbeats 4000000 in
set_option maxRecDepth 100000 in
theorem mX2_choose (l : Launch) (D : va_G) (T : Nat → ClassId) (σ : Nat → Nat) (M : Mem)  (post : Mem → Prop) (h : qX2_choose M post) : Met l yX2_choose wsX2_choose rmX2_choose (preW D T LH σ [.ref (σ 75)] M) (postV D T LH σ post) 0 0 (fA LH σ) := by
  refine m_of (cc := cX2_choose) (maxL := 5) (ret := none) (own := RX2) (by decide) rfl rfl (Nat.le_of_ble_eq_true rfl) ?_
  intro p e s m args below meth c H ls locs S hr hlk hl hW
  have hl : lv_has ls 5 [(0, .ref (σ 75))] := hl
  have inX2 : ∀ w ∈ u_ws RX2 TX2 12, w ∈ wsX2_choose := by decide +kernel
  have f61 := S.2.2.2.2 (.fieldLink RX2 61 "MachineHall$Market" "owned" "I") (by decide +kernel)
  have f39 := S.2.2.2.2 (.fieldLink RX2 39 "MachineHall$Market" "types" "I") (by decide +kernel)
  have w97 := cwV (R := rmX2_choose) (rm := rmX2_mustBuy) (mc := 0) (ms := 0) 3 S.2.2.2.2 gX2_choose_X2_mustBuy rfl rfl rfl (by decide +kernel) ⟨Nat.le_of_ble_eq_true rfl, Nat.le_of_ble_eq_true rfl⟩
  have f20 := S.2.2.2.2 (.fieldLink RX2 20 "MachineHall$Market" "sizes" "[I") (by decide +kernel)
  have l87 := S.2.2.2.2 (.methodLink RX2 87 Lib.Math.min.name) (by decide +kernel)
  have smin := S.2.2.2.2 (.static Lib.Math.min.name) (by decide +kernel)
  have omin := S.2.2.2.2 (.code Lib.Math.min.name Lib.Math.min.code 2 (some .int)) (by decide +kernel)
  have iMath := S.2.2.2.2 (.initialized "java/lang/Math") (by decide +kernel)
  have f13 := S.2.2.2.2 (.fieldLink RX2 13 "MachineHall$Market" "bought" "[[I") (by decide +kernel)
  obtain ⟨R7, e7⟩ : ∃ R : Int32 → Int32 → Mem → Prop, ∀ x1 x2 M, R x1 x2 M ↔ WW p l e rmX2_choose s m args below meth c D T LH σ 5 (MQ below (postV D T LH σ post) args s 0 0 (fA LH σ)) 7 [(0, .ref (σ 75)), (1, .int x1), (2, .int x2)] [] M := ⟨_, fun _ _ _ => Iff.rfl⟩
  obtain ⟨R15, e15⟩ : ∃ R : Int32 → Int32 → Int32 → Mem → Prop, ∀ x1 x2 x3 M, R x1 x2 x3 M ↔ WW p l e rmX2_choose s m args below meth c D T LH σ 5 (MQ below (postV D T LH σ post) args s 0 0 (fA LH σ)) 15 [(0, .ref (σ 75)), (1, .int x1), (2, .int x2), (3, .int x3)] [] M := ⟨_, fun _ _ _ _ => Iff.rfl⟩
  obtain ⟨R26, e26⟩ : ∃ R : Int32 → Int32 → Int32 → Int32 → Mem → Prop, ∀ x1 x2 x3 x4 M, R x1 x2 x3 x4 M ↔ WW p l e rmX2_choose s m args below meth c D T LH σ 5 (MQ below (postV D T LH σ post) args s 0 0 (fA LH σ)) 26 [(0, .ref (σ 75)), (1, .int x1), (2, .int x2), (3, .int x3), (4, .int x4)] [] M := ⟨_, fun _ _ _ _ _ => Iff.rfl⟩
  obtain ⟨R72, e72⟩ : ∃ R : Int32 → Int32 → Int32 → Int32 → Mem → Prop, ∀ x1 x2 x3 x4 M, R x1 x2 x3 x4 M ↔ WW p l e rmX2_choose s m args below meth c D T LH σ 5 (MQ below (postV D T LH σ post) args s 0 0 (fA LH σ)) 72 [(0, .ref (σ 75)), (1, .int x1), (2, .int x2), (3, .int x3), (4, .int x4)] [] M := ⟨_, fun _ _ _ _ _ => Iff.rfl⟩
  have h := h R7 R15 R26 R72
  have z7 : ∀ x1 x2 M, qX2_choose_b7 post R7 R15 R26 R72 x1 x2 M → R7 x1 x2 M := by
    intro x1 x2 M h
    refine (e7 _ _ _).mpr (fun H locs ls hW hl => ?_)
    refine lv_iload_n S.1 S.2.1 dX2_choose_7 rfl (lv_at hl 2 rfl) ?_
    refine lv_bipush (v := 12) S.1 S.2.1 dX2_choose_8 rfl ?_
    refine lv_icmp_ge (tgt := 94) S.1 S.2.1 dX2_choose_10 (by decide) (fun c2 => ?_) (fun c2 => ?_)
    · have h := h.1 c2
      exact r_vret S hr hlk hW h dX2_choose_94
    · have h := h.2 c2
      refine lv_iconst (v := 0) S.1 S.2.1 dX2_choose_13 rfl ?_
      refine lv_istore_n (lv' := [(3, .int (0 : Int32)), (0, .ref (σ 75)), (1, .int x1), (2, .int x2)]) S.1 S.2.1 dX2_choose_14 rfl hl (by decide) rfl (fun ls hl => ?_)
      exact (e15 _ _ _ _).mp h H locs ls hW (lv_sub hl [1, 2, 3, 0] rfl)
  have z15 : ∀ x1 x2 x3 M, qX2_choose_b15 post R7 R15 R26 R72 x1 x2 x3 M → R15 x1 x2 x3 M := by
    intro x1 x2 x3 M h
    refine (e15 _ _ _ _).mpr (fun H locs ls hW hl => ?_)
    refine lv_iload_n S.1 S.2.1 dX2_choose_15 rfl (lv_at hl 3 rfl) ?_
    refine lv_aload_n S.1 S.2.1 dX2_choose_16 rfl (lv_at hl 0 rfl) ?_
    refine r_getI (j := 0) S hW inX2 rfl f39 rfl LH_75 (by decide) rfl dX2_choose_17 ?_
    refine lv_icmp_ge (tgt := 88) S.1 S.2.1 dX2_choose_20 (by decide) (fun c3 => ?_) (fun c3 => ?_)
    · have h := h.1 c3
      obtain ⟨v4, ev4⟩ : ∃ y : Int32, y = x2 + 1 := ⟨_, rfl⟩
      have h := h v4 ev4
      refine lv_iinc (v := v4) (lv' := [(2, .int v4), (0, .ref (σ 75)), (1, .int x1), (3, .int x3)]) S.1 S.2.1 dX2_choose_88 hl (k := 2) rfl (by rw [ev4]; rfl) (by decide) rfl (fun ls hl => ?_)
      refine lv_goto (tgt := 7) S.1 S.2.1 dX2_choose_91 (by decide) ?_
      exact (e7 _ _ _).mp h H locs ls hW (lv_sub hl [1, 2, 0] rfl)
    · have h := h.2 c3
      refine lv_iconst (v := 0) S.1 S.2.1 dX2_choose_23 rfl ?_
      refine lv_istore (lv' := [(4, .int (0 : Int32)), (0, .ref (σ 75)), (1, .int x1), (2, .int x2), (3, .int x3)]) S.1 S.2.1 dX2_choose_24 hl (by decide) rfl (fun ls hl => ?_)
      exact (e26 _ _ _ _ _).mp h H locs ls hW (lv_sub hl [1, 2, 3, 4, 0] rfl)
  have z26 : ∀ x1 x2 x3 x4 M, qX2_choose_b26 post R7 R15 R26 R72 x1 x2 x3 x4 M → R26 x1 x2 x3 x4 M := by
    intro x1 x2 x3 x4 M h
    refine (e26 _ _ _ _ _).mpr (fun H locs ls hW hl => ?_)
    refine lv_iload S.1 S.2.1 dX2_choose_26 (lv_at hl 4 rfl) ?_
    refine lv_sipush (v := 500) S.1 S.2.1 dX2_choose_28 rfl ?_
    refine lv_icmp_ge (tgt := 72) S.1 S.2.1 dX2_choose_31 (by decide) (fun c5 => ?_) (fun c5 => ?_)
    · have h := h.1 c5
      exact (e72 _ _ _ _ _).mp h H locs ls hW (lv_sub hl [0, 1, 2, 3, 4] rfl)
    · have h := h.2 c5
      refine lv_iload_n S.1 S.2.1 dX2_choose_34 rfl (lv_at hl 1 rfl) ?_
      refine lv_sipush (v := 500) S.1 S.2.1 dX2_choose_35 rfl ?_
      refine lv_icmp_ge (tgt := 72) S.1 S.2.1 dX2_choose_38 (by decide) (fun c6 => ?_) (fun c6 => ?_)
      · have h := h.1 c6
        exact (e72 _ _ _ _ _).mp h H locs ls hW (lv_sub hl [0, 1, 2, 3, 4] rfl)
      · have h := h.2 c6
        refine lv_aload_n S.1 S.2.1 dX2_choose_41 rfl (lv_at hl 0 rfl) ?_
        refine lv_iload_n S.1 S.2.1 dX2_choose_42 rfl (lv_at hl 2 rfl) ?_
        refine lv_iload_n S.1 S.2.1 dX2_choose_43 rfl (lv_at hl 3 rfl) ?_
        refine lv_iload_n S.1 S.2.1 dX2_choose_44 rfl (lv_at hl 1 rfl) ?_
        refine r_goI (r_runV (rest := []) S hW (mX2_mustBuy l D T σ M x2 x3 x1 _ h) w97 rfl LH_75 rfl hl.1 rfl (Nat.le_of_ble_eq_true rfl) dX2_choose_45 ⟨Nat.zero_le _, Nat.zero_le _⟩) hW (fun r7 M8 H locs h hW => ?_)
        refine lv_if_eq (tgt := 72) S.1 S.2.1 dX2_choose_48 (by decide) (fun c9 => ?_) (fun c9 => ?_)
        · have h := h.1 c9
          exact (e72 _ _ _ _ _).mp h H locs ls hW (lv_sub hl [0, 1, 2, 3, 4] rfl)
        · have h := h.2 c9
          refine lv_sipush (v := 500) S.1 S.2.1 dX2_choose_51 rfl ?_
          refine lv_iload_n S.1 S.2.1 dX2_choose_54 rfl (lv_at hl 1 rfl) ?_
          refine lv_aload_n S.1 S.2.1 dX2_choose_55 rfl (lv_at hl 0 rfl) ?_
          refine r_getR (j := 5) S hW inX2 rfl f20 rfl LH_75 (by decide) rfl dX2_choose_56 ?_
          refine lv_iload_n S.1 S.2.1 dX2_choose_59 rfl (lv_at hl 3 rfl) ?_
          have b10 := h.1
          have h := h.2
          refine r_iald S hW LH_90 b10 dX2_choose_60 ?_
          refine lv_iadd S.1 S.2.1 dX2_choose_61 ?_
          refine r_min S hl.1 l87 smin iMath omin (Nat.le_of_ble_eq_true rfl) (Nat.le_of_ble_eq_true rfl) (Nat.zero_le _) (Nat.zero_le _) dX2_choose_62 ?_
          refine lv_topi (fun v11 ev11 => ?_)
          have h := h v11 ev11
          refine lv_istore_n (lv' := [(1, .int v11), (0, .ref (σ 75)), (2, .int x2), (3, .int x3), (4, .int x4)]) S.1 S.2.1 dX2_choose_65 rfl hl (by decide) rfl (fun ls hl => ?_)
          obtain ⟨v12, ev12⟩ : ∃ y : Int32, y = x4 + 1 := ⟨_, rfl⟩
          have h := h v12 ev12
          refine lv_iinc (v := v12) (lv' := [(4, .int v12), (1, .int v11), (0, .ref (σ 75)), (2, .int x2), (3, .int x3)]) S.1 S.2.1 dX2_choose_66 hl (k := 4) rfl (by rw [ev12]; rfl) (by decide) rfl (fun ls hl => ?_)
          refine lv_goto (tgt := 26) S.1 S.2.1 dX2_choose_69 (by decide) ?_
          exact (e26 _ _ _ _ _).mp h H locs ls hW (lv_sub hl [2, 1, 3, 4, 0] rfl)
  have z72 : ∀ x1 x2 x3 x4 M, qX2_choose_b72 post R7 R15 R26 R72 x1 x2 x3 x4 M → R72 x1 x2 x3 x4 M := by
    intro x1 x2 x3 x4 M h
    refine (e72 _ _ _ _ _).mpr (fun H locs ls hW hl => ?_)
    refine lv_aload_n S.1 S.2.1 dX2_choose_72 rfl (lv_at hl 0 rfl) ?_
    refine r_getR (j := 2) S hW inX2 rfl f13 rfl LH_75 (by decide) rfl dX2_choose_73 ?_
    refine lv_iload_n S.1 S.2.1 dX2_choose_76 rfl (lv_at hl 2 rfl) ?_
    have b13 := h.1
    have h := h.2
    refine r_aald (t := 0) S hW LH_76 (by decide) b13 dX2_choose_77 ?_
    refine lv_iload_n S.1 S.2.1 dX2_choose_78 rfl (lv_at hl 3 rfl) ?_
    refine lv_iload S.1 S.2.1 dX2_choose_79 (lv_at hl 4 rfl) ?_
    have b14 := h.1
    have h := h.2
    refine r_iast S hW (LHr_76 (vp_lt b13)) b14 dX2_choose_81 (fun M15 H locs eM15 hW => ?_)
    have h := h M15 eM15
    obtain ⟨v16, ev16⟩ : ∃ y : Int32, y = x3 + 1 := ⟨_, rfl⟩
    have h := h v16 ev16
    refine lv_iinc (v := v16) (lv' := [(3, .int v16), (0, .ref (σ 75)), (1, .int x1), (2, .int x2), (4, .int x4)]) S.1 S.2.1 dX2_choose_82 hl (k := 3) rfl (by rw [ev16]; rfl) (by decide) rfl (fun ls hl => ?_)
    refine lv_goto (tgt := 15) S.1 S.2.1 dX2_choose_85 (by decide) ?_
    exact (e15 _ _ _ _).mp h H locs ls hW (lv_sub hl [1, 2, 3, 0] rfl)
  have h := h z7 z15 z26 z72
  refine lv_aload_n S.1 S.2.1 dX2_choose_0 rfl (lv_at hl 0 rfl) ?_
  refine r_getI (j := 3) S hW inX2 rfl f61 rfl LH_75 (by decide) rfl dX2_choose_1 ?_
  refine lv_topi (fun v1 ev1 => ?_)
  have h := h v1 ev1
  refine lv_istore_n (lv' := [(1, .int v1), (0, .ref (σ 75))]) S.1 S.2.1 dX2_choose_4 rfl hl (by decide) rfl (fun ls hl => ?_)
  refine lv_iconst (v := 0) S.1 S.2.1 dX2_choose_5 rfl ?_
  refine lv_istore_n (lv' := [(2, .int (0 : Int32)), (1, .int v1), (0, .ref (σ 75))]) S.1 S.2.1 dX2_choose_6 rfl hl (by decide) rfl (fun ls hl => ?_)
  exact (e7 _ _ _).mp h H locs ls hW (lv_sub hl [2, 1, 0] rfl)
abbrev rmX2_solve : Room := { frames := 3, cells := 0, slots := 0, locals := 69 }
set_option maxHeartbeats 4000000 in
set_option maxRecDepth 100000 in
theorem mX2_solve (l : Launch) (D : va_G) (T : Nat → ClassId) (σ : Nat → Nat) (M : Mem)  (post : Mem → Prop) (h : qX2_solve M post) : Met l yX2_solve wsX2_solve rmX2_solve (preW D T LH σ [.ref (σ 75)] M) (postV D T LH σ post) 0 0 (fA LH σ) := by
  refine m_of (cc := cX2_solve) (maxL := 3) (ret := none) (own := RX2) (by decide) rfl rfl (Nat.le_of_ble_eq_true rfl) ?_
  intro p e s m args below meth c H ls locs S hr hlk hl hW
  have hl : lv_has ls 3 [(0, .ref (σ 75))] := hl
  have inX2 : ∀ w ∈ u_ws RX2 TX2 12, w ∈ wsX2_solve := by decide +kernel
  have f57 := S.2.2.2.2 (.fieldLink RX2 57 "MachineHall$Market" "solved" "Z") (by decide +kernel)
  have f32 := S.2.2.2.2 (.fieldLink RX2 32 "MachineHall$Market" "toPay" "[I") (by decide +kernel)
  have w64 := va_cwS (R := rmX2_solve) (rm := rmJ7_fill_53178) (mc := 0) (ms := 0) 2 S.2.2.2.2 gX2_solve_J7_fill_53178 rfl rfl rfl (by decide +kernel) ⟨Nat.le_of_ble_eq_true rfl, Nat.le_of_ble_eq_true rfl⟩
  have f35 := S.2.2.2.2 (.fieldLink RX2 35 "MachineHall$Market" "oneMore" "[J") (by decide +kernel)
  have w70 := va_cwS (R := rmX2_solve) (rm := rmJ7_fill_d0a16) (mc := 0) (ms := 0) 2 S.2.2.2.2 gX2_solve_J7_fill_d0a16 rfl rfl rfl (by decide +kernel) ⟨Nat.le_of_ble_eq_true rfl, Nat.le_of_ble_eq_true rfl⟩
  have f61 := S.2.2.2.2 (.fieldLink RX2 61 "MachineHall$Market" "owned" "I") (by decide +kernel)
  have f47 := S.2.2.2.2 (.fieldLink RX2 47 "MachineHall$Market" "least" "I") (by decide +kernel)
  have w80 := cwV (R := rmX2_solve) (rm := rmX2_isEnough) (mc := 0) (ms := 0) 0 S.2.2.2.2 gX2_solve_X2_isEnough rfl rfl rfl (by decide +kernel) ⟨Nat.le_of_ble_eq_true rfl, Nat.le_of_ble_eq_true rfl⟩
  have w84 := cwV (R := rmX2_solve) (rm := rmX2_choose) (mc := 0) (ms := 0) 0 S.2.2.2.2 gX2_solve_X2_choose rfl rfl rfl (by decide +kernel) ⟨Nat.le_of_ble_eq_true rfl, Nat.le_of_ble_eq_true rfl⟩
  have f16 := S.2.2.2.2 (.fieldLink RX2 16 "MachineHall$Market" "wants" "[I") (by decide +kernel)
  have k50 := S.2.2.2.2 (.constant RX2 50 (1000000000)) (by decide +kernel)
  have w73 := va_cwS (R := rmX2_solve) (rm := rmJ7_fill_fda19) (mc := 0) (ms := 0) 4 S.2.2.2.2 gX2_solve_J7_fill_fda19 rfl rfl rfl (by decide +kernel) ⟨Nat.le_of_ble_eq_true rfl, Nat.le_of_ble_eq_true rfl⟩
  have f39 := S.2.2.2.2 (.fieldLink RX2 39 "MachineHall$Market" "types" "I") (by decide +kernel)
  have f23 := S.2.2.2.2 (.fieldLink RX2 23 "MachineHall$Market" "leads" "[I") (by decide +kernel)
  have w76 := cwV (R := rmX2_solve) (rm := rmX2_offer) (mc := 0) (ms := 0) 2 S.2.2.2.2 gX2_solve_X2_offer rfl rfl rfl (by decide +kernel) ⟨Nat.le_of_ble_eq_true rfl, Nat.le_of_ble_eq_true rfl⟩
  obtain ⟨R32, e32⟩ : ∃ R : Int32 → Mem → Prop, ∀ x1 M, R x1 M ↔ WW p l e rmX2_solve s m args below meth c D T LH σ 3 (MQ below (postV D T LH σ post) args s 0 0 (fA LH σ)) 32 [(0, .ref (σ 75)), (1, .int x1)] [] M := ⟨_, fun _ _ => Iff.rfl⟩
  obtain ⟨R59, e59⟩ : ∃ R : Int32 → Int32 → Mem → Prop, ∀ x1 x2 M, R x1 x2 M ↔ WW p l e rmX2_solve s m args below meth c D T LH σ 3 (MQ below (postV D T LH σ post) args s 0 0 (fA LH σ)) 59 [(0, .ref (σ 75)), (1, .int x1), (2, .int x2)] [] M := ⟨_, fun _ _ _ => Iff.rfl⟩
  have h := h R32 R59
  have z32 : ∀ x1 M, qX2_solve_b32 post R32 R59 x1 M → R32 x1 M := by
    intro x1 M h
    refine (e32 _ _).mpr (fun H locs ls hW hl => ?_)
    refine lv_iload_n S.1 S.2.1 dX2_solve_32 rfl (lv_at hl 1 rfl) ?_
    refine lv_if_lt (tgt := 91) S.1 S.2.1 dX2_solve_33 (by decide) (fun c7 => ?_) (fun c7 => ?_)
    · have h := h.1 c7
      refine lv_aload_n S.1 S.2.1 dX2_solve_91 rfl (lv_at hl 0 rfl) ?_
      refine lv_aload_n S.1 S.2.1 dX2_solve_92 rfl (lv_at hl 0 rfl) ?_
      refine r_getR (j := 9) S hW inX2 rfl f32 rfl LH_75 (by decide) rfl dX2_solve_93 ?_
      refine lv_aload_n S.1 S.2.1 dX2_solve_96 rfl (lv_at hl 0 rfl) ?_
      refine r_getI (j := 3) S hW inX2 rfl f61 rfl LH_75 (by decide) rfl dX2_solve_97 ?_
      have b8 := h.1
      have h := h.2
      refine r_iald S hW LH_98 b8 dX2_solve_100 ?_
      refine r_putI (j := 1) S hW inX2 rfl f47 rfl LH_75 (by decide) rfl tyX2 tyX2_ok nmX2 rfl rfl rfl dX2_solve_101 (fun M9 H locs eM9 hW => ?_)
      have h := h M9 eM9
      refine lv_aload_n S.1 S.2.1 dX2_solve_104 rfl (lv_at hl 0 rfl) ?_
      refine r_goI (r_runV (rest := []) S hW (mX2_isEnough l D T σ M9 _ h) w80 rfl LH_75 rfl hl.1 rfl (Nat.le_of_ble_eq_true rfl) dX2_solve_105 ⟨Nat.zero_le _, Nat.zero_le _⟩) hW (fun r10 M11 H locs h hW => ?_)
      refine lv_if_eq (tgt := 115) S.1 S.2.1 dX2_solve_108 (by decide) (fun c12 => ?_) (fun c12 => ?_)
      · have h := h.1 c12
        exact r_vret S hr hlk hW h dX2_solve_115
      · have h := h.2 c12
        refine lv_aload_n S.1 S.2.1 dX2_solve_111 rfl (lv_at hl 0 rfl) ?_
        refine r_goV (r_runV (rest := []) S hW (mX2_choose l D T σ M11 _ h) w84 rfl LH_75 rfl hl.1 rfl (Nat.le_of_ble_eq_true rfl) dX2_solve_112 ⟨Nat.zero_le _, Nat.zero_le _⟩) hW (fun M14 H locs h hW => ?_)
        exact r_vret S hr hlk hW h dX2_solve_115
    · have h := h.2 c7
      refine lv_aload_n S.1 S.2.1 dX2_solve_36 rfl (lv_at hl 0 rfl) ?_
      refine r_getR (j := 9) S hW inX2 rfl f32 rfl LH_75 (by decide) rfl dX2_solve_37 ?_
      refine lv_iconst (v := 0) S.1 S.2.1 dX2_solve_40 rfl ?_
      refine lv_aload_n S.1 S.2.1 dX2_solve_41 rfl (lv_at hl 0 rfl) ?_
      refine r_getR (j := 4) S hW inX2 rfl f16 rfl LH_75 (by decide) rfl dX2_solve_42 ?_
      refine lv_iload_n S.1 S.2.1 dX2_solve_45 rfl (lv_at hl 1 rfl) ?_
      have b15 := h.1
      have h := h.2
      refine r_iald S hW LH_89 b15 dX2_solve_46 ?_
      refine lv_ldc S.1 S.2.1 S.2.2.2.1 k50 dX2_solve_47 ?_
      refine r_goV (r_runS (rest := []) S hW (mJ7_fill_fda19 l D T LH σ 98 LH_98  M (0 : Int32) (M.1 89 x1.toNatClampNeg) (1000000000 : Int32) _ h) w73 rfl hl.1 rfl (Nat.le_of_ble_eq_true rfl) dX2_solve_49 ⟨Nat.zero_le _, Nat.zero_le _⟩) hW (fun M17 H locs h hW => ?_)
      refine lv_aload_n S.1 S.2.1 dX2_solve_52 rfl (lv_at hl 0 rfl) ?_
      refine r_getI (j := 0) S hW inX2 rfl f39 rfl LH_75 (by decide) rfl dX2_solve_53 ?_
      refine lv_iconst (v := 1) S.1 S.2.1 dX2_solve_56 rfl ?_
      refine lv_isub S.1 S.2.1 dX2_solve_57 ?_
      refine lv_topi (fun v18 ev18 => ?_)
      have h := h v18 ev18
      refine lv_istore_n (lv' := [(2, .int v18), (0, .ref (σ 75)), (1, .int x1)]) S.1 S.2.1 dX2_solve_58 rfl hl (by decide) rfl (fun ls hl => ?_)
      exact (e59 _ _ _).mp h H locs ls hW (lv_sub hl [1, 2, 0] rfl)
  have z59 : ∀ x1 x2 M, qX2_solve_b59 post R32 R59 x1 x2 M → R59 x1 x2 M := by
    intro x1 x2 M h
    refine (e59 _ _ _).mpr (fun H locs ls hW hl => ?_)
    refine lv_iload_n S.1 S.2.1 dX2_solve_59 rfl (lv_at hl 2 rfl) ?_
    refine lv_if_lt (tgt := 85) S.1 S.2.1 dX2_solve_60 (by decide) (fun c19 => ?_) (fun c19 => ?_)
    · have h := h.1 c19
      obtain ⟨v20, ev20⟩ : ∃ y : Int32, y = x1 + (-1) := ⟨_, rfl⟩
      have h := h v20 ev20
      refine lv_iinc (v := v20) (lv' := [(1, .int v20), (0, .ref (σ 75)), (2, .int x2)]) S.1 S.2.1 dX2_solve_85 hl (k := 1) rfl (by rw [ev20]; rfl) (by decide) rfl (fun ls hl => ?_)
      refine lv_goto (tgt := 32) S.1 S.2.1 dX2_solve_88 (by decide) ?_
      exact (e32 _ _).mp h H locs ls hW (lv_sub hl [1, 0] rfl)
    · have h := h.2 c19
      refine lv_aload_n S.1 S.2.1 dX2_solve_63 rfl (lv_at hl 0 rfl) ?_
      refine r_getR (j := 6) S hW inX2 rfl f23 rfl LH_75 (by decide) rfl dX2_solve_64 ?_
      refine lv_iload_n S.1 S.2.1 dX2_solve_67 rfl (lv_at hl 2 rfl) ?_
      have b21 := h.1
      have h := h.2
      refine r_iald S hW LH_91 b21 dX2_solve_68 ?_
      refine lv_iload_n S.1 S.2.1 dX2_solve_69 rfl (lv_at hl 1 rfl) ?_
      refine lv_icmp_gt (tgt := 79) S.1 S.2.1 dX2_solve_70 (by decide) (fun c22 => ?_) (fun c22 => ?_)
      · have h := h.1 c22
        obtain ⟨v23, ev23⟩ : ∃ y : Int32, y = x2 + (-1) := ⟨_, rfl⟩
        have h := h v23 ev23
        refine lv_iinc (v := v23) (lv' := [(2, .int v23), (0, .ref (σ 75)), (1, .int x1)]) S.1 S.2.1 dX2_solve_79 hl (k := 2) rfl (by rw [ev23]; rfl) (by decide) rfl (fun ls hl => ?_)
        refine lv_goto (tgt := 59) S.1 S.2.1 dX2_solve_82 (by decide) ?_
        exact (e59 _ _ _).mp h H locs ls hW (lv_sub hl [1, 2, 0] rfl)
      · have h := h.2 c22
        refine lv_aload_n S.1 S.2.1 dX2_solve_73 rfl (lv_at hl 0 rfl) ?_
        refine lv_iload_n S.1 S.2.1 dX2_solve_74 rfl (lv_at hl 1 rfl) ?_
        refine lv_iload_n S.1 S.2.1 dX2_solve_75 rfl (lv_at hl 2 rfl) ?_
        refine r_goV (r_runV (rest := []) S hW (mX2_offer l D T σ M x1 x2 _ h) w76 rfl LH_75 rfl hl.1 rfl (Nat.le_of_ble_eq_true rfl) dX2_solve_76 ⟨Nat.zero_le _, Nat.zero_le _⟩) hW (fun M25 H locs h hW => ?_)
        obtain ⟨v26, ev26⟩ : ∃ y : Int32, y = x2 + (-1) := ⟨_, rfl⟩
        have h := h v26 ev26
        refine lv_iinc (v := v26) (lv' := [(2, .int v26), (0, .ref (σ 75)), (1, .int x1)]) S.1 S.2.1 dX2_solve_79 hl (k := 2) rfl (by rw [ev26]; rfl) (by decide) rfl (fun ls hl => ?_)
        refine lv_goto (tgt := 59) S.1 S.2.1 dX2_solve_82 (by decide) ?_
        exact (e59 _ _ _).mp h H locs ls hW (lv_sub hl [1, 2, 0] rfl)
  have h := h z32 z59
  refine lv_aload_n S.1 S.2.1 dX2_solve_0 rfl (lv_at hl 0 rfl) ?_
  refine r_getI (j := 11) S hW inX2 rfl f57 rfl LH_75 (by decide) rfl dX2_solve_1 ?_
  refine lv_if_eq (tgt := 8) S.1 S.2.1 dX2_solve_4 (by decide) (fun c1 => ?_) (fun c1 => ?_)
  · have h := h.1 c1
    refine lv_aload_n S.1 S.2.1 dX2_solve_8 rfl (lv_at hl 0 rfl) ?_
    refine lv_iconst (v := 1) S.1 S.2.1 dX2_solve_9 rfl ?_
    refine r_putI (j := 11) S hW inX2 rfl f57 rfl LH_75 (by decide) rfl tyX2 tyX2_ok nmX2 rfl rfl rfl dX2_solve_10 (fun M2 H locs eM2 hW => ?_)
    have h := h M2 eM2
    refine lv_aload_n S.1 S.2.1 dX2_solve_13 rfl (lv_at hl 0 rfl) ?_
    refine r_getR (j := 9) S hW inX2 rfl f32 rfl LH_75 (by decide) rfl dX2_solve_14 ?_
    refine lv_iconst (v := 0) S.1 S.2.1 dX2_solve_17 rfl ?_
    refine r_goV (r_runS (rest := []) S hW (mJ7_fill_53178 l D T LH σ 98 LH_98  M2 (0 : Int32) _ h) w64 rfl hl.1 rfl (Nat.le_of_ble_eq_true rfl) dX2_solve_18 ⟨Nat.zero_le _, Nat.zero_le _⟩) hW (fun M4 H locs h hW => ?_)
    refine lv_aload_n S.1 S.2.1 dX2_solve_21 rfl (lv_at hl 0 rfl) ?_
    refine r_getR (j := 10) S hW inX2 rfl f35 rfl LH_75 (by decide) rfl dX2_solve_22 ?_
    refine lv_lconst (v := 0) S.1 S.2.1 dX2_solve_25 rfl ?_
    refine r_goV (r_runS (rest := []) S hW (mJ7_fill_d0a16 l D T LH σ 99 LH_99  M4 (0 : Int64) _ h) w70 rfl hl.1 rfl (Nat.le_of_ble_eq_true rfl) dX2_solve_26 ⟨Nat.zero_le _, Nat.zero_le _⟩) hW (fun M6 H locs h hW => ?_)
    refine lv_bipush (v := 11) S.1 S.2.1 dX2_solve_29 rfl ?_
    refine lv_istore_n (lv' := [(1, .int (11 : Int32)), (0, .ref (σ 75))]) S.1 S.2.1 dX2_solve_31 rfl hl (by decide) rfl (fun ls hl => ?_)
    exact (e32 _ _).mp h H locs ls hW (lv_sub hl [1, 0] rfl)
  · have h := h.2 c1
    exact r_vret S hr hlk hW h dX2_solve_7
abbrev rmX2_hasType : Room := { frames := 1, cells := 0, slots := 0, locals := 23 }
set_option maxHeartbeats 4000000 in
set_option maxRecDepth 100000 in
theorem mX2_hasType (l : Launch) (D : va_G) (T : Nat → ClassId) (σ : Nat → Nat) (M : Mem) (a1 : Int32) (post : Int32 → Mem → Prop) (h : qX2_hasType a1 M post) : Met l yX2_hasType wsX2_hasType rmX2_hasType (preW D T LH σ [.ref (σ 75), .int a1] M) (postI D T LH σ post) 0 0 (fA LH σ) := by
  refine m_of (cc := cX2_hasType) (maxL := 2) (ret := (some .boolean)) (own := RX2) (by decide) rfl rfl (Nat.le_of_ble_eq_true rfl) ?_
  intro p e s m args below meth c H ls locs S hr hlk hl hW
  have hl : lv_has ls 2 [(0, .ref (σ 75)), (1, .int a1)] := hl
  have inX2 : ∀ w ∈ u_ws RX2 TX2 12, w ∈ wsX2_hasType := by decide +kernel
  have f39 := S.2.2.2.2 (.fieldLink RX2 39 "MachineHall$Market" "types" "I") (by decide +kernel)
  have w43 := va_cnB (args := args) (R := rmX2_hasType) (rm := rmX6_within) (mc := 0) (ms := 0) 3 S.2.2.2.2 gX2_hasType_X6_within_n43 rfl rfl rfl hW.2.2.2.2.2.2.2 (S.2.2.2.2 (.initialized RX6) (by decide +kernel)) (by decide +kernel) ⟨Nat.le_of_ble_eq_true rfl, Nat.le_of_ble_eq_true rfl⟩
  have stX6_within := S.2.2.2.2 (.static yX6_within) (by decide +kernel)
  refine lv_iload_n S.1 S.2.1 dX2_hasType_0 rfl (lv_at hl 1 rfl) ?_
  refine lv_i2l S.1 S.2.1 dX2_hasType_1 rfl ?_
  refine lv_iconst (v := 0) S.1 S.2.1 dX2_hasType_2 rfl ?_
  refine lv_aload_n S.1 S.2.1 dX2_hasType_3 rfl (lv_at hl 0 rfl) ?_
  refine r_getI (j := 0) S hW inX2 rfl f39 rfl LH_75 (by decide) rfl dX2_hasType_4 ?_
  refine lv_iconst (v := 1) S.1 S.2.1 dX2_hasType_7 rfl ?_
  refine lv_isub S.1 S.2.1 dX2_hasType_8 ?_
  refine r_goI (r_runN (rest := []) S hW (mX6_within l D T LH σ M (a1.toInt64) (0 : Int32) ((M.1 75 0) - (1 : Int32)) _ h) w43 stX6_within rfl hl.1 rfl (Nat.le_of_ble_eq_true rfl) dX2_hasType_9 ⟨Nat.zero_le _, Nat.zero_le _⟩) hW (fun r1 M2 H locs h hW => ?_)
  exact r_zret S hr hlk hW h.1 h.2 dX2_hasType_12

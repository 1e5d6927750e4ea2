set_option maxHeartbeats 4000000 in
set_option maxRecDepth 100000 in
theorem lc_ask (Rel : Mem → Mem → Prop) {p : Program} {e : Env} {s : State} {m : MethodId} {below : List Frame} {meth : Method} {c : Code} (l : Launch) {b L : Nat} {xs : Nat → Int32} (D : va_G) (T : Nat → ClassId) (σ τ : Nat → Nat) (hdis : ∀ i, i < LH.length → ∀ j, j < LM.length → σ i ≠ τ j) (S : CallFix p m c cL_law 4 s #[Value.ref b] wsL_law RL) (hX : va_X b L xs s s.heap) (hbl : b < s.heap.size)
    (hk_ask : ∀ (M N : Mem), Rel M N → ∀ (a0 : Int32) (a1 : Int32) (a2 : Int32),  qX6_ask a0 a1 a2 M (fun r M => qX7_ask a0 a1 a2 N (fun r2 N => r = r2 ∧ Rel M N)))
    {iv : Int32} (hi1 : vp_in (iv + 1) L) (hi2 : vp_in (iv + 2) L) (hi3 : vp_in (iv + 3) L) (hi4 : vp_in (iv + 4) L) (hi5 : vp_in (iv + 5) L) {M N : Mem} (hR : Rel M N) {H : Heap} {locs : List Loc} {ls : Array Slot} (hW : Wd D T LH σ M (fun q : Nat => s.heap.size ≤ q) s s.heap H locs) (hV : Wd D T LM τ N (fun q : Nat => s.heap.size ≤ q) s s.heap H locs) (hl : lv_has ls 4 [(0, .ref b), (1, .ref (σ 0)), (2, .ref (τ 0)), (3, .int iv)])
    (hend : ∀ (M N : Mem), Rel M N → ∀ (H : Heap) (locs : List Loc) (ls : Array Slot), Wd D T LH σ M (fun q : Nat => s.heap.size ≤ q) s s.heap H locs → Wd D T LM τ N (fun q : Nat => s.heap.size ≤ q) s s.heap H locs → lv_has ls 4 [(0, .ref b), (1, .ref (σ 0)), (2, .ref (τ 0)), (3, .int iv)] → W p l e room_1 s m #[Value.ref b] below meth c H locs 132 48197 (lw_Z below #[Value.ref b] s) (F0 m 1170 ls [])) : W p l e room_1 s m #[Value.ref b] below meth c H locs 132 48197 (lw_Z below #[Value.ref b] s) (F0 m 500 ls []) := by
  have hbA : ¬ (fun q : Nat => s.heap.size ≤ q) b := Nat.not_le.mpr hbl
  refine lv_aload_n S.1 S.2.1 dL_law_500 rfl (lv_at hl 1 rfl) ?_
  refine lv_aload_n S.1 S.2.1 dL_law_501 rfl (lv_at hl 0 rfl) ?_
  refine lv_iload_n S.1 S.2.1 dL_law_502 rfl (lv_at hl 3 rfl) ?_
  refine lv_iconst (v := 1) S.1 S.2.1 dL_law_503 rfl ?_
  refine lv_iadd S.1 S.2.1 dL_law_504 ?_
  refine va_sld S.1 S.2.1 hX hbl hbA hW.2.2.2.1 hi1 dL_law_505 ?_
  refine lv_aload_n S.1 S.2.1 dL_law_506 rfl (lv_at hl 0 rfl) ?_
  refine lv_iload_n S.1 S.2.1 dL_law_507 rfl (lv_at hl 3 rfl) ?_
  refine lv_iconst (v := 2) S.1 S.2.1 dL_law_508 rfl ?_
  refine lv_iadd S.1 S.2.1 dL_law_509 ?_
  refine va_sld S.1 S.2.1 hX hbl hbA hW.2.2.2.1 hi2 dL_law_510 ?_
  refine lv_aload_n S.1 S.2.1 dL_law_511 rfl (lv_at hl 0 rfl) ?_
  refine lv_iload_n S.1 S.2.1 dL_law_512 rfl (lv_at hl 3 rfl) ?_
  refine lv_iconst (v := 3) S.1 S.2.1 dL_law_513 rfl ?_
  refine lv_iadd S.1 S.2.1 dL_law_514 ?_
  refine va_sld S.1 S.2.1 hX hbl hbA hW.2.2.2.1 hi3 dL_law_515 ?_
  have h := hk_ask M N hR (xs (iv + (1 : Int32)).toNatClampNeg) (xs (iv + (2 : Int32)).toNatClampNeg) (xs (iv + (3 : Int32)).toNatClampNeg)
  refine r_goI2 (r_runV (rest := []) S hW (mX6_ask l D T σ M (xs (iv + (1 : Int32)).toNatClampNeg) (xs (iv + (2 : Int32)).toNatClampNeg) (xs (iv + (3 : Int32)).toNatClampNeg) _ h) (cwV (R := room_1) (rm := rmX6_ask) (mc := 0) (ms := 0) 3 S.2.2.2.2 gL_law_X6_ask rfl rfl rfl (by decide +kernel) ⟨Nat.le_of_ble_eq_true rfl, Nat.le_of_ble_eq_true rfl⟩) rfl LH_0 rfl hl.1 rfl (Nat.le_of_ble_eq_true rfl) dL_law_516 ⟨Nat.le_of_ble_eq_true rfl, Nat.le_of_ble_eq_true rfl⟩) hW (fun r M H locs h hW hfr => ?_)
  have hV := keepW hV hW hfr hdis
  refine lv_aload_n S.1 S.2.1 dL_law_519 rfl (lv_at hl 2 rfl) ?_
  refine lv_aload_n S.1 S.2.1 dL_law_520 rfl (lv_at hl 0 rfl) ?_
  refine lv_iload_n S.1 S.2.1 dL_law_521 rfl (lv_at hl 3 rfl) ?_
  refine lv_iconst (v := 1) S.1 S.2.1 dL_law_522 rfl ?_
  refine lv_iadd S.1 S.2.1 dL_law_523 ?_
  refine va_sld S.1 S.2.1 hX hbl hbA hW.2.2.2.1 hi1 dL_law_524 ?_
  refine lv_aload_n S.1 S.2.1 dL_law_525 rfl (lv_at hl 0 rfl) ?_
  refine lv_iload_n S.1 S.2.1 dL_law_526 rfl (lv_at hl 3 rfl) ?_
  refine lv_iconst (v := 2) S.1 S.2.1 dL_law_527 rfl ?_
  refine lv_iadd S.1 S.2.1 dL_law_528 ?_
  refine va_sld S.1 S.2.1 hX hbl hbA hW.2.2.2.1 hi2 dL_law_529 ?_
  refine lv_aload_n S.1 S.2.1 dL_law_530 rfl (lv_at hl 0 rfl) ?_
  refine lv_iload_n S.1 S.2.1 dL_law_531 rfl (lv_at hl 3 rfl) ?_
  refine lv_iconst (v := 3) S.1 S.2.1 dL_law_532 rfl ?_
  refine lv_iadd S.1 S.2.1 dL_law_533 ?_
  refine va_sld S.1 S.2.1 hX hbl hbA hW.2.2.2.1 hi3 dL_law_534 ?_
  refine r_goI2 (r_runV (rest := [.int r]) S hV (mX7_ask l D T τ N (xs (iv + (1 : Int32)).toNatClampNeg) (xs (iv + (2 : Int32)).toNatClampNeg) (xs (iv + (3 : Int32)).toNatClampNeg) _ h) (cwV (R := room_1) (rm := rmX7_ask) (mc := 0) (ms := 0) 3 S.2.2.2.2 gL_law_X7_ask rfl rfl rfl (by decide +kernel) ⟨Nat.le_of_ble_eq_true rfl, Nat.le_of_ble_eq_true rfl⟩) rfl LM_0 rfl hl.1 rfl (Nat.le_of_ble_eq_true rfl) dL_law_535 ⟨Nat.le_of_ble_eq_true rfl, Nat.le_of_ble_eq_true rfl⟩) hV (fun r2 N H locs h hV hfr => ?_)
  have hW := keepW hW hV hfr (fun i hi j hj e => hdis j hj i hi e.symm)
  refine lv_icmp_eq (tgt := 1170) S.1 S.2.1 dL_law_538 (by decide) (fun c => ?_) (fun c => absurd h.1 c)
  exact hend _ _ h.2 _ _ _ hW hV hl
set_option maxHeartbeats 4000000 in
set_option maxRecDepth 100000 in
theorem lc_apart (Rel : Mem → Mem → Prop) {p : Program} {e : Env} {s : State} {m : MethodId} {below : List Frame} {meth : Method} {c : Code} (l : Launch) {b L : Nat} {xs : Nat → Int32} (D : va_G) (T : Nat → ClassId) (σ τ : Nat → Nat) (hdis : ∀ i, i < LH.length → ∀ j, j < LM.length → σ i ≠ τ j) (S : CallFix p m c cL_law 4 s #[Value.ref b] wsL_law RL) (hX : va_X b L xs s s.heap) (hbl : b < s.heap.size)
    (hk_apart : ∀ (M N : Mem), Rel M N → ∀ (a0 : Int32) (a1 : Int32) (a2 : Int32), (a2 = 0 ∨ a2 = 1) →  qX6_apart a0 a1 a2 M (fun r M => qX7_apart a0 a1 a2 N (fun r2 N => r = r2 ∧ Rel M N)))
    {iv : Int32} (hi1 : vp_in (iv + 1) L) (hi2 : vp_in (iv + 2) L) (hi3 : vp_in (iv + 3) L) (hi4 : vp_in (iv + 4) L) (hi5 : vp_in (iv + 5) L) {M N : Mem} (hR : Rel M N) {H : Heap} {locs : List Loc} {ls : Array Slot} (hW : Wd D T LH σ M (fun q : Nat => s.heap.size ≤ q) s s.heap H locs) (hV : Wd D T LM τ N (fun q : Nat => s.heap.size ≤ q) s s.heap H locs) (hl : lv_has ls 4 [(0, .ref b), (1, .ref (σ 0)), (2, .ref (τ 0)), (3, .int iv)])
    (hend : ∀ (M N : Mem), Rel M N → ∀ (H : Heap) (locs : List Loc) (ls : Array Slot), Wd D T LH σ M (fun q : Nat => s.heap.size ≤ q) s s.heap H locs → Wd D T LM τ N (fun q : Nat => s.heap.size ≤ q) s s.heap H locs → lv_has ls 4 [(0, .ref b), (1, .ref (σ 0)), (2, .ref (τ 0)), (3, .int iv)] → W p l e room_1 s m #[Value.ref b] below meth c H locs 132 48197 (lw_Z below #[Value.ref b] s) (F0 m 1170 ls [])) : W p l e room_1 s m #[Value.ref b] below meth c H locs 132 48197 (lw_Z below #[Value.ref b] s) (F0 m 543 ls []) := by
  have hbA : ¬ (fun q : Nat => s.heap.size ≤ q) b := Nat.not_le.mpr hbl
  refine lv_aload_n S.1 S.2.1 dL_law_543 rfl (lv_at hl 1 rfl) ?_
  refine lv_aload_n S.1 S.2.1 dL_law_544 rfl (lv_at hl 0 rfl) ?_
  refine lv_iload_n S.1 S.2.1 dL_law_545 rfl (lv_at hl 3 rfl) ?_
  refine lv_iconst (v := 1) S.1 S.2.1 dL_law_546 rfl ?_
  refine lv_iadd S.1 S.2.1 dL_law_547 ?_
  refine va_sld S.1 S.2.1 hX hbl hbA hW.2.2.2.1 hi1 dL_law_548 ?_
  refine lv_aload_n S.1 S.2.1 dL_law_549 rfl (lv_at hl 0 rfl) ?_
  refine lv_iload_n S.1 S.2.1 dL_law_550 rfl (lv_at hl 3 rfl) ?_
  refine lv_iconst (v := 2) S.1 S.2.1 dL_law_551 rfl ?_
  refine lv_iadd S.1 S.2.1 dL_law_552 ?_
  refine va_sld S.1 S.2.1 hX hbl hbA hW.2.2.2.1 hi2 dL_law_553 ?_
  refine lv_aload_n S.1 S.2.1 dL_law_554 rfl (lv_at hl 0 rfl) ?_
  refine lv_iload_n S.1 S.2.1 dL_law_555 rfl (lv_at hl 3 rfl) ?_
  refine lv_iconst (v := 3) S.1 S.2.1 dL_law_556 rfl ?_
  refine lv_iadd S.1 S.2.1 dL_law_557 ?_
  refine va_sld S.1 S.2.1 hX hbl hbA hW.2.2.2.1 hi3 dL_law_558 ?_
  refine lv_if_eq (tgt := 566) S.1 S.2.1 dL_law_559 (by decide) (fun c0 => ?_) (fun c0 => ?_)
  · skip
    refine lv_iconst (v := 0) S.1 S.2.1 dL_law_566 rfl ?_
    have h := hk_apart M N hR (xs (iv + (1 : Int32)).toNatClampNeg) (xs (iv + (2 : Int32)).toNatClampNeg) (0 : Int32) (by decide)
    refine r_goI2 (r_runV (rest := []) S hW (mX6_apart l D T σ M (xs (iv + (1 : Int32)).toNatClampNeg) (xs (iv + (2 : Int32)).toNatClampNeg) (0 : Int32) _ h) (cwV (R := room_1) (rm := rmX6_apart) (mc := 0) (ms := 0) 3 S.2.2.2.2 gL_law_X6_apart rfl rfl rfl (by decide +kernel) ⟨Nat.le_of_ble_eq_true rfl, Nat.le_of_ble_eq_true rfl⟩) rfl LH_0 rfl hl.1 rfl (Nat.le_of_ble_eq_true rfl) dL_law_567 ⟨Nat.le_of_ble_eq_true rfl, Nat.le_of_ble_eq_true rfl⟩) hW (fun r M H locs h hW hfr => ?_)
    have hV := keepW hV hW hfr hdis
    refine lv_aload_n S.1 S.2.1 dL_law_570 rfl (lv_at hl 2 rfl) ?_
    refine lv_aload_n S.1 S.2.1 dL_law_571 rfl (lv_at hl 0 rfl) ?_
    refine lv_iload_n S.1 S.2.1 dL_law_572 rfl (lv_at hl 3 rfl) ?_
    refine lv_iconst (v := 1) S.1 S.2.1 dL_law_573 rfl ?_
    refine lv_iadd S.1 S.2.1 dL_law_574 ?_
    refine va_sld S.1 S.2.1 hX hbl hbA hW.2.2.2.1 hi1 dL_law_575 ?_
    refine lv_aload_n S.1 S.2.1 dL_law_576 rfl (lv_at hl 0 rfl) ?_
    refine lv_iload_n S.1 S.2.1 dL_law_577 rfl (lv_at hl 3 rfl) ?_
    refine lv_iconst (v := 2) S.1 S.2.1 dL_law_578 rfl ?_
    refine lv_iadd S.1 S.2.1 dL_law_579 ?_
    refine va_sld S.1 S.2.1 hX hbl hbA hW.2.2.2.1 hi2 dL_law_580 ?_
    refine lv_aload_n S.1 S.2.1 dL_law_581 rfl (lv_at hl 0 rfl) ?_
    refine lv_iload_n S.1 S.2.1 dL_law_582 rfl (lv_at hl 3 rfl) ?_
    refine lv_iconst (v := 3) S.1 S.2.1 dL_law_583 rfl ?_
    refine lv_iadd S.1 S.2.1 dL_law_584 ?_
    refine va_sld S.1 S.2.1 hX hbl hbA hW.2.2.2.1 hi3 dL_law_585 ?_
    refine lv_if_eq (tgt := 593) S.1 S.2.1 dL_law_586 (by decide) (fun c => ?_) (fun c => ?_)
    · skip
      refine lv_iconst (v := 0) S.1 S.2.1 dL_law_593 rfl ?_
      refine r_goI2 (r_runV (rest := [.int r]) S hV (mX7_apart l D T τ N (xs (iv + (1 : Int32)).toNatClampNeg) (xs (iv + (2 : Int32)).toNatClampNeg) (0 : Int32) _ h) (cwV (R := room_1) (rm := rmX7_apart) (mc := 0) (ms := 0) 3 S.2.2.2.2 gL_law_X7_apart rfl rfl rfl (by decide +kernel) ⟨Nat.le_of_ble_eq_true rfl, Nat.le_of_ble_eq_true rfl⟩) rfl LM_0 rfl hl.1 rfl (Nat.le_of_ble_eq_true rfl) dL_law_594 ⟨Nat.le_of_ble_eq_true rfl, Nat.le_of_ble_eq_true rfl⟩) hV (fun r2 N H locs h hV hfr => ?_)
      have hW := keepW hW hV hfr (fun i hi j hj e => hdis j hj i hi e.symm)
      refine lv_icmp_eq (tgt := 1170) S.1 S.2.1 dL_law_597 (by decide) (fun c => ?_) (fun c => absurd h.1 c)
      exact hend _ _ h.2 _ _ _ hW hV hl
    · exact absurd c0 c
  · skip
    refine lv_iconst (v := 1) S.1 S.2.1 dL_law_562 rfl ?_
    refine lv_goto (tgt := 567) S.1 S.2.1 dL_law_563 (by decide) ?_
    have h := hk_apart M N hR (xs (iv + (1 : Int32)).toNatClampNeg) (xs (iv + (2 : Int32)).toNatClampNeg) (1 : Int32) (by decide)
    refine r_goI2 (r_runV (rest := []) S hW (mX6_apart l D T σ M (xs (iv + (1 : Int32)).toNatClampNeg) (xs (iv + (2 : Int32)).toNatClampNeg) (1 : Int32) _ h) (cwV (R := room_1) (rm := rmX6_apart) (mc := 0) (ms := 0) 3 S.2.2.2.2 gL_law_X6_apart rfl rfl rfl (by decide +kernel) ⟨Nat.le_of_ble_eq_true rfl, Nat.le_of_ble_eq_true rfl⟩) rfl LH_0 rfl hl.1 rfl (Nat.le_of_ble_eq_true rfl) dL_law_567 ⟨Nat.le_of_ble_eq_true rfl, Nat.le_of_ble_eq_true rfl⟩) hW (fun r M H locs h hW hfr => ?_)
    have hV := keepW hV hW hfr hdis
    refine lv_aload_n S.1 S.2.1 dL_law_570 rfl (lv_at hl 2 rfl) ?_
    refine lv_aload_n S.1 S.2.1 dL_law_571 rfl (lv_at hl 0 rfl) ?_
    refine lv_iload_n S.1 S.2.1 dL_law_572 rfl (lv_at hl 3 rfl) ?_
    refine lv_iconst (v := 1) S.1 S.2.1 dL_law_573 rfl ?_
    refine lv_iadd S.1 S.2.1 dL_law_574 ?_
    refine va_sld S.1 S.2.1 hX hbl hbA hW.2.2.2.1 hi1 dL_law_575 ?_
    refine lv_aload_n S.1 S.2.1 dL_law_576 rfl (lv_at hl 0 rfl) ?_
    refine lv_iload_n S.1 S.2.1 dL_law_577 rfl (lv_at hl 3 rfl) ?_
    refine lv_iconst (v := 2) S.1 S.2.1 dL_law_578 rfl ?_
    refine lv_iadd S.1 S.2.1 dL_law_579 ?_
    refine va_sld S.1 S.2.1 hX hbl hbA hW.2.2.2.1 hi2 dL_law_580 ?_
    refine lv_aload_n S.1 S.2.1 dL_law_581 rfl (lv_at hl 0 rfl) ?_
    refine lv_iload_n S.1 S.2.1 dL_law_582 rfl (lv_at hl 3 rfl) ?_
    refine lv_iconst (v := 3) S.1 S.2.1 dL_law_583 rfl ?_
    refine lv_iadd S.1 S.2.1 dL_law_584 ?_
    refine va_sld S.1 S.2.1 hX hbl hbA hW.2.2.2.1 hi3 dL_law_585 ?_
    refine lv_if_eq (tgt := 593) S.1 S.2.1 dL_law_586 (by decide) (fun c => ?_) (fun c => ?_)
    · exact absurd c c0
    · skip
      refine lv_iconst (v := 1) S.1 S.2.1 dL_law_589 rfl ?_
      refine lv_goto (tgt := 594) S.1 S.2.1 dL_law_590 (by decide) ?_
      refine r_goI2 (r_runV (rest := [.int r]) S hV (mX7_apart l D T τ N (xs (iv + (1 : Int32)).toNatClampNeg) (xs (iv + (2 : Int32)).toNatClampNeg) (1 : Int32) _ h) (cwV (R := room_1) (rm := rmX7_apart) (mc := 0) (ms := 0) 3 S.2.2.2.2 gL_law_X7_apart rfl rfl rfl (by decide +kernel) ⟨Nat.le_of_ble_eq_true rfl, Nat.le_of_ble_eq_true rfl⟩) rfl LM_0 rfl hl.1 rfl (Nat.le_of_ble_eq_true rfl) dL_law_594 ⟨Nat.le_of_ble_eq_true rfl, Nat.le_of_ble_eq_true rfl⟩) hV (fun r2 N H locs h hV hfr => ?_)
      have hW := keepW hW hV hfr (fun i hi j hj e => hdis j hj i hi e.symm)
      refine lv_icmp_eq (tgt := 1170) S.1 S.2.1 dL_law_597 (by decide) (fun c => ?_) (fun c => absurd h.1 c)
      exact hend _ _ h.2 _ _ _ hW hV hl
set_option maxHeartbeats 4000000 in
set_option maxRecDepth 100000 in
theorem lc_count (Rel : Mem → Mem → Prop) {p : Program} {e : Env} {s : State} {m : MethodId} {below : List Frame} {meth : Method} {c : Code} (l : Launch) {b L : Nat} {xs : Nat → Int32} (D : va_G) (T : Nat → ClassId) (σ τ : Nat → Nat) (hdis : ∀ i, i < LH.length → ∀ j, j < LM.length → σ i ≠ τ j) (S : CallFix p m c cL_law 4 s #[Value.ref b] wsL_law RL) (hX : va_X b L xs s s.heap) (hbl : b < s.heap.size)
    (hk_count : ∀ (M N : Mem), Rel M N → ∀ (a0 : Int32),  qX6_count a0 M (fun r M => qX7_count a0 N (fun r2 N => r = r2 ∧ Rel M N)))
    {iv : Int32} (hi1 : vp_in (iv + 1) L) (hi2 : vp_in (iv + 2) L) (hi3 : vp_in (iv + 3) L) (hi4 : vp_in (iv + 4) L) (hi5 : vp_in (iv + 5) L) {M N : Mem} (hR : Rel M N) {H : Heap} {locs : List Loc} {ls : Array Slot} (hW : Wd D T LH σ M (fun q : Nat => s.heap.size ≤ q) s s.heap H locs) (hV : Wd D T LM τ N (fun q : Nat => s.heap.size ≤ q) s s.heap H locs) (hl : lv_has ls 4 [(0, .ref b), (1, .ref (σ 0)), (2, .ref (τ 0)), (3, .int iv)])
    (hend : ∀ (M N : Mem), Rel M N → ∀ (H : Heap) (locs : List Loc) (ls : Array Slot), Wd D T LH σ M (fun q : Nat => s.heap.size ≤ q) s s.heap H locs → Wd D T LM τ N (fun q : Nat => s.heap.size ≤ q) s s.heap H locs → lv_has ls 4 [(0, .ref b), (1, .ref (σ 0)), (2, .ref (τ 0)), (3, .int iv)] → W p l e room_1 s m #[Value.ref b] below meth c H locs 132 48197 (lw_Z below #[Value.ref b] s) (F0 m 1170 ls [])) : W p l e room_1 s m #[Value.ref b] below meth c H locs 132 48197 (lw_Z below #[Value.ref b] s) (F0 m 602 ls []) := by
  have hbA : ¬ (fun q : Nat => s.heap.size ≤ q) b := Nat.not_le.mpr hbl
  refine lv_aload_n S.1 S.2.1 dL_law_602 rfl (lv_at hl 1 rfl) ?_
  refine lv_aload_n S.1 S.2.1 dL_law_603 rfl (lv_at hl 0 rfl) ?_
  refine lv_iload_n S.1 S.2.1 dL_law_604 rfl (lv_at hl 3 rfl) ?_
  refine lv_iconst (v := 1) S.1 S.2.1 dL_law_605 rfl ?_
  refine lv_iadd S.1 S.2.1 dL_law_606 ?_
  refine va_sld S.1 S.2.1 hX hbl hbA hW.2.2.2.1 hi1 dL_law_607 ?_
  have h := hk_count M N hR (xs (iv + (1 : Int32)).toNatClampNeg)
  refine r_goI2 (r_runV (rest := []) S hW (mX6_count l D T σ M (xs (iv + (1 : Int32)).toNatClampNeg) _ h) (cwV (R := room_1) (rm := rmX6_count) (mc := 0) (ms := 0) 1 S.2.2.2.2 gL_law_X6_count rfl rfl rfl (by decide +kernel) ⟨Nat.le_of_ble_eq_true rfl, Nat.le_of_ble_eq_true rfl⟩) rfl LH_0 rfl hl.1 rfl (Nat.le_of_ble_eq_true rfl) dL_law_608 ⟨Nat.le_of_ble_eq_true rfl, Nat.le_of_ble_eq_true rfl⟩) hW (fun r M H locs h hW hfr => ?_)
  have hV := keepW hV hW hfr hdis
  refine lv_aload_n S.1 S.2.1 dL_law_611 rfl (lv_at hl 2 rfl) ?_
  refine lv_aload_n S.1 S.2.1 dL_law_612 rfl (lv_at hl 0 rfl) ?_
  refine lv_iload_n S.1 S.2.1 dL_law_613 rfl (lv_at hl 3 rfl) ?_
  refine lv_iconst (v := 1) S.1 S.2.1 dL_law_614 rfl ?_
  refine lv_iadd S.1 S.2.1 dL_law_615 ?_
  refine va_sld S.1 S.2.1 hX hbl hbA hW.2.2.2.1 hi1 dL_law_616 ?_
  refine r_goI2 (r_runV (rest := [.int r]) S hV (mX7_count l D T τ N (xs (iv + (1 : Int32)).toNatClampNeg) _ h) (cwV (R := room_1) (rm := rmX7_count) (mc := 0) (ms := 0) 1 S.2.2.2.2 gL_law_X7_count rfl rfl rfl (by decide +kernel) ⟨Nat.le_of_ble_eq_true rfl, Nat.le_of_ble_eq_true rfl⟩) rfl LM_0 rfl hl.1 rfl (Nat.le_of_ble_eq_true rfl) dL_law_617 ⟨Nat.le_of_ble_eq_true rfl, Nat.le_of_ble_eq_true rfl⟩) hV (fun r2 N H locs h hV hfr => ?_)
  have hW := keepW hW hV hfr (fun i hi j hj e => hdis j hj i hi e.symm)
  refine lv_icmp_eq (tgt := 1170) S.1 S.2.1 dL_law_620 (by decide) (fun c => ?_) (fun c => absurd h.1 c)
  exact hend _ _ h.2 _ _ _ hW hV hl
set_option maxHeartbeats 4000000 in
set_option maxRecDepth 100000 in
theorem lc_fits (Rel : Mem → Mem → Prop) {p : Program} {e : Env} {s : State} {m : MethodId} {below : List Frame} {meth : Method} {c : Code} (l : Launch) {b L : Nat} {xs : Nat → Int32} (D : va_G) (T : Nat → ClassId) (σ τ : Nat → Nat) (hdis : ∀ i, i < LH.length → ∀ j, j < LM.length → σ i ≠ τ j) (S : CallFix p m c cL_law 4 s #[Value.ref b] wsL_law RL) (hX : va_X b L xs s s.heap) (hbl : b < s.heap.size)
    (hk_fits : ∀ (M N : Mem), Rel M N → ∀ (a0 : Int32) (a1 : Int32),  qX6_fits a0 a1 M (fun r M => qX7_fits a0 a1 N (fun r2 N => r = r2 ∧ Rel M N)))
    {iv : Int32} (hi1 : vp_in (iv + 1) L) (hi2 : vp_in (iv + 2) L) (hi3 : vp_in (iv + 3) L) (hi4 : vp_in (iv + 4) L) (hi5 : vp_in (iv + 5) L) {M N : Mem} (hR : Rel M N) {H : Heap} {locs : List Loc} {ls : Array Slot} (hW : Wd D T LH σ M (fun q : Nat => s.heap.size ≤ q) s s.heap H locs) (hV : Wd D T LM τ N (fun q : Nat => s.heap.size ≤ q) s s.heap H locs) (hl : lv_has ls 4 [(0, .ref b), (1, .ref (σ 0)), (2, .ref (τ 0)), (3, .int iv)])
    (hend : ∀ (M N : Mem), Rel M N → ∀ (H : Heap) (locs : List Loc) (ls : Array Slot), Wd D T LH σ M (fun q : Nat => s.heap.size ≤ q) s s.heap H locs → Wd D T LM τ N (fun q : Nat => s.heap.size ≤ q) s s.heap H locs → lv_has ls 4 [(0, .ref b), (1, .ref (σ 0)), (2, .ref (τ 0)), (3, .int iv)] → W p l e room_1 s m #[Value.ref b] below meth c H locs 132 48197 (lw_Z below #[Value.ref b] s) (F0 m 1170 ls [])) : W p l e room_1 s m #[Value.ref b] below meth c H locs 132 48197 (lw_Z below #[Value.ref b] s) (F0 m 625 ls []) := by
  have hbA : ¬ (fun q : Nat => s.heap.size ≤ q) b := Nat.not_le.mpr hbl
  refine lv_aload_n S.1 S.2.1 dL_law_625 rfl (lv_at hl 1 rfl) ?_
  refine lv_aload_n S.1 S.2.1 dL_law_626 rfl (lv_at hl 0 rfl) ?_
  refine lv_iload_n S.1 S.2.1 dL_law_627 rfl (lv_at hl 3 rfl) ?_
  refine lv_iconst (v := 1) S.1 S.2.1 dL_law_628 rfl ?_
  refine lv_iadd S.1 S.2.1 dL_law_629 ?_
  refine va_sld S.1 S.2.1 hX hbl hbA hW.2.2.2.1 hi1 dL_law_630 ?_
  refine lv_aload_n S.1 S.2.1 dL_law_631 rfl (lv_at hl 0 rfl) ?_
  refine lv_iload_n S.1 S.2.1 dL_law_632 rfl (lv_at hl 3 rfl) ?_
  refine lv_iconst (v := 2) S.1 S.2.1 dL_law_633 rfl ?_
  refine lv_iadd S.1 S.2.1 dL_law_634 ?_
  refine va_sld S.1 S.2.1 hX hbl hbA hW.2.2.2.1 hi2 dL_law_635 ?_
  have h := hk_fits M N hR (xs (iv + (1 : Int32)).toNatClampNeg) (xs (iv + (2 : Int32)).toNatClampNeg)
  refine r_goI2 (r_runV (rest := []) S hW (mX6_fits l D T σ M (xs (iv + (1 : Int32)).toNatClampNeg) (xs (iv + (2 : Int32)).toNatClampNeg) _ h) (cwV (R := room_1) (rm := rmX6_fits) (mc := 0) (ms := 0) 2 S.2.2.2.2 gL_law_X6_fits rfl rfl rfl (by decide +kernel) ⟨Nat.le_of_ble_eq_true rfl, Nat.le_of_ble_eq_true rfl⟩) rfl LH_0 rfl hl.1 rfl (Nat.le_of_ble_eq_true rfl) dL_law_636 ⟨Nat.le_of_ble_eq_true rfl, Nat.le_of_ble_eq_true rfl⟩) hW (fun r M H locs h hW hfr => ?_)
  have hV := keepW hV hW hfr hdis
  refine lv_aload_n S.1 S.2.1 dL_law_639 rfl (lv_at hl 2 rfl) ?_
  refine lv_aload_n S.1 S.2.1 dL_law_640 rfl (lv_at hl 0 rfl) ?_
  refine lv_iload_n S.1 S.2.1 dL_law_641 rfl (lv_at hl 3 rfl) ?_
  refine lv_iconst (v := 1) S.1 S.2.1 dL_law_642 rfl ?_
  refine lv_iadd S.1 S.2.1 dL_law_643 ?_
  refine va_sld S.1 S.2.1 hX hbl hbA hW.2.2.2.1 hi1 dL_law_644 ?_
  refine lv_aload_n S.1 S.2.1 dL_law_645 rfl (lv_at hl 0 rfl) ?_
  refine lv_iload_n S.1 S.2.1 dL_law_646 rfl (lv_at hl 3 rfl) ?_
  refine lv_iconst (v := 2) S.1 S.2.1 dL_law_647 rfl ?_
  refine lv_iadd S.1 S.2.1 dL_law_648 ?_
  refine va_sld S.1 S.2.1 hX hbl hbA hW.2.2.2.1 hi2 dL_law_649 ?_
  refine r_goI2 (r_runV (rest := [.int r]) S hV (mX7_fits l D T τ N (xs (iv + (1 : Int32)).toNatClampNeg) (xs (iv + (2 : Int32)).toNatClampNeg) _ h) (cwV (R := room_1) (rm := rmX7_fits) (mc := 0) (ms := 0) 2 S.2.2.2.2 gL_law_X7_fits rfl rfl rfl (by decide +kernel) ⟨Nat.le_of_ble_eq_true rfl, Nat.le_of_ble_eq_true rfl⟩) rfl LM_0 rfl hl.1 rfl (Nat.le_of_ble_eq_true rfl) dL_law_650 ⟨Nat.le_of_ble_eq_true rfl, Nat.le_of_ble_eq_true rfl⟩) hV (fun r2 N H locs h hV hfr => ?_)
  have hW := keepW hW hV hfr (fun i hi j hj e => hdis j hj i hi e.symm)
  refine lv_icmp_eq (tgt := 1170) S.1 S.2.1 dL_law_653 (by decide) (fun c => ?_) (fun c => absurd h.1 c)
  exact hend _ _ h.2 _ _ _ hW hV hl
set_option maxHeartbeats 4000000 in
set_option maxRecDepth 100000 in
theorem lc_on (Rel : Mem → Mem → Prop) {p : Program} {e : Env} {s : State} {m : MethodId} {below : List Frame} {meth : Method} {c : Code} (l : Launch) {b L : Nat} {xs : Nat → Int32} (D : va_G) (T : Nat → ClassId) (σ τ : Nat → Nat) (hdis : ∀ i, i < LH.length → ∀ j, j < LM.length → σ i ≠ τ j) (S : CallFix p m c cL_law 4 s #[Value.ref b] wsL_law RL) (hX : va_X b L xs s s.heap) (hbl : b < s.heap.size)
    (hk_on : ∀ (M N : Mem), Rel M N → ∀ (a0 : Int32) (a1 : Int32) (a2 : Int32),  qX6_on a0 a1 a2 M (fun r M => qX7_on a0 a1 a2 N (fun r2 N => r = r2 ∧ Rel M N)))
    {iv : Int32} (hi1 : vp_in (iv + 1) L) (hi2 : vp_in (iv + 2) L) (hi3 : vp_in (iv + 3) L) (hi4 : vp_in (iv + 4) L) (hi5 : vp_in (iv + 5) L) {M N : Mem} (hR : Rel M N) {H : Heap} {locs : List Loc} {ls : Array Slot} (hW : Wd D T LH σ M (fun q : Nat => s.heap.size ≤ q) s s.heap H locs) (hV : Wd D T LM τ N (fun q : Nat => s.heap.size ≤ q) s s.heap H locs) (hl : lv_has ls 4 [(0, .ref b), (1, .ref (σ 0)), (2, .ref (τ 0)), (3, .int iv)])
    (hend : ∀ (M N : Mem), Rel M N → ∀ (H : Heap) (locs : List Loc) (ls : Array Slot), Wd D T LH σ M (fun q : Nat => s.heap.size ≤ q) s s.heap H locs → Wd D T LM τ N (fun q : Nat => s.heap.size ≤ q) s s.heap H locs → lv_has ls 4 [(0, .ref b), (1, .ref (σ 0)), (2, .ref (τ 0)), (3, .int iv)] → W p l e room_1 s m #[Value.ref b] below meth c H locs 132 48197 (lw_Z below #[Value.ref b] s) (F0 m 1170 ls [])) : W p l e room_1 s m #[Value.ref b] below meth c H locs 132 48197 (lw_Z below #[Value.ref b] s) (F0 m 658 ls []) := by
  have hbA : ¬ (fun q : Nat => s.heap.size ≤ q) b := Nat.not_le.mpr hbl
  refine lv_aload_n S.1 S.2.1 dL_law_658 rfl (lv_at hl 1 rfl) ?_
  refine lv_aload_n S.1 S.2.1 dL_law_659 rfl (lv_at hl 0 rfl) ?_
  refine lv_iload_n S.1 S.2.1 dL_law_660 rfl (lv_at hl 3 rfl) ?_
  refine lv_iconst (v := 1) S.1 S.2.1 dL_law_661 rfl ?_
  refine lv_iadd S.1 S.2.1 dL_law_662 ?_
  refine va_sld S.1 S.2.1 hX hbl hbA hW.2.2.2.1 hi1 dL_law_663 ?_
  refine lv_aload_n S.1 S.2.1 dL_law_664 rfl (lv_at hl 0 rfl) ?_
  refine lv_iload_n S.1 S.2.1 dL_law_665 rfl (lv_at hl 3 rfl) ?_
  refine lv_iconst (v := 2) S.1 S.2.1 dL_law_666 rfl ?_
  refine lv_iadd S.1 S.2.1 dL_law_667 ?_
  refine va_sld S.1 S.2.1 hX hbl hbA hW.2.2.2.1 hi2 dL_law_668 ?_
  refine lv_aload_n S.1 S.2.1 dL_law_669 rfl (lv_at hl 0 rfl) ?_
  refine lv_iload_n S.1 S.2.1 dL_law_670 rfl (lv_at hl 3 rfl) ?_
  refine lv_iconst (v := 3) S.1 S.2.1 dL_law_671 rfl ?_
  refine lv_iadd S.1 S.2.1 dL_law_672 ?_
  refine va_sld S.1 S.2.1 hX hbl hbA hW.2.2.2.1 hi3 dL_law_673 ?_
  have h := hk_on M N hR (xs (iv + (1 : Int32)).toNatClampNeg) (xs (iv + (2 : Int32)).toNatClampNeg) (xs (iv + (3 : Int32)).toNatClampNeg)
  refine r_goI2 (r_runV (rest := []) S hW (mX6_on l D T σ M (xs (iv + (1 : Int32)).toNatClampNeg) (xs (iv + (2 : Int32)).toNatClampNeg) (xs (iv + (3 : Int32)).toNatClampNeg) _ h) (cwV (R := room_1) (rm := rmX6_on) (mc := 0) (ms := 0) 3 S.2.2.2.2 gL_law_X6_on rfl rfl rfl (by decide +kernel) ⟨Nat.le_of_ble_eq_true rfl, Nat.le_of_ble_eq_true rfl⟩) rfl LH_0 rfl hl.1 rfl (Nat.le_of_ble_eq_true rfl) dL_law_674 ⟨Nat.le_of_ble_eq_true rfl, Nat.le_of_ble_eq_true rfl⟩) hW (fun r M H locs h hW hfr => ?_)
  have hV := keepW hV hW hfr hdis
  refine lv_aload_n S.1 S.2.1 dL_law_677 rfl (lv_at hl 2 rfl) ?_
  refine lv_aload_n S.1 S.2.1 dL_law_678 rfl (lv_at hl 0 rfl) ?_
  refine lv_iload_n S.1 S.2.1 dL_law_679 rfl (lv_at hl 3 rfl) ?_
  refine lv_iconst (v := 1) S.1 S.2.1 dL_law_680 rfl ?_
  refine lv_iadd S.1 S.2.1 dL_law_681 ?_
  refine va_sld S.1 S.2.1 hX hbl hbA hW.2.2.2.1 hi1 dL_law_682 ?_
  refine lv_aload_n S.1 S.2.1 dL_law_683 rfl (lv_at hl 0 rfl) ?_
  refine lv_iload_n S.1 S.2.1 dL_law_684 rfl (lv_at hl 3 rfl) ?_
  refine lv_iconst (v := 2) S.1 S.2.1 dL_law_685 rfl ?_
  refine lv_iadd S.1 S.2.1 dL_law_686 ?_
  refine va_sld S.1 S.2.1 hX hbl hbA hW.2.2.2.1 hi2 dL_law_687 ?_
  refine lv_aload_n S.1 S.2.1 dL_law_688 rfl (lv_at hl 0 rfl) ?_
  refine lv_iload_n S.1 S.2.1 dL_law_689 rfl (lv_at hl 3 rfl) ?_
  refine lv_iconst (v := 3) S.1 S.2.1 dL_law_690 rfl ?_
  refine lv_iadd S.1 S.2.1 dL_law_691 ?_
  refine va_sld S.1 S.2.1 hX hbl hbA hW.2.2.2.1 hi3 dL_law_692 ?_
  refine r_goI2 (r_runV (rest := [.int r]) S hV (mX7_on l D T τ N (xs (iv + (1 : Int32)).toNatClampNeg) (xs (iv + (2 : Int32)).toNatClampNeg) (xs (iv + (3 : Int32)).toNatClampNeg) _ h) (cwV (R := room_1) (rm := rmX7_on) (mc := 0) (ms := 0) 3 S.2.2.2.2 gL_law_X7_on rfl rfl rfl (by decide +kernel) ⟨Nat.le_of_ble_eq_true rfl, Nat.le_of_ble_eq_true rfl⟩) rfl LM_0 rfl hl.1 rfl (Nat.le_of_ble_eq_true rfl) dL_law_693 ⟨Nat.le_of_ble_eq_true rfl, Nat.le_of_ble_eq_true rfl⟩) hV (fun r2 N H locs h hV hfr => ?_)
  have hW := keepW hW hV hfr (fun i hi j hj e => hdis j hj i hi e.symm)
  refine lv_icmp_eq (tgt := 1170) S.1 S.2.1 dL_law_696 (by decide) (fun c => ?_) (fun c => absurd h.1 c)
  exact hend _ _ h.2 _ _ _ hW hV hl
set_option maxHeartbeats 4000000 in
set_option maxRecDepth 100000 in
theorem lc_lack (Rel : Mem → Mem → Prop) {p : Program} {e : Env} {s : State} {m : MethodId} {below : List Frame} {meth : Method} {c : Code} (l : Launch) {b L : Nat} {xs : Nat → Int32} (D : va_G) (T : Nat → ClassId) (σ τ : Nat → Nat) (hdis : ∀ i, i < LH.length → ∀ j, j < LM.length → σ i ≠ τ j) (S : CallFix p m c cL_law 4 s #[Value.ref b] wsL_law RL) (hX : va_X b L xs s s.heap) (hbl : b < s.heap.size)
    (hk_lack : ∀ (M N : Mem), Rel M N → ∀ (a0 : Int32) (a1 : Int32),  qX6_lack a0 a1 M (fun r M => qX7_lack a0 a1 N (fun r2 N => r = r2 ∧ Rel M N)))
    {iv : Int32} (hi1 : vp_in (iv + 1) L) (hi2 : vp_in (iv + 2) L) (hi3 : vp_in (iv + 3) L) (hi4 : vp_in (iv + 4) L) (hi5 : vp_in (iv + 5) L) {M N : Mem} (hR : Rel M N) {H : Heap} {locs : List Loc} {ls : Array Slot} (hW : Wd D T LH σ M (fun q : Nat => s.heap.size ≤ q) s s.heap H locs) (hV : Wd D T LM τ N (fun q : Nat => s.heap.size ≤ q) s s.heap H locs) (hl : lv_has ls 4 [(0, .ref b), (1, .ref (σ 0)), (2, .ref (τ 0)), (3, .int iv)])
    (hend : ∀ (M N : Mem), Rel M N → ∀ (H : Heap) (locs : List Loc) (ls : Array Slot), Wd D T LH σ M (fun q : Nat => s.heap.size ≤ q) s s.heap H locs → Wd D T LM τ N (fun q : Nat => s.heap.size ≤ q) s s.heap H locs → lv_has ls 4 [(0, .ref b), (1, .ref (σ 0)), (2, .ref (τ 0)), (3, .int iv)] → W p l e room_1 s m #[Value.ref b] below meth c H locs 132 48197 (lw_Z below #[Value.ref b] s) (F0 m 1170 ls [])) : W p l e room_1 s m #[Value.ref b] below meth c H locs 132 48197 (lw_Z below #[Value.ref b] s) (F0 m 701 ls []) := by
  have hbA : ¬ (fun q : Nat => s.heap.size ≤ q) b := Nat.not_le.mpr hbl
  refine lv_aload_n S.1 S.2.1 dL_law_701 rfl (lv_at hl 1 rfl) ?_
  refine lv_aload_n S.1 S.2.1 dL_law_702 rfl (lv_at hl 0 rfl) ?_
  refine lv_iload_n S.1 S.2.1 dL_law_703 rfl (lv_at hl 3 rfl) ?_
  refine lv_iconst (v := 1) S.1 S.2.1 dL_law_704 rfl ?_
  refine lv_iadd S.1 S.2.1 dL_law_705 ?_
  refine va_sld S.1 S.2.1 hX hbl hbA hW.2.2.2.1 hi1 dL_law_706 ?_
  refine lv_aload_n S.1 S.2.1 dL_law_707 rfl (lv_at hl 0 rfl) ?_
  refine lv_iload_n S.1 S.2.1 dL_law_708 rfl (lv_at hl 3 rfl) ?_
  refine lv_iconst (v := 2) S.1 S.2.1 dL_law_709 rfl ?_
  refine lv_iadd S.1 S.2.1 dL_law_710 ?_
  refine va_sld S.1 S.2.1 hX hbl hbA hW.2.2.2.1 hi2 dL_law_711 ?_
  have h := hk_lack M N hR (xs (iv + (1 : Int32)).toNatClampNeg) (xs (iv + (2 : Int32)).toNatClampNeg)
  refine r_goI2 (r_runV (rest := []) S hW (mX6_lack l D T σ M (xs (iv + (1 : Int32)).toNatClampNeg) (xs (iv + (2 : Int32)).toNatClampNeg) _ h) (cwV (R := room_1) (rm := rmX6_lack) (mc := 0) (ms := 0) 2 S.2.2.2.2 gL_law_X6_lack rfl rfl rfl (by decide +kernel) ⟨Nat.le_of_ble_eq_true rfl, Nat.le_of_ble_eq_true rfl⟩) rfl LH_0 rfl hl.1 rfl (Nat.le_of_ble_eq_true rfl) dL_law_712 ⟨Nat.le_of_ble_eq_true rfl, Nat.le_of_ble_eq_true rfl⟩) hW (fun r M H locs h hW hfr => ?_)
  have hV := keepW hV hW hfr hdis
  refine lv_aload_n S.1 S.2.1 dL_law_715 rfl (lv_at hl 2 rfl) ?_
  refine lv_aload_n S.1 S.2.1 dL_law_716 rfl (lv_at hl 0 rfl) ?_
  refine lv_iload_n S.1 S.2.1 dL_law_717 rfl (lv_at hl 3 rfl) ?_
  refine lv_iconst (v := 1) S.1 S.2.1 dL_law_718 rfl ?_
  refine lv_iadd S.1 S.2.1 dL_law_719 ?_
  refine va_sld S.1 S.2.1 hX hbl hbA hW.2.2.2.1 hi1 dL_law_720 ?_
  refine lv_aload_n S.1 S.2.1 dL_law_721 rfl (lv_at hl 0 rfl) ?_
  refine lv_iload_n S.1 S.2.1 dL_law_722 rfl (lv_at hl 3 rfl) ?_
  refine lv_iconst (v := 2) S.1 S.2.1 dL_law_723 rfl ?_
  refine lv_iadd S.1 S.2.1 dL_law_724 ?_
  refine va_sld S.1 S.2.1 hX hbl hbA hW.2.2.2.1 hi2 dL_law_725 ?_
  refine r_goI2 (r_runV (rest := [.int r]) S hV (mX7_lack l D T τ N (xs (iv + (1 : Int32)).toNatClampNeg) (xs (iv + (2 : Int32)).toNatClampNeg) _ h) (cwV (R := room_1) (rm := rmX7_lack) (mc := 0) (ms := 0) 2 S.2.2.2.2 gL_law_X7_lack rfl rfl rfl (by decide +kernel) ⟨Nat.le_of_ble_eq_true rfl, Nat.le_of_ble_eq_true rfl⟩) rfl LM_0 rfl hl.1 rfl (Nat.le_of_ble_eq_true rfl) dL_law_726 ⟨Nat.le_of_ble_eq_true rfl, Nat.le_of_ble_eq_true rfl⟩) hV (fun r2 N H locs h hV hfr => ?_)
  have hW := keepW hW hV hfr (fun i hi j hj e => hdis j hj i hi e.symm)
  refine lv_icmp_eq (tgt := 1170) S.1 S.2.1 dL_law_729 (by decide) (fun c => ?_) (fun c => absurd h.1 c)
  exact hend _ _ h.2 _ _ _ hW hV hl
set_option maxHeartbeats 4000000 in
set_option maxRecDepth 100000 in
theorem lc_left (Rel : Mem → Mem → Prop) {p : Program} {e : Env} {s : State} {m : MethodId} {below : List Frame} {meth : Method} {c : Code} (l : Launch) {b L : Nat} {xs : Nat → Int32} (D : va_G) (T : Nat → ClassId) (σ τ : Nat → Nat) (hdis : ∀ i, i < LH.length → ∀ j, j < LM.length → σ i ≠ τ j) (S : CallFix p m c cL_law 4 s #[Value.ref b] wsL_law RL) (hX : va_X b L xs s s.heap) (hbl : b < s.heap.size)
    (hk_left : ∀ (M N : Mem), Rel M N → ∀ (a0 : Int32) (a1 : Int32),  qX6_left a0 a1 M (fun r M => qX7_left a0 a1 N (fun r2 N => r = r2 ∧ Rel M N)))
    {iv : Int32} (hi1 : vp_in (iv + 1) L) (hi2 : vp_in (iv + 2) L) (hi3 : vp_in (iv + 3) L) (hi4 : vp_in (iv + 4) L) (hi5 : vp_in (iv + 5) L) {M N : Mem} (hR : Rel M N) {H : Heap} {locs : List Loc} {ls : Array Slot} (hW : Wd D T LH σ M (fun q : Nat => s.heap.size ≤ q) s s.heap H locs) (hV : Wd D T LM τ N (fun q : Nat => s.heap.size ≤ q) s s.heap H locs) (hl : lv_has ls 4 [(0, .ref b), (1, .ref (σ 0)), (2, .ref (τ 0)), (3, .int iv)])
    (hend : ∀ (M N : Mem), Rel M N → ∀ (H : Heap) (locs : List Loc) (ls : Array Slot), Wd D T LH σ M (fun q : Nat => s.heap.size ≤ q) s s.heap H locs → Wd D T LM τ N (fun q : Nat => s.heap.size ≤ q) s s.heap H locs → lv_has ls 4 [(0, .ref b), (1, .ref (σ 0)), (2, .ref (τ 0)), (3, .int iv)] → W p l e room_1 s m #[Value.ref b] below meth c H locs 132 48197 (lw_Z below #[Value.ref b] s) (F0 m 1170 ls [])) : W p l e room_1 s m #[Value.ref b] below meth c H locs 132 48197 (lw_Z below #[Value.ref b] s) (F0 m 734 ls []) := by
  have hbA : ¬ (fun q : Nat => s.heap.size ≤ q) b := Nat.not_le.mpr hbl
  refine lv_aload_n S.1 S.2.1 dL_law_734 rfl (lv_at hl 1 rfl) ?_
  refine lv_aload_n S.1 S.2.1 dL_law_735 rfl (lv_at hl 0 rfl) ?_
  refine lv_iload_n S.1 S.2.1 dL_law_736 rfl (lv_at hl 3 rfl) ?_
  refine lv_iconst (v := 1) S.1 S.2.1 dL_law_737 rfl ?_
  refine lv_iadd S.1 S.2.1 dL_law_738 ?_
  refine va_sld S.1 S.2.1 hX hbl hbA hW.2.2.2.1 hi1 dL_law_739 ?_
  refine lv_aload_n S.1 S.2.1 dL_law_740 rfl (lv_at hl 0 rfl) ?_
  refine lv_iload_n S.1 S.2.1 dL_law_741 rfl (lv_at hl 3 rfl) ?_
  refine lv_iconst (v := 2) S.1 S.2.1 dL_law_742 rfl ?_
  refine lv_iadd S.1 S.2.1 dL_law_743 ?_
  refine va_sld S.1 S.2.1 hX hbl hbA hW.2.2.2.1 hi2 dL_law_744 ?_
  have h := hk_left M N hR (xs (iv + (1 : Int32)).toNatClampNeg) (xs (iv + (2 : Int32)).toNatClampNeg)
  refine r_goI2 (r_runV (rest := []) S hW (mX6_left l D T σ M (xs (iv + (1 : Int32)).toNatClampNeg) (xs (iv + (2 : Int32)).toNatClampNeg) _ h) (cwV (R := room_1) (rm := rmX6_left) (mc := 0) (ms := 0) 2 S.2.2.2.2 gL_law_X6_left rfl rfl rfl (by decide +kernel) ⟨Nat.le_of_ble_eq_true rfl, Nat.le_of_ble_eq_true rfl⟩) rfl LH_0 rfl hl.1 rfl (Nat.le_of_ble_eq_true rfl) dL_law_745 ⟨Nat.le_of_ble_eq_true rfl, Nat.le_of_ble_eq_true rfl⟩) hW (fun r M H locs h hW hfr => ?_)
  have hV := keepW hV hW hfr hdis
  refine lv_aload_n S.1 S.2.1 dL_law_748 rfl (lv_at hl 2 rfl) ?_
  refine lv_aload_n S.1 S.2.1 dL_law_749 rfl (lv_at hl 0 rfl) ?_
  refine lv_iload_n S.1 S.2.1 dL_law_750 rfl (lv_at hl 3 rfl) ?_
  refine lv_iconst (v := 1) S.1 S.2.1 dL_law_751 rfl ?_
  refine lv_iadd S.1 S.2.1 dL_law_752 ?_
  refine va_sld S.1 S.2.1 hX hbl hbA hW.2.2.2.1 hi1 dL_law_753 ?_
  refine lv_aload_n S.1 S.2.1 dL_law_754 rfl (lv_at hl 0 rfl) ?_
  refine lv_iload_n S.1 S.2.1 dL_law_755 rfl (lv_at hl 3 rfl) ?_
  refine lv_iconst (v := 2) S.1 S.2.1 dL_law_756 rfl ?_
  refine lv_iadd S.1 S.2.1 dL_law_757 ?_
  refine va_sld S.1 S.2.1 hX hbl hbA hW.2.2.2.1 hi2 dL_law_758 ?_
  refine r_goI2 (r_runV (rest := [.int r]) S hV (mX7_left l D T τ N (xs (iv + (1 : Int32)).toNatClampNeg) (xs (iv + (2 : Int32)).toNatClampNeg) _ h) (cwV (R := room_1) (rm := rmX7_left) (mc := 0) (ms := 0) 2 S.2.2.2.2 gL_law_X7_left rfl rfl rfl (by decide +kernel) ⟨Nat.le_of_ble_eq_true rfl, Nat.le_of_ble_eq_true rfl⟩) rfl LM_0 rfl hl.1 rfl (Nat.le_of_ble_eq_true rfl) dL_law_759 ⟨Nat.le_of_ble_eq_true rfl, Nat.le_of_ble_eq_true rfl⟩) hV (fun r2 N H locs h hV hfr => ?_)
  have hW := keepW hW hV hfr (fun i hi j hj e => hdis j hj i hi e.symm)
  refine lv_icmp_eq (tgt := 1170) S.1 S.2.1 dL_law_762 (by decide) (fun c => ?_) (fun c => absurd h.1 c)
  exact hend _ _ h.2 _ _ _ hW hV hl
set_option maxHeartbeats 4000000 in
set_option maxRecDepth 100000 in
theorem lc_enough (Rel : Mem → Mem → Prop) {p : Program} {e : Env} {s : State} {m : MethodId} {below : List Frame} {meth : Method} {c : Code} (l : Launch) {b L : Nat} {xs : Nat → Int32} (D : va_G) (T : Nat → ClassId) (σ τ : Nat → Nat) (hdis : ∀ i, i < LH.length → ∀ j, j < LM.length → σ i ≠ τ j) (S : CallFix p m c cL_law 4 s #[Value.ref b] wsL_law RL) (hX : va_X b L xs s s.heap) (hbl : b < s.heap.size)
    (hk_enough : ∀ (M N : Mem), Rel M N → ∀ (a0 : Int32),  qX6_enough a0 M (fun r M => qX7_enough a0 N (fun r2 N => r = r2 ∧ Rel M N)))
    {iv : Int32} (hi1 : vp_in (iv + 1) L) (hi2 : vp_in (iv + 2) L) (hi3 : vp_in (iv + 3) L) (hi4 : vp_in (iv + 4) L) (hi5 : vp_in (iv + 5) L) {M N : Mem} (hR : Rel M N) {H : Heap} {locs : List Loc} {ls : Array Slot} (hW : Wd D T LH σ M (fun q : Nat => s.heap.size ≤ q) s s.heap H locs) (hV : Wd D T LM τ N (fun q : Nat => s.heap.size ≤ q) s s.heap H locs) (hl : lv_has ls 4 [(0, .ref b), (1, .ref (σ 0)), (2, .ref (τ 0)), (3, .int iv)])
    (hend : ∀ (M N : Mem), Rel M N → ∀ (H : Heap) (locs : List Loc) (ls : Array Slot), Wd D T LH σ M (fun q : Nat => s.heap.size ≤ q) s s.heap H locs → Wd D T LM τ N (fun q : Nat => s.heap.size ≤ q) s s.heap H locs → lv_has ls 4 [(0, .ref b), (1, .ref (σ 0)), (2, .ref (τ 0)), (3, .int iv)] → W p l e room_1 s m #[Value.ref b] below meth c H locs 132 48197 (lw_Z below #[Value.ref b] s) (F0 m 1170 ls [])) : W p l e room_1 s m #[Value.ref b] below meth c H locs 132 48197 (lw_Z below #[Value.ref b] s) (F0 m 767 ls []) := by
  have hbA : ¬ (fun q : Nat => s.heap.size ≤ q) b := Nat.not_le.mpr hbl
  refine lv_aload_n S.1 S.2.1 dL_law_767 rfl (lv_at hl 1 rfl) ?_
  refine lv_aload_n S.1 S.2.1 dL_law_768 rfl (lv_at hl 0 rfl) ?_
  refine lv_iload_n S.1 S.2.1 dL_law_769 rfl (lv_at hl 3 rfl) ?_
  refine lv_iconst (v := 1) S.1 S.2.1 dL_law_770 rfl ?_
  refine lv_iadd S.1 S.2.1 dL_law_771 ?_
  refine va_sld S.1 S.2.1 hX hbl hbA hW.2.2.2.1 hi1 dL_law_772 ?_
  have h := hk_enough M N hR (xs (iv + (1 : Int32)).toNatClampNeg)
  refine r_goI2 (r_runV (rest := []) S hW (mX6_enough l D T σ M (xs (iv + (1 : Int32)).toNatClampNeg) _ h) (cwV (R := room_1) (rm := rmX6_enough) (mc := 0) (ms := 0) 1 S.2.2.2.2 gL_law_X6_enough rfl rfl rfl (by decide +kernel) ⟨Nat.le_of_ble_eq_true rfl, Nat.le_of_ble_eq_true rfl⟩) rfl LH_0 rfl hl.1 rfl (Nat.le_of_ble_eq_true rfl) dL_law_773 ⟨Nat.le_of_ble_eq_true rfl, Nat.le_of_ble_eq_true rfl⟩) hW (fun r M H locs h hW hfr => ?_)
  have hV := keepW hV hW hfr hdis
  refine lv_aload_n S.1 S.2.1 dL_law_776 rfl (lv_at hl 2 rfl) ?_
  refine lv_aload_n S.1 S.2.1 dL_law_777 rfl (lv_at hl 0 rfl) ?_
  refine lv_iload_n S.1 S.2.1 dL_law_778 rfl (lv_at hl 3 rfl) ?_
  refine lv_iconst (v := 1) S.1 S.2.1 dL_law_779 rfl ?_
  refine lv_iadd S.1 S.2.1 dL_law_780 ?_
  refine va_sld S.1 S.2.1 hX hbl hbA hW.2.2.2.1 hi1 dL_law_781 ?_
  refine r_goI2 (r_runV (rest := [.int r]) S hV (mX7_enough l D T τ N (xs (iv + (1 : Int32)).toNatClampNeg) _ h) (cwV (R := room_1) (rm := rmX7_enough) (mc := 0) (ms := 0) 1 S.2.2.2.2 gL_law_X7_enough rfl rfl rfl (by decide +kernel) ⟨Nat.le_of_ble_eq_true rfl, Nat.le_of_ble_eq_true rfl⟩) rfl LM_0 rfl hl.1 rfl (Nat.le_of_ble_eq_true rfl) dL_law_782 ⟨Nat.le_of_ble_eq_true rfl, Nat.le_of_ble_eq_true rfl⟩) hV (fun r2 N H locs h hV hfr => ?_)
  have hW := keepW hW hV hfr (fun i hi j hj e => hdis j hj i hi e.symm)
  refine lv_icmp_eq (tgt := 1170) S.1 S.2.1 dL_law_785 (by decide) (fun c => ?_) (fun c => absurd h.1 c)
  exact hend _ _ h.2 _ _ _ hW hV hl
set_option maxHeartbeats 4000000 in
set_option maxRecDepth 100000 in
theorem lc_batch (Rel : Mem → Mem → Prop) {p : Program} {e : Env} {s : State} {m : MethodId} {below : List Frame} {meth : Method} {c : Code} (l : Launch) {b L : Nat} {xs : Nat → Int32} (D : va_G) (T : Nat → ClassId) (σ τ : Nat → Nat) (hdis : ∀ i, i < LH.length → ∀ j, j < LM.length → σ i ≠ τ j) (S : CallFix p m c cL_law 4 s #[Value.ref b] wsL_law RL) (hX : va_X b L xs s s.heap) (hbl : b < s.heap.size)
    (hk_batch : ∀ (M N : Mem), Rel M N → ∀ (a0 : Int32) (a1 : Int32) (a2 : Int32) (a3 : Int32),  qX6_batch a0 a1 a2 a3 M (fun r M => qX7_batch a0 a1 a2 a3 N (fun r2 N => r = r2 ∧ Rel M N)))
    {iv : Int32} (hi1 : vp_in (iv + 1) L) (hi2 : vp_in (iv + 2) L) (hi3 : vp_in (iv + 3) L) (hi4 : vp_in (iv + 4) L) (hi5 : vp_in (iv + 5) L) {M N : Mem} (hR : Rel M N) {H : Heap} {locs : List Loc} {ls : Array Slot} (hW : Wd D T LH σ M (fun q : Nat => s.heap.size ≤ q) s s.heap H locs) (hV : Wd D T LM τ N (fun q : Nat => s.heap.size ≤ q) s s.heap H locs) (hl : lv_has ls 4 [(0, .ref b), (1, .ref (σ 0)), (2, .ref (τ 0)), (3, .int iv)])
    (hend : ∀ (M N : Mem), Rel M N → ∀ (H : Heap) (locs : List Loc) (ls : Array Slot), Wd D T LH σ M (fun q : Nat => s.heap.size ≤ q) s s.heap H locs → Wd D T LM τ N (fun q : Nat => s.heap.size ≤ q) s s.heap H locs → lv_has ls 4 [(0, .ref b), (1, .ref (σ 0)), (2, .ref (τ 0)), (3, .int iv)] → W p l e room_1 s m #[Value.ref b] below meth c H locs 132 48197 (lw_Z below #[Value.ref b] s) (F0 m 1170 ls [])) : W p l e room_1 s m #[Value.ref b] below meth c H locs 132 48197 (lw_Z below #[Value.ref b] s) (F0 m 790 ls []) := by
  have hbA : ¬ (fun q : Nat => s.heap.size ≤ q) b := Nat.not_le.mpr hbl
  refine lv_aload_n S.1 S.2.1 dL_law_790 rfl (lv_at hl 1 rfl) ?_
  refine lv_aload_n S.1 S.2.1 dL_law_791 rfl (lv_at hl 0 rfl) ?_
  refine lv_iload_n S.1 S.2.1 dL_law_792 rfl (lv_at hl 3 rfl) ?_
  refine lv_iconst (v := 1) S.1 S.2.1 dL_law_793 rfl ?_
  refine lv_iadd S.1 S.2.1 dL_law_794 ?_
  refine va_sld S.1 S.2.1 hX hbl hbA hW.2.2.2.1 hi1 dL_law_795 ?_
  refine lv_aload_n S.1 S.2.1 dL_law_796 rfl (lv_at hl 0 rfl) ?_
  refine lv_iload_n S.1 S.2.1 dL_law_797 rfl (lv_at hl 3 rfl) ?_
  refine lv_iconst (v := 2) S.1 S.2.1 dL_law_798 rfl ?_
  refine lv_iadd S.1 S.2.1 dL_law_799 ?_
  refine va_sld S.1 S.2.1 hX hbl hbA hW.2.2.2.1 hi2 dL_law_800 ?_
  refine lv_aload_n S.1 S.2.1 dL_law_801 rfl (lv_at hl 0 rfl) ?_
  refine lv_iload_n S.1 S.2.1 dL_law_802 rfl (lv_at hl 3 rfl) ?_
  refine lv_iconst (v := 3) S.1 S.2.1 dL_law_803 rfl ?_
  refine lv_iadd S.1 S.2.1 dL_law_804 ?_
  refine va_sld S.1 S.2.1 hX hbl hbA hW.2.2.2.1 hi3 dL_law_805 ?_
  refine lv_aload_n S.1 S.2.1 dL_law_806 rfl (lv_at hl 0 rfl) ?_
  refine lv_iload_n S.1 S.2.1 dL_law_807 rfl (lv_at hl 3 rfl) ?_
  refine lv_iconst (v := 4) S.1 S.2.1 dL_law_808 rfl ?_
  refine lv_iadd S.1 S.2.1 dL_law_809 ?_
  refine va_sld S.1 S.2.1 hX hbl hbA hW.2.2.2.1 hi4 dL_law_810 ?_
  have h := hk_batch M N hR (xs (iv + (1 : Int32)).toNatClampNeg) (xs (iv + (2 : Int32)).toNatClampNeg) (xs (iv + (3 : Int32)).toNatClampNeg) (xs (iv + (4 : Int32)).toNatClampNeg)
  refine r_goI2 (r_runV (rest := []) S hW (mX6_batch l D T σ M (xs (iv + (1 : Int32)).toNatClampNeg) (xs (iv + (2 : Int32)).toNatClampNeg) (xs (iv + (3 : Int32)).toNatClampNeg) (xs (iv + (4 : Int32)).toNatClampNeg) _ h) (cwV (R := room_1) (rm := rmX6_batch) (mc := 0) (ms := 0) 4 S.2.2.2.2 gL_law_X6_batch rfl rfl rfl (by decide +kernel) ⟨Nat.le_of_ble_eq_true rfl, Nat.le_of_ble_eq_true rfl⟩) rfl LH_0 rfl hl.1 rfl (Nat.le_of_ble_eq_true rfl) dL_law_811 ⟨Nat.le_of_ble_eq_true rfl, Nat.le_of_ble_eq_true rfl⟩) hW (fun r M H locs h hW hfr => ?_)
  have hV := keepW hV hW hfr hdis
  refine lv_aload_n S.1 S.2.1 dL_law_814 rfl (lv_at hl 2 rfl) ?_
  refine lv_aload_n S.1 S.2.1 dL_law_815 rfl (lv_at hl 0 rfl) ?_
  refine lv_iload_n S.1 S.2.1 dL_law_816 rfl (lv_at hl 3 rfl) ?_
  refine lv_iconst (v := 1) S.1 S.2.1 dL_law_817 rfl ?_
  refine lv_iadd S.1 S.2.1 dL_law_818 ?_
  refine va_sld S.1 S.2.1 hX hbl hbA hW.2.2.2.1 hi1 dL_law_819 ?_
  refine lv_aload_n S.1 S.2.1 dL_law_820 rfl (lv_at hl 0 rfl) ?_
  refine lv_iload_n S.1 S.2.1 dL_law_821 rfl (lv_at hl 3 rfl) ?_
  refine lv_iconst (v := 2) S.1 S.2.1 dL_law_822 rfl ?_
  refine lv_iadd S.1 S.2.1 dL_law_823 ?_
  refine va_sld S.1 S.2.1 hX hbl hbA hW.2.2.2.1 hi2 dL_law_824 ?_
  refine lv_aload_n S.1 S.2.1 dL_law_825 rfl (lv_at hl 0 rfl) ?_
  refine lv_iload_n S.1 S.2.1 dL_law_826 rfl (lv_at hl 3 rfl) ?_
  refine lv_iconst (v := 3) S.1 S.2.1 dL_law_827 rfl ?_
  refine lv_iadd S.1 S.2.1 dL_law_828 ?_
  refine va_sld S.1 S.2.1 hX hbl hbA hW.2.2.2.1 hi3 dL_law_829 ?_
  refine lv_aload_n S.1 S.2.1 dL_law_830 rfl (lv_at hl 0 rfl) ?_
  refine lv_iload_n S.1 S.2.1 dL_law_831 rfl (lv_at hl 3 rfl) ?_
  refine lv_iconst (v := 4) S.1 S.2.1 dL_law_832 rfl ?_
  refine lv_iadd S.1 S.2.1 dL_law_833 ?_
  refine va_sld S.1 S.2.1 hX hbl hbA hW.2.2.2.1 hi4 dL_law_834 ?_
  refine r_goI2 (r_runV (rest := [.int r]) S hV (mX7_batch l D T τ N (xs (iv + (1 : Int32)).toNatClampNeg) (xs (iv + (2 : Int32)).toNatClampNeg) (xs (iv + (3 : Int32)).toNatClampNeg) (xs (iv + (4 : Int32)).toNatClampNeg) _ h) (cwV (R := room_1) (rm := rmX7_batch) (mc := 0) (ms := 0) 4 S.2.2.2.2 gL_law_X7_batch rfl rfl rfl (by decide +kernel) ⟨Nat.le_of_ble_eq_true rfl, Nat.le_of_ble_eq_true rfl⟩) rfl LM_0 rfl hl.1 rfl (Nat.le_of_ble_eq_true rfl) dL_law_835 ⟨Nat.le_of_ble_eq_true rfl, Nat.le_of_ble_eq_true rfl⟩) hV (fun r2 N H locs h hV hfr => ?_)
  have hW := keepW hW hV hfr (fun i hi j hj e => hdis j hj i hi e.symm)
  refine lv_icmp_eq (tgt := 1170) S.1 S.2.1 dL_law_838 (by decide) (fun c => ?_) (fun c => absurd h.1 c)
  exact hend _ _ h.2 _ _ _ hW hV hl

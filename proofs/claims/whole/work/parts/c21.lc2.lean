set_option maxHeartbeats 4000000 in
set_option maxRecDepth 100000 in
theorem lc_rest (Rel : Mem → Mem → Prop) {p : Program} {e : Env} {s : State} {m : MethodId} {below : List Frame} {meth : Method} {c : Code} (l : Launch) {b L : Nat} {xs : Nat → Int32} (D : va_G) (T : Nat → ClassId) (σ τ : Nat → Nat) (hdis : ∀ i, i < LH.length → ∀ j, j < LM.length → σ i ≠ τ j) (S : CallFix p m c cL_law 4 s #[Value.ref b] wsL_law RL) (hX : va_X b L xs s s.heap) (hbl : b < s.heap.size)
    (hk_rest : ∀ (M N : Mem), Rel M N → ∀ (a0 : Int32),  qX6_rest a0 M (fun r M => qX7_rest a0 N (fun r2 N => r = r2 ∧ Rel M N)))
    {iv : Int32} (hi1 : vp_in (iv + 1) L) (hi2 : vp_in (iv + 2) L) (hi3 : vp_in (iv + 3) L) (hi4 : vp_in (iv + 4) L) (hi5 : vp_in (iv + 5) L) {M N : Mem} (hR : Rel M N) {H : Heap} {locs : List Loc} {ls : Array Slot} (hW : Wd D T LH σ M (fun q : Nat => s.heap.size ≤ q) s s.heap H locs) (hV : Wd D T LM τ N (fun q : Nat => s.heap.size ≤ q) s s.heap H locs) (hl : lv_has ls 4 [(0, .ref b), (1, .ref (σ 0)), (2, .ref (τ 0)), (3, .int iv)])
    (hend : ∀ (M N : Mem), Rel M N → ∀ (H : Heap) (locs : List Loc) (ls : Array Slot), Wd D T LH σ M (fun q : Nat => s.heap.size ≤ q) s s.heap H locs → Wd D T LM τ N (fun q : Nat => s.heap.size ≤ q) s s.heap H locs → lv_has ls 4 [(0, .ref b), (1, .ref (σ 0)), (2, .ref (τ 0)), (3, .int iv)] → W p l e room_1 s m #[Value.ref b] below meth c H locs 132 48197 (lw_Z below #[Value.ref b] s) (F0 m 1170 ls [])) : W p l e room_1 s m #[Value.ref b] below meth c H locs 132 48197 (lw_Z below #[Value.ref b] s) (F0 m 843 ls []) := by
  have hbA : ¬ (fun q : Nat => s.heap.size ≤ q) b := Nat.not_le.mpr hbl
  refine lv_aload_n S.1 S.2.1 dL_law_843 rfl (lv_at hl 1 rfl) ?_
  refine lv_aload_n S.1 S.2.1 dL_law_844 rfl (lv_at hl 0 rfl) ?_
  refine lv_iload_n S.1 S.2.1 dL_law_845 rfl (lv_at hl 3 rfl) ?_
  refine lv_iconst (v := 1) S.1 S.2.1 dL_law_846 rfl ?_
  refine lv_iadd S.1 S.2.1 dL_law_847 ?_
  refine va_sld S.1 S.2.1 hX hbl hbA hW.2.2.2.1 hi1 dL_law_848 ?_
  have h := hk_rest M N hR (xs (iv + (1 : Int32)).toNatClampNeg)
  refine r_goI2 (r_runV (rest := []) S hW (mX6_rest l D T σ M (xs (iv + (1 : Int32)).toNatClampNeg) _ h) (cwV (R := room_1) (rm := rmX6_rest) (mc := 0) (ms := 0) 1 S.2.2.2.2 gL_law_X6_rest rfl rfl rfl (by decide +kernel) ⟨Nat.le_of_ble_eq_true rfl, Nat.le_of_ble_eq_true rfl⟩) rfl LH_0 rfl hl.1 rfl (Nat.le_of_ble_eq_true rfl) dL_law_849 ⟨Nat.le_of_ble_eq_true rfl, Nat.le_of_ble_eq_true rfl⟩) hW (fun r M H locs h hW hfr => ?_)
  have hV := keepW hV hW hfr hdis
  refine lv_aload_n S.1 S.2.1 dL_law_852 rfl (lv_at hl 2 rfl) ?_
  refine lv_aload_n S.1 S.2.1 dL_law_853 rfl (lv_at hl 0 rfl) ?_
  refine lv_iload_n S.1 S.2.1 dL_law_854 rfl (lv_at hl 3 rfl) ?_
  refine lv_iconst (v := 1) S.1 S.2.1 dL_law_855 rfl ?_
  refine lv_iadd S.1 S.2.1 dL_law_856 ?_
  refine va_sld S.1 S.2.1 hX hbl hbA hW.2.2.2.1 hi1 dL_law_857 ?_
  refine r_goI2 (r_runV (rest := [.int r]) S hV (mX7_rest l D T τ N (xs (iv + (1 : Int32)).toNatClampNeg) _ h) (cwV (R := room_1) (rm := rmX7_rest) (mc := 0) (ms := 0) 1 S.2.2.2.2 gL_law_X7_rest rfl rfl rfl (by decide +kernel) ⟨Nat.le_of_ble_eq_true rfl, Nat.le_of_ble_eq_true rfl⟩) rfl LM_0 rfl hl.1 rfl (Nat.le_of_ble_eq_true rfl) dL_law_858 ⟨Nat.le_of_ble_eq_true rfl, Nat.le_of_ble_eq_true rfl⟩) hV (fun r2 N H locs h hV hfr => ?_)
  have hW := keepW hW hV hfr (fun i hi j hj e => hdis j hj i hi e.symm)
  refine lv_icmp_eq (tgt := 1170) S.1 S.2.1 dL_law_861 (by decide) (fun c => ?_) (fun c => absurd h.1 c)
  exact hend _ _ h.2 _ _ _ hW hV hl
set_option maxHeartbeats 4000000 in
set_option maxRecDepth 100000 in
theorem lc_part (Rel : Mem → Mem → Prop) {p : Program} {e : Env} {s : State} {m : MethodId} {below : List Frame} {meth : Method} {c : Code} (l : Launch) {b L : Nat} {xs : Nat → Int32} (D : va_G) (T : Nat → ClassId) (σ τ : Nat → Nat) (hdis : ∀ i, i < LH.length → ∀ j, j < LM.length → σ i ≠ τ j) (S : CallFix p m c cL_law 4 s #[Value.ref b] wsL_law RL) (hX : va_X b L xs s s.heap) (hbl : b < s.heap.size)
    (hk_part : ∀ (M N : Mem), Rel M N → ∀ (a0 : Int32) (a1 : Int32) (a2 : Int32),  qX6_part a0 a1 a2 M (fun r M => qX7_part a0 a1 a2 N (fun r2 N => r = r2 ∧ Rel M N)))
    {iv : Int32} (hi1 : vp_in (iv + 1) L) (hi2 : vp_in (iv + 2) L) (hi3 : vp_in (iv + 3) L) (hi4 : vp_in (iv + 4) L) (hi5 : vp_in (iv + 5) L) {M N : Mem} (hR : Rel M N) {H : Heap} {locs : List Loc} {ls : Array Slot} (hW : Wd D T LH σ M (fun q : Nat => s.heap.size ≤ q) s s.heap H locs) (hV : Wd D T LM τ N (fun q : Nat => s.heap.size ≤ q) s s.heap H locs) (hl : lv_has ls 4 [(0, .ref b), (1, .ref (σ 0)), (2, .ref (τ 0)), (3, .int iv)])
    (hend : ∀ (M N : Mem), Rel M N → ∀ (H : Heap) (locs : List Loc) (ls : Array Slot), Wd D T LH σ M (fun q : Nat => s.heap.size ≤ q) s s.heap H locs → Wd D T LM τ N (fun q : Nat => s.heap.size ≤ q) s s.heap H locs → lv_has ls 4 [(0, .ref b), (1, .ref (σ 0)), (2, .ref (τ 0)), (3, .int iv)] → W p l e room_1 s m #[Value.ref b] below meth c H locs 132 48197 (lw_Z below #[Value.ref b] s) (F0 m 1170 ls [])) : W p l e room_1 s m #[Value.ref b] below meth c H locs 132 48197 (lw_Z below #[Value.ref b] s) (F0 m 866 ls []) := by
  have hbA : ¬ (fun q : Nat => s.heap.size ≤ q) b := Nat.not_le.mpr hbl
  refine lv_aload_n S.1 S.2.1 dL_law_866 rfl (lv_at hl 1 rfl) ?_
  refine lv_aload_n S.1 S.2.1 dL_law_867 rfl (lv_at hl 0 rfl) ?_
  refine lv_iload_n S.1 S.2.1 dL_law_868 rfl (lv_at hl 3 rfl) ?_
  refine lv_iconst (v := 1) S.1 S.2.1 dL_law_869 rfl ?_
  refine lv_iadd S.1 S.2.1 dL_law_870 ?_
  refine va_sld S.1 S.2.1 hX hbl hbA hW.2.2.2.1 hi1 dL_law_871 ?_
  refine lv_aload_n S.1 S.2.1 dL_law_872 rfl (lv_at hl 0 rfl) ?_
  refine lv_iload_n S.1 S.2.1 dL_law_873 rfl (lv_at hl 3 rfl) ?_
  refine lv_iconst (v := 2) S.1 S.2.1 dL_law_874 rfl ?_
  refine lv_iadd S.1 S.2.1 dL_law_875 ?_
  refine va_sld S.1 S.2.1 hX hbl hbA hW.2.2.2.1 hi2 dL_law_876 ?_
  refine lv_aload_n S.1 S.2.1 dL_law_877 rfl (lv_at hl 0 rfl) ?_
  refine lv_iload_n S.1 S.2.1 dL_law_878 rfl (lv_at hl 3 rfl) ?_
  refine lv_iconst (v := 3) S.1 S.2.1 dL_law_879 rfl ?_
  refine lv_iadd S.1 S.2.1 dL_law_880 ?_
  refine va_sld S.1 S.2.1 hX hbl hbA hW.2.2.2.1 hi3 dL_law_881 ?_
  have h := hk_part M N hR (xs (iv + (1 : Int32)).toNatClampNeg) (xs (iv + (2 : Int32)).toNatClampNeg) (xs (iv + (3 : Int32)).toNatClampNeg)
  refine r_goI2 (r_runV (rest := []) S hW (mX6_part l D T σ M (xs (iv + (1 : Int32)).toNatClampNeg) (xs (iv + (2 : Int32)).toNatClampNeg) (xs (iv + (3 : Int32)).toNatClampNeg) _ h) (cwV (R := room_1) (rm := rmX6_part) (mc := 0) (ms := 0) 3 S.2.2.2.2 gL_law_X6_part rfl rfl rfl (by decide +kernel) ⟨Nat.le_of_ble_eq_true rfl, Nat.le_of_ble_eq_true rfl⟩) rfl LH_0 rfl hl.1 rfl (Nat.le_of_ble_eq_true rfl) dL_law_882 ⟨Nat.le_of_ble_eq_true rfl, Nat.le_of_ble_eq_true rfl⟩) hW (fun r M H locs h hW hfr => ?_)
  have hV := keepW hV hW hfr hdis
  refine lv_aload_n S.1 S.2.1 dL_law_885 rfl (lv_at hl 2 rfl) ?_
  refine lv_aload_n S.1 S.2.1 dL_law_886 rfl (lv_at hl 0 rfl) ?_
  refine lv_iload_n S.1 S.2.1 dL_law_887 rfl (lv_at hl 3 rfl) ?_
  refine lv_iconst (v := 1) S.1 S.2.1 dL_law_888 rfl ?_
  refine lv_iadd S.1 S.2.1 dL_law_889 ?_
  refine va_sld S.1 S.2.1 hX hbl hbA hW.2.2.2.1 hi1 dL_law_890 ?_
  refine lv_aload_n S.1 S.2.1 dL_law_891 rfl (lv_at hl 0 rfl) ?_
  refine lv_iload_n S.1 S.2.1 dL_law_892 rfl (lv_at hl 3 rfl) ?_
  refine lv_iconst (v := 2) S.1 S.2.1 dL_law_893 rfl ?_
  refine lv_iadd S.1 S.2.1 dL_law_894 ?_
  refine va_sld S.1 S.2.1 hX hbl hbA hW.2.2.2.1 hi2 dL_law_895 ?_
  refine lv_aload_n S.1 S.2.1 dL_law_896 rfl (lv_at hl 0 rfl) ?_
  refine lv_iload_n S.1 S.2.1 dL_law_897 rfl (lv_at hl 3 rfl) ?_
  refine lv_iconst (v := 3) S.1 S.2.1 dL_law_898 rfl ?_
  refine lv_iadd S.1 S.2.1 dL_law_899 ?_
  refine va_sld S.1 S.2.1 hX hbl hbA hW.2.2.2.1 hi3 dL_law_900 ?_
  refine r_goI2 (r_runV (rest := [.int r]) S hV (mX7_part l D T τ N (xs (iv + (1 : Int32)).toNatClampNeg) (xs (iv + (2 : Int32)).toNatClampNeg) (xs (iv + (3 : Int32)).toNatClampNeg) _ h) (cwV (R := room_1) (rm := rmX7_part) (mc := 0) (ms := 0) 3 S.2.2.2.2 gL_law_X7_part rfl rfl rfl (by decide +kernel) ⟨Nat.le_of_ble_eq_true rfl, Nat.le_of_ble_eq_true rfl⟩) rfl LM_0 rfl hl.1 rfl (Nat.le_of_ble_eq_true rfl) dL_law_901 ⟨Nat.le_of_ble_eq_true rfl, Nat.le_of_ble_eq_true rfl⟩) hV (fun r2 N H locs h hV hfr => ?_)
  have hW := keepW hW hV hfr (fun i hi j hj e => hdis j hj i hi e.symm)
  refine lv_icmp_eq (tgt := 1170) S.1 S.2.1 dL_law_904 (by decide) (fun c => ?_) (fun c => absurd h.1 c)
  exact hend _ _ h.2 _ _ _ hW hV hl
set_option maxHeartbeats 4000000 in
set_option maxRecDepth 100000 in
theorem lc_line (Rel : Mem → Mem → Prop) {p : Program} {e : Env} {s : State} {m : MethodId} {below : List Frame} {meth : Method} {c : Code} (l : Launch) {b L : Nat} {xs : Nat → Int32} (D : va_G) (T : Nat → ClassId) (σ τ : Nat → Nat) (hdis : ∀ i, i < LH.length → ∀ j, j < LM.length → σ i ≠ τ j) (S : CallFix p m c cL_law 4 s #[Value.ref b] wsL_law RL) (hX : va_X b L xs s s.heap) (hbl : b < s.heap.size)
    (hk_line : ∀ (M N : Mem), Rel M N → ∀ (a0 : Int32) (a1 : Int32) (a2 : Int32) (a3 : Int32) (a4 : Int32),  qX6_line a0 a1 a2 a3 a4 M (fun r M => qX7_line a0 a1 a2 a3 a4 N (fun r2 N => r = r2 ∧ Rel M N)))
    {iv : Int32} (hi1 : vp_in (iv + 1) L) (hi2 : vp_in (iv + 2) L) (hi3 : vp_in (iv + 3) L) (hi4 : vp_in (iv + 4) L) (hi5 : vp_in (iv + 5) L) {M N : Mem} (hR : Rel M N) {H : Heap} {locs : List Loc} {ls : Array Slot} (hW : Wd D T LH σ M (fun q : Nat => s.heap.size ≤ q) s s.heap H locs) (hV : Wd D T LM τ N (fun q : Nat => s.heap.size ≤ q) s s.heap H locs) (hl : lv_has ls 4 [(0, .ref b), (1, .ref (σ 0)), (2, .ref (τ 0)), (3, .int iv)])
    (hend : ∀ (M N : Mem), Rel M N → ∀ (H : Heap) (locs : List Loc) (ls : Array Slot), Wd D T LH σ M (fun q : Nat => s.heap.size ≤ q) s s.heap H locs → Wd D T LM τ N (fun q : Nat => s.heap.size ≤ q) s s.heap H locs → lv_has ls 4 [(0, .ref b), (1, .ref (σ 0)), (2, .ref (τ 0)), (3, .int iv)] → W p l e room_1 s m #[Value.ref b] below meth c H locs 132 48197 (lw_Z below #[Value.ref b] s) (F0 m 1170 ls [])) : W p l e room_1 s m #[Value.ref b] below meth c H locs 132 48197 (lw_Z below #[Value.ref b] s) (F0 m 909 ls []) := by
  have hbA : ¬ (fun q : Nat => s.heap.size ≤ q) b := Nat.not_le.mpr hbl
  refine lv_aload_n S.1 S.2.1 dL_law_909 rfl (lv_at hl 1 rfl) ?_
  refine lv_aload_n S.1 S.2.1 dL_law_910 rfl (lv_at hl 0 rfl) ?_
  refine lv_iload_n S.1 S.2.1 dL_law_911 rfl (lv_at hl 3 rfl) ?_
  refine lv_iconst (v := 1) S.1 S.2.1 dL_law_912 rfl ?_
  refine lv_iadd S.1 S.2.1 dL_law_913 ?_
  refine va_sld S.1 S.2.1 hX hbl hbA hW.2.2.2.1 hi1 dL_law_914 ?_
  refine lv_aload_n S.1 S.2.1 dL_law_915 rfl (lv_at hl 0 rfl) ?_
  refine lv_iload_n S.1 S.2.1 dL_law_916 rfl (lv_at hl 3 rfl) ?_
  refine lv_iconst (v := 2) S.1 S.2.1 dL_law_917 rfl ?_
  refine lv_iadd S.1 S.2.1 dL_law_918 ?_
  refine va_sld S.1 S.2.1 hX hbl hbA hW.2.2.2.1 hi2 dL_law_919 ?_
  refine lv_aload_n S.1 S.2.1 dL_law_920 rfl (lv_at hl 0 rfl) ?_
  refine lv_iload_n S.1 S.2.1 dL_law_921 rfl (lv_at hl 3 rfl) ?_
  refine lv_iconst (v := 3) S.1 S.2.1 dL_law_922 rfl ?_
  refine lv_iadd S.1 S.2.1 dL_law_923 ?_
  refine va_sld S.1 S.2.1 hX hbl hbA hW.2.2.2.1 hi3 dL_law_924 ?_
  refine lv_aload_n S.1 S.2.1 dL_law_925 rfl (lv_at hl 0 rfl) ?_
  refine lv_iload_n S.1 S.2.1 dL_law_926 rfl (lv_at hl 3 rfl) ?_
  refine lv_iconst (v := 4) S.1 S.2.1 dL_law_927 rfl ?_
  refine lv_iadd S.1 S.2.1 dL_law_928 ?_
  refine va_sld S.1 S.2.1 hX hbl hbA hW.2.2.2.1 hi4 dL_law_929 ?_
  refine lv_aload_n S.1 S.2.1 dL_law_930 rfl (lv_at hl 0 rfl) ?_
  refine lv_iload_n S.1 S.2.1 dL_law_931 rfl (lv_at hl 3 rfl) ?_
  refine lv_iconst (v := 5) S.1 S.2.1 dL_law_932 rfl ?_
  refine lv_iadd S.1 S.2.1 dL_law_933 ?_
  refine va_sld S.1 S.2.1 hX hbl hbA hW.2.2.2.1 hi5 dL_law_934 ?_
  have h := hk_line M N hR (xs (iv + (1 : Int32)).toNatClampNeg) (xs (iv + (2 : Int32)).toNatClampNeg) (xs (iv + (3 : Int32)).toNatClampNeg) (xs (iv + (4 : Int32)).toNatClampNeg) (xs (iv + (5 : Int32)).toNatClampNeg)
  refine r_goI2 (r_runV (rest := []) S hW (mX6_line l D T σ M (xs (iv + (1 : Int32)).toNatClampNeg) (xs (iv + (2 : Int32)).toNatClampNeg) (xs (iv + (3 : Int32)).toNatClampNeg) (xs (iv + (4 : Int32)).toNatClampNeg) (xs (iv + (5 : Int32)).toNatClampNeg) _ h) (cwV (R := room_1) (rm := rmX6_line) (mc := 0) (ms := 0) 5 S.2.2.2.2 gL_law_X6_line rfl rfl rfl (by decide +kernel) ⟨Nat.le_of_ble_eq_true rfl, Nat.le_of_ble_eq_true rfl⟩) rfl LH_0 rfl hl.1 rfl (Nat.le_of_ble_eq_true rfl) dL_law_935 ⟨Nat.le_of_ble_eq_true rfl, Nat.le_of_ble_eq_true rfl⟩) hW (fun r M H locs h hW hfr => ?_)
  have hV := keepW hV hW hfr hdis
  refine lv_aload_n S.1 S.2.1 dL_law_938 rfl (lv_at hl 2 rfl) ?_
  refine lv_aload_n S.1 S.2.1 dL_law_939 rfl (lv_at hl 0 rfl) ?_
  refine lv_iload_n S.1 S.2.1 dL_law_940 rfl (lv_at hl 3 rfl) ?_
  refine lv_iconst (v := 1) S.1 S.2.1 dL_law_941 rfl ?_
  refine lv_iadd S.1 S.2.1 dL_law_942 ?_
  refine va_sld S.1 S.2.1 hX hbl hbA hW.2.2.2.1 hi1 dL_law_943 ?_
  refine lv_aload_n S.1 S.2.1 dL_law_944 rfl (lv_at hl 0 rfl) ?_
  refine lv_iload_n S.1 S.2.1 dL_law_945 rfl (lv_at hl 3 rfl) ?_
  refine lv_iconst (v := 2) S.1 S.2.1 dL_law_946 rfl ?_
  refine lv_iadd S.1 S.2.1 dL_law_947 ?_
  refine va_sld S.1 S.2.1 hX hbl hbA hW.2.2.2.1 hi2 dL_law_948 ?_
  refine lv_aload_n S.1 S.2.1 dL_law_949 rfl (lv_at hl 0 rfl) ?_
  refine lv_iload_n S.1 S.2.1 dL_law_950 rfl (lv_at hl 3 rfl) ?_
  refine lv_iconst (v := 3) S.1 S.2.1 dL_law_951 rfl ?_
  refine lv_iadd S.1 S.2.1 dL_law_952 ?_
  refine va_sld S.1 S.2.1 hX hbl hbA hW.2.2.2.1 hi3 dL_law_953 ?_
  refine lv_aload_n S.1 S.2.1 dL_law_954 rfl (lv_at hl 0 rfl) ?_
  refine lv_iload_n S.1 S.2.1 dL_law_955 rfl (lv_at hl 3 rfl) ?_
  refine lv_iconst (v := 4) S.1 S.2.1 dL_law_956 rfl ?_
  refine lv_iadd S.1 S.2.1 dL_law_957 ?_
  refine va_sld S.1 S.2.1 hX hbl hbA hW.2.2.2.1 hi4 dL_law_958 ?_
  refine lv_aload_n S.1 S.2.1 dL_law_959 rfl (lv_at hl 0 rfl) ?_
  refine lv_iload_n S.1 S.2.1 dL_law_960 rfl (lv_at hl 3 rfl) ?_
  refine lv_iconst (v := 5) S.1 S.2.1 dL_law_961 rfl ?_
  refine lv_iadd S.1 S.2.1 dL_law_962 ?_
  refine va_sld S.1 S.2.1 hX hbl hbA hW.2.2.2.1 hi5 dL_law_963 ?_
  refine r_goI2 (r_runV (rest := [.int r]) S hV (mX7_line l D T τ N (xs (iv + (1 : Int32)).toNatClampNeg) (xs (iv + (2 : Int32)).toNatClampNeg) (xs (iv + (3 : Int32)).toNatClampNeg) (xs (iv + (4 : Int32)).toNatClampNeg) (xs (iv + (5 : Int32)).toNatClampNeg) _ h) (cwV (R := room_1) (rm := rmX7_line) (mc := 0) (ms := 0) 5 S.2.2.2.2 gL_law_X7_line rfl rfl rfl (by decide +kernel) ⟨Nat.le_of_ble_eq_true rfl, Nat.le_of_ble_eq_true rfl⟩) rfl LM_0 rfl hl.1 rfl (Nat.le_of_ble_eq_true rfl) dL_law_964 ⟨Nat.le_of_ble_eq_true rfl, Nat.le_of_ble_eq_true rfl⟩) hV (fun r2 N H locs h hV hfr => ?_)
  have hW := keepW hW hV hfr (fun i hi j hj e => hdis j hj i hi e.symm)
  refine lv_icmp_eq (tgt := 1170) S.1 S.2.1 dL_law_967 (by decide) (fun c => ?_) (fun c => absurd h.1 c)
  exact hend _ _ h.2 _ _ _ hW hV hl
set_option maxHeartbeats 4000000 in
set_option maxRecDepth 100000 in
theorem lc_hands (Rel : Mem → Mem → Prop) {p : Program} {e : Env} {s : State} {m : MethodId} {below : List Frame} {meth : Method} {c : Code} (l : Launch) {b L : Nat} {xs : Nat → Int32} (D : va_G) (T : Nat → ClassId) (σ τ : Nat → Nat) (hdis : ∀ i, i < LH.length → ∀ j, j < LM.length → σ i ≠ τ j) (S : CallFix p m c cL_law 4 s #[Value.ref b] wsL_law RL) (hX : va_X b L xs s s.heap) (hbl : b < s.heap.size)
    (hk_hands : ∀ (M N : Mem), Rel M N → ∀ (a0 : Int32) (a1 : Int32) (a2 : Int32) (a3 : Int32),  qX6_hands a0 a1 a2 a3 M (fun r M => qX7_hands a0 a1 a2 a3 N (fun r2 N => r = r2 ∧ Rel M N)))
    {iv : Int32} (hi1 : vp_in (iv + 1) L) (hi2 : vp_in (iv + 2) L) (hi3 : vp_in (iv + 3) L) (hi4 : vp_in (iv + 4) L) (hi5 : vp_in (iv + 5) L) {M N : Mem} (hR : Rel M N) {H : Heap} {locs : List Loc} {ls : Array Slot} (hW : Wd D T LH σ M (fun q : Nat => s.heap.size ≤ q) s s.heap H locs) (hV : Wd D T LM τ N (fun q : Nat => s.heap.size ≤ q) s s.heap H locs) (hl : lv_has ls 4 [(0, .ref b), (1, .ref (σ 0)), (2, .ref (τ 0)), (3, .int iv)])
    (hend : ∀ (M N : Mem), Rel M N → ∀ (H : Heap) (locs : List Loc) (ls : Array Slot), Wd D T LH σ M (fun q : Nat => s.heap.size ≤ q) s s.heap H locs → Wd D T LM τ N (fun q : Nat => s.heap.size ≤ q) s s.heap H locs → lv_has ls 4 [(0, .ref b), (1, .ref (σ 0)), (2, .ref (τ 0)), (3, .int iv)] → W p l e room_1 s m #[Value.ref b] below meth c H locs 132 48197 (lw_Z below #[Value.ref b] s) (F0 m 1170 ls [])) : W p l e room_1 s m #[Value.ref b] below meth c H locs 132 48197 (lw_Z below #[Value.ref b] s) (F0 m 972 ls []) := by
  have hbA : ¬ (fun q : Nat => s.heap.size ≤ q) b := Nat.not_le.mpr hbl
  refine lv_aload_n S.1 S.2.1 dL_law_972 rfl (lv_at hl 1 rfl) ?_
  refine lv_aload_n S.1 S.2.1 dL_law_973 rfl (lv_at hl 0 rfl) ?_
  refine lv_iload_n S.1 S.2.1 dL_law_974 rfl (lv_at hl 3 rfl) ?_
  refine lv_iconst (v := 1) S.1 S.2.1 dL_law_975 rfl ?_
  refine lv_iadd S.1 S.2.1 dL_law_976 ?_
  refine va_sld S.1 S.2.1 hX hbl hbA hW.2.2.2.1 hi1 dL_law_977 ?_
  refine lv_aload_n S.1 S.2.1 dL_law_978 rfl (lv_at hl 0 rfl) ?_
  refine lv_iload_n S.1 S.2.1 dL_law_979 rfl (lv_at hl 3 rfl) ?_
  refine lv_iconst (v := 2) S.1 S.2.1 dL_law_980 rfl ?_
  refine lv_iadd S.1 S.2.1 dL_law_981 ?_
  refine va_sld S.1 S.2.1 hX hbl hbA hW.2.2.2.1 hi2 dL_law_982 ?_
  refine lv_aload_n S.1 S.2.1 dL_law_983 rfl (lv_at hl 0 rfl) ?_
  refine lv_iload_n S.1 S.2.1 dL_law_984 rfl (lv_at hl 3 rfl) ?_
  refine lv_iconst (v := 3) S.1 S.2.1 dL_law_985 rfl ?_
  refine lv_iadd S.1 S.2.1 dL_law_986 ?_
  refine va_sld S.1 S.2.1 hX hbl hbA hW.2.2.2.1 hi3 dL_law_987 ?_
  refine lv_aload_n S.1 S.2.1 dL_law_988 rfl (lv_at hl 0 rfl) ?_
  refine lv_iload_n S.1 S.2.1 dL_law_989 rfl (lv_at hl 3 rfl) ?_
  refine lv_iconst (v := 4) S.1 S.2.1 dL_law_990 rfl ?_
  refine lv_iadd S.1 S.2.1 dL_law_991 ?_
  refine va_sld S.1 S.2.1 hX hbl hbA hW.2.2.2.1 hi4 dL_law_992 ?_
  have h := hk_hands M N hR (xs (iv + (1 : Int32)).toNatClampNeg) (xs (iv + (2 : Int32)).toNatClampNeg) (xs (iv + (3 : Int32)).toNatClampNeg) (xs (iv + (4 : Int32)).toNatClampNeg)
  refine r_goI2 (r_runV (rest := []) S hW (mX6_hands l D T σ M (xs (iv + (1 : Int32)).toNatClampNeg) (xs (iv + (2 : Int32)).toNatClampNeg) (xs (iv + (3 : Int32)).toNatClampNeg) (xs (iv + (4 : Int32)).toNatClampNeg) _ h) (cwV (R := room_1) (rm := rmX6_hands) (mc := 0) (ms := 0) 4 S.2.2.2.2 gL_law_X6_hands rfl rfl rfl (by decide +kernel) ⟨Nat.le_of_ble_eq_true rfl, Nat.le_of_ble_eq_true rfl⟩) rfl LH_0 rfl hl.1 rfl (Nat.le_of_ble_eq_true rfl) dL_law_993 ⟨Nat.le_of_ble_eq_true rfl, Nat.le_of_ble_eq_true rfl⟩) hW (fun r M H locs h hW hfr => ?_)
  have hV := keepW hV hW hfr hdis
  refine lv_aload_n S.1 S.2.1 dL_law_996 rfl (lv_at hl 2 rfl) ?_
  refine lv_aload_n S.1 S.2.1 dL_law_997 rfl (lv_at hl 0 rfl) ?_
  refine lv_iload_n S.1 S.2.1 dL_law_998 rfl (lv_at hl 3 rfl) ?_
  refine lv_iconst (v := 1) S.1 S.2.1 dL_law_999 rfl ?_
  refine lv_iadd S.1 S.2.1 dL_law_1000 ?_
  refine va_sld S.1 S.2.1 hX hbl hbA hW.2.2.2.1 hi1 dL_law_1001 ?_
  refine lv_aload_n S.1 S.2.1 dL_law_1002 rfl (lv_at hl 0 rfl) ?_
  refine lv_iload_n S.1 S.2.1 dL_law_1003 rfl (lv_at hl 3 rfl) ?_
  refine lv_iconst (v := 2) S.1 S.2.1 dL_law_1004 rfl ?_
  refine lv_iadd S.1 S.2.1 dL_law_1005 ?_
  refine va_sld S.1 S.2.1 hX hbl hbA hW.2.2.2.1 hi2 dL_law_1006 ?_
  refine lv_aload_n S.1 S.2.1 dL_law_1007 rfl (lv_at hl 0 rfl) ?_
  refine lv_iload_n S.1 S.2.1 dL_law_1008 rfl (lv_at hl 3 rfl) ?_
  refine lv_iconst (v := 3) S.1 S.2.1 dL_law_1009 rfl ?_
  refine lv_iadd S.1 S.2.1 dL_law_1010 ?_
  refine va_sld S.1 S.2.1 hX hbl hbA hW.2.2.2.1 hi3 dL_law_1011 ?_
  refine lv_aload_n S.1 S.2.1 dL_law_1012 rfl (lv_at hl 0 rfl) ?_
  refine lv_iload_n S.1 S.2.1 dL_law_1013 rfl (lv_at hl 3 rfl) ?_
  refine lv_iconst (v := 4) S.1 S.2.1 dL_law_1014 rfl ?_
  refine lv_iadd S.1 S.2.1 dL_law_1015 ?_
  refine va_sld S.1 S.2.1 hX hbl hbA hW.2.2.2.1 hi4 dL_law_1016 ?_
  refine r_goI2 (r_runV (rest := [.int r]) S hV (mX7_hands l D T τ N (xs (iv + (1 : Int32)).toNatClampNeg) (xs (iv + (2 : Int32)).toNatClampNeg) (xs (iv + (3 : Int32)).toNatClampNeg) (xs (iv + (4 : Int32)).toNatClampNeg) _ h) (cwV (R := room_1) (rm := rmX7_hands) (mc := 0) (ms := 0) 4 S.2.2.2.2 gL_law_X7_hands rfl rfl rfl (by decide +kernel) ⟨Nat.le_of_ble_eq_true rfl, Nat.le_of_ble_eq_true rfl⟩) rfl LM_0 rfl hl.1 rfl (Nat.le_of_ble_eq_true rfl) dL_law_1017 ⟨Nat.le_of_ble_eq_true rfl, Nat.le_of_ble_eq_true rfl⟩) hV (fun r2 N H locs h hV hfr => ?_)
  have hW := keepW hW hV hfr (fun i hi j hj e => hdis j hj i hi e.symm)
  refine lv_icmp_eq (tgt := 1170) S.1 S.2.1 dL_law_1020 (by decide) (fun c => ?_) (fun c => absurd h.1 c)
  exact hend _ _ h.2 _ _ _ hW hV hl
set_option maxHeartbeats 4000000 in
set_option maxRecDepth 100000 in
theorem lc_wanted (Rel : Mem → Mem → Prop) {p : Program} {e : Env} {s : State} {m : MethodId} {below : List Frame} {meth : Method} {c : Code} (l : Launch) {b L : Nat} {xs : Nat → Int32} (D : va_G) (T : Nat → ClassId) (σ τ : Nat → Nat) (hdis : ∀ i, i < LH.length → ∀ j, j < LM.length → σ i ≠ τ j) (S : CallFix p m c cL_law 4 s #[Value.ref b] wsL_law RL) (hX : va_X b L xs s s.heap) (hbl : b < s.heap.size)
    (hk_wanted : ∀ (M N : Mem), Rel M N → ∀ (a0 : Int32),  qX6_wanted a0 M (fun r M => qX7_wanted a0 N (fun r2 N => r = r2 ∧ Rel M N)))
    {iv : Int32} (hi1 : vp_in (iv + 1) L) (hi2 : vp_in (iv + 2) L) (hi3 : vp_in (iv + 3) L) (hi4 : vp_in (iv + 4) L) (hi5 : vp_in (iv + 5) L) {M N : Mem} (hR : Rel M N) {H : Heap} {locs : List Loc} {ls : Array Slot} (hW : Wd D T LH σ M (fun q : Nat => s.heap.size ≤ q) s s.heap H locs) (hV : Wd D T LM τ N (fun q : Nat => s.heap.size ≤ q) s s.heap H locs) (hl : lv_has ls 4 [(0, .ref b), (1, .ref (σ 0)), (2, .ref (τ 0)), (3, .int iv)])
    (hend : ∀ (M N : Mem), Rel M N → ∀ (H : Heap) (locs : List Loc) (ls : Array Slot), Wd D T LH σ M (fun q : Nat => s.heap.size ≤ q) s s.heap H locs → Wd D T LM τ N (fun q : Nat => s.heap.size ≤ q) s s.heap H locs → lv_has ls 4 [(0, .ref b), (1, .ref (σ 0)), (2, .ref (τ 0)), (3, .int iv)] → W p l e room_1 s m #[Value.ref b] below meth c H locs 132 48197 (lw_Z below #[Value.ref b] s) (F0 m 1170 ls [])) : W p l e room_1 s m #[Value.ref b] below meth c H locs 132 48197 (lw_Z below #[Value.ref b] s) (F0 m 1025 ls []) := by
  have hbA : ¬ (fun q : Nat => s.heap.size ≤ q) b := Nat.not_le.mpr hbl
  refine lv_aload_n S.1 S.2.1 dL_law_1025 rfl (lv_at hl 1 rfl) ?_
  refine lv_aload_n S.1 S.2.1 dL_law_1026 rfl (lv_at hl 0 rfl) ?_
  refine lv_iload_n S.1 S.2.1 dL_law_1027 rfl (lv_at hl 3 rfl) ?_
  refine lv_iconst (v := 1) S.1 S.2.1 dL_law_1028 rfl ?_
  refine lv_iadd S.1 S.2.1 dL_law_1029 ?_
  refine va_sld S.1 S.2.1 hX hbl hbA hW.2.2.2.1 hi1 dL_law_1030 ?_
  have h := hk_wanted M N hR (xs (iv + (1 : Int32)).toNatClampNeg)
  refine r_goI2 (r_runV (rest := []) S hW (mX6_wanted l D T σ M (xs (iv + (1 : Int32)).toNatClampNeg) _ h) (cwV (R := room_1) (rm := rmX6_wanted) (mc := 0) (ms := 0) 1 S.2.2.2.2 gL_law_X6_wanted rfl rfl rfl (by decide +kernel) ⟨Nat.le_of_ble_eq_true rfl, Nat.le_of_ble_eq_true rfl⟩) rfl LH_0 rfl hl.1 rfl (Nat.le_of_ble_eq_true rfl) dL_law_1031 ⟨Nat.le_of_ble_eq_true rfl, Nat.le_of_ble_eq_true rfl⟩) hW (fun r M H locs h hW hfr => ?_)
  have hV := keepW hV hW hfr hdis
  refine lv_aload_n S.1 S.2.1 dL_law_1034 rfl (lv_at hl 2 rfl) ?_
  refine lv_aload_n S.1 S.2.1 dL_law_1035 rfl (lv_at hl 0 rfl) ?_
  refine lv_iload_n S.1 S.2.1 dL_law_1036 rfl (lv_at hl 3 rfl) ?_
  refine lv_iconst (v := 1) S.1 S.2.1 dL_law_1037 rfl ?_
  refine lv_iadd S.1 S.2.1 dL_law_1038 ?_
  refine va_sld S.1 S.2.1 hX hbl hbA hW.2.2.2.1 hi1 dL_law_1039 ?_
  refine r_goI2 (r_runV (rest := [.int r]) S hV (mX7_wanted l D T τ N (xs (iv + (1 : Int32)).toNatClampNeg) _ h) (cwV (R := room_1) (rm := rmX7_wanted) (mc := 0) (ms := 0) 1 S.2.2.2.2 gL_law_X7_wanted rfl rfl rfl (by decide +kernel) ⟨Nat.le_of_ble_eq_true rfl, Nat.le_of_ble_eq_true rfl⟩) rfl LM_0 rfl hl.1 rfl (Nat.le_of_ble_eq_true rfl) dL_law_1040 ⟨Nat.le_of_ble_eq_true rfl, Nat.le_of_ble_eq_true rfl⟩) hV (fun r2 N H locs h hV hfr => ?_)
  have hW := keepW hW hV hfr (fun i hi j hj e => hdis j hj i hi e.symm)
  refine lv_icmp_eq (tgt := 1170) S.1 S.2.1 dL_law_1043 (by decide) (fun c => ?_) (fun c => absurd h.1 c)
  exact hend _ _ h.2 _ _ _ hW hV hl
set_option maxHeartbeats 4000000 in
set_option maxRecDepth 100000 in
theorem lc_have (Rel : Mem → Mem → Prop) {p : Program} {e : Env} {s : State} {m : MethodId} {below : List Frame} {meth : Method} {c : Code} (l : Launch) {b L : Nat} {xs : Nat → Int32} (D : va_G) (T : Nat → ClassId) (σ τ : Nat → Nat) (hdis : ∀ i, i < LH.length → ∀ j, j < LM.length → σ i ≠ τ j) (S : CallFix p m c cL_law 4 s #[Value.ref b] wsL_law RL) (hX : va_X b L xs s s.heap) (hbl : b < s.heap.size)
    (hk_have : ∀ (M N : Mem), Rel M N → ∀ (a0 : Int32),  qX6_have a0 M (fun r M => qX7_have a0 N (fun r2 N => r = r2 ∧ Rel M N)))
    {iv : Int32} (hi1 : vp_in (iv + 1) L) (hi2 : vp_in (iv + 2) L) (hi3 : vp_in (iv + 3) L) (hi4 : vp_in (iv + 4) L) (hi5 : vp_in (iv + 5) L) {M N : Mem} (hR : Rel M N) {H : Heap} {locs : List Loc} {ls : Array Slot} (hW : Wd D T LH σ M (fun q : Nat => s.heap.size ≤ q) s s.heap H locs) (hV : Wd D T LM τ N (fun q : Nat => s.heap.size ≤ q) s s.heap H locs) (hl : lv_has ls 4 [(0, .ref b), (1, .ref (σ 0)), (2, .ref (τ 0)), (3, .int iv)])
    (hend : ∀ (M N : Mem), Rel M N → ∀ (H : Heap) (locs : List Loc) (ls : Array Slot), Wd D T LH σ M (fun q : Nat => s.heap.size ≤ q) s s.heap H locs → Wd D T LM τ N (fun q : Nat => s.heap.size ≤ q) s s.heap H locs → lv_has ls 4 [(0, .ref b), (1, .ref (σ 0)), (2, .ref (τ 0)), (3, .int iv)] → W p l e room_1 s m #[Value.ref b] below meth c H locs 132 48197 (lw_Z below #[Value.ref b] s) (F0 m 1170 ls [])) : W p l e room_1 s m #[Value.ref b] below meth c H locs 132 48197 (lw_Z below #[Value.ref b] s) (F0 m 1048 ls []) := by
  have hbA : ¬ (fun q : Nat => s.heap.size ≤ q) b := Nat.not_le.mpr hbl
  refine lv_aload_n S.1 S.2.1 dL_law_1048 rfl (lv_at hl 1 rfl) ?_
  refine lv_aload_n S.1 S.2.1 dL_law_1049 rfl (lv_at hl 0 rfl) ?_
  refine lv_iload_n S.1 S.2.1 dL_law_1050 rfl (lv_at hl 3 rfl) ?_
  refine lv_iconst (v := 1) S.1 S.2.1 dL_law_1051 rfl ?_
  refine lv_iadd S.1 S.2.1 dL_law_1052 ?_
  refine va_sld S.1 S.2.1 hX hbl hbA hW.2.2.2.1 hi1 dL_law_1053 ?_
  have h := hk_have M N hR (xs (iv + (1 : Int32)).toNatClampNeg)
  refine r_goI2 (r_runV (rest := []) S hW (mX6_have l D T σ M (xs (iv + (1 : Int32)).toNatClampNeg) _ h) (cwV (R := room_1) (rm := rmX6_have) (mc := 0) (ms := 0) 1 S.2.2.2.2 gL_law_X6_have rfl rfl rfl (by decide +kernel) ⟨Nat.le_of_ble_eq_true rfl, Nat.le_of_ble_eq_true rfl⟩) rfl LH_0 rfl hl.1 rfl (Nat.le_of_ble_eq_true rfl) dL_law_1054 ⟨Nat.le_of_ble_eq_true rfl, Nat.le_of_ble_eq_true rfl⟩) hW (fun r M H locs h hW hfr => ?_)
  have hV := keepW hV hW hfr hdis
  refine lv_aload_n S.1 S.2.1 dL_law_1057 rfl (lv_at hl 2 rfl) ?_
  refine lv_aload_n S.1 S.2.1 dL_law_1058 rfl (lv_at hl 0 rfl) ?_
  refine lv_iload_n S.1 S.2.1 dL_law_1059 rfl (lv_at hl 3 rfl) ?_
  refine lv_iconst (v := 1) S.1 S.2.1 dL_law_1060 rfl ?_
  refine lv_iadd S.1 S.2.1 dL_law_1061 ?_
  refine va_sld S.1 S.2.1 hX hbl hbA hW.2.2.2.1 hi1 dL_law_1062 ?_
  refine r_goI2 (r_runV (rest := [.int r]) S hV (mX7_have l D T τ N (xs (iv + (1 : Int32)).toNatClampNeg) _ h) (cwV (R := room_1) (rm := rmX7_have) (mc := 0) (ms := 0) 1 S.2.2.2.2 gL_law_X7_have rfl rfl rfl (by decide +kernel) ⟨Nat.le_of_ble_eq_true rfl, Nat.le_of_ble_eq_true rfl⟩) rfl LM_0 rfl hl.1 rfl (Nat.le_of_ble_eq_true rfl) dL_law_1063 ⟨Nat.le_of_ble_eq_true rfl, Nat.le_of_ble_eq_true rfl⟩) hV (fun r2 N H locs h hV hfr => ?_)
  have hW := keepW hW hV hfr (fun i hi j hj e => hdis j hj i hi e.symm)
  refine lv_icmp_eq (tgt := 1170) S.1 S.2.1 dL_law_1066 (by decide) (fun c => ?_) (fun c => absurd h.1 c)
  exact hend _ _ h.2 _ _ _ hW hV hl
set_option maxHeartbeats 4000000 in
set_option maxRecDepth 100000 in
theorem lc_type (Rel : Mem → Mem → Prop) {p : Program} {e : Env} {s : State} {m : MethodId} {below : List Frame} {meth : Method} {c : Code} (l : Launch) {b L : Nat} {xs : Nat → Int32} (D : va_G) (T : Nat → ClassId) (σ τ : Nat → Nat) (hdis : ∀ i, i < LH.length → ∀ j, j < LM.length → σ i ≠ τ j) (S : CallFix p m c cL_law 4 s #[Value.ref b] wsL_law RL) (hX : va_X b L xs s s.heap) (hbl : b < s.heap.size)
    (hk_type : ∀ (M N : Mem), Rel M N → ∀ (a0 : Int32) (a1 : Int32) (a2 : Int32) (a3 : Int32),  qX6_type a0 a1 a2 a3 M (fun r M => qX7_type a0 a1 a2 a3 N (fun r2 N => r = r2 ∧ Rel M N)))
    {iv : Int32} (hi1 : vp_in (iv + 1) L) (hi2 : vp_in (iv + 2) L) (hi3 : vp_in (iv + 3) L) (hi4 : vp_in (iv + 4) L) (hi5 : vp_in (iv + 5) L) {M N : Mem} (hR : Rel M N) {H : Heap} {locs : List Loc} {ls : Array Slot} (hW : Wd D T LH σ M (fun q : Nat => s.heap.size ≤ q) s s.heap H locs) (hV : Wd D T LM τ N (fun q : Nat => s.heap.size ≤ q) s s.heap H locs) (hl : lv_has ls 4 [(0, .ref b), (1, .ref (σ 0)), (2, .ref (τ 0)), (3, .int iv)])
    (hend : ∀ (M N : Mem), Rel M N → ∀ (H : Heap) (locs : List Loc) (ls : Array Slot), Wd D T LH σ M (fun q : Nat => s.heap.size ≤ q) s s.heap H locs → Wd D T LM τ N (fun q : Nat => s.heap.size ≤ q) s s.heap H locs → lv_has ls 4 [(0, .ref b), (1, .ref (σ 0)), (2, .ref (τ 0)), (3, .int iv)] → W p l e room_1 s m #[Value.ref b] below meth c H locs 132 48197 (lw_Z below #[Value.ref b] s) (F0 m 1170 ls [])) : W p l e room_1 s m #[Value.ref b] below meth c H locs 132 48197 (lw_Z below #[Value.ref b] s) (F0 m 1071 ls []) := by
  have hbA : ¬ (fun q : Nat => s.heap.size ≤ q) b := Nat.not_le.mpr hbl
  refine lv_aload_n S.1 S.2.1 dL_law_1071 rfl (lv_at hl 1 rfl) ?_
  refine lv_aload_n S.1 S.2.1 dL_law_1072 rfl (lv_at hl 0 rfl) ?_
  refine lv_iload_n S.1 S.2.1 dL_law_1073 rfl (lv_at hl 3 rfl) ?_
  refine lv_iconst (v := 1) S.1 S.2.1 dL_law_1074 rfl ?_
  refine lv_iadd S.1 S.2.1 dL_law_1075 ?_
  refine va_sld S.1 S.2.1 hX hbl hbA hW.2.2.2.1 hi1 dL_law_1076 ?_
  refine lv_aload_n S.1 S.2.1 dL_law_1077 rfl (lv_at hl 0 rfl) ?_
  refine lv_iload_n S.1 S.2.1 dL_law_1078 rfl (lv_at hl 3 rfl) ?_
  refine lv_iconst (v := 2) S.1 S.2.1 dL_law_1079 rfl ?_
  refine lv_iadd S.1 S.2.1 dL_law_1080 ?_
  refine va_sld S.1 S.2.1 hX hbl hbA hW.2.2.2.1 hi2 dL_law_1081 ?_
  refine lv_aload_n S.1 S.2.1 dL_law_1082 rfl (lv_at hl 0 rfl) ?_
  refine lv_iload_n S.1 S.2.1 dL_law_1083 rfl (lv_at hl 3 rfl) ?_
  refine lv_iconst (v := 3) S.1 S.2.1 dL_law_1084 rfl ?_
  refine lv_iadd S.1 S.2.1 dL_law_1085 ?_
  refine va_sld S.1 S.2.1 hX hbl hbA hW.2.2.2.1 hi3 dL_law_1086 ?_
  refine lv_aload_n S.1 S.2.1 dL_law_1087 rfl (lv_at hl 0 rfl) ?_
  refine lv_iload_n S.1 S.2.1 dL_law_1088 rfl (lv_at hl 3 rfl) ?_
  refine lv_iconst (v := 4) S.1 S.2.1 dL_law_1089 rfl ?_
  refine lv_iadd S.1 S.2.1 dL_law_1090 ?_
  refine va_sld S.1 S.2.1 hX hbl hbA hW.2.2.2.1 hi4 dL_law_1091 ?_
  have h := hk_type M N hR (xs (iv + (1 : Int32)).toNatClampNeg) (xs (iv + (2 : Int32)).toNatClampNeg) (xs (iv + (3 : Int32)).toNatClampNeg) (xs (iv + (4 : Int32)).toNatClampNeg)
  refine r_goI2 (r_runV (rest := []) S hW (mX6_type l D T σ M (xs (iv + (1 : Int32)).toNatClampNeg) (xs (iv + (2 : Int32)).toNatClampNeg) (xs (iv + (3 : Int32)).toNatClampNeg) (xs (iv + (4 : Int32)).toNatClampNeg) _ h) (cwV (R := room_1) (rm := rmX6_type) (mc := 0) (ms := 0) 4 S.2.2.2.2 gL_law_X6_type rfl rfl rfl (by decide +kernel) ⟨Nat.le_of_ble_eq_true rfl, Nat.le_of_ble_eq_true rfl⟩) rfl LH_0 rfl hl.1 rfl (Nat.le_of_ble_eq_true rfl) dL_law_1092 ⟨Nat.le_of_ble_eq_true rfl, Nat.le_of_ble_eq_true rfl⟩) hW (fun r M H locs h hW hfr => ?_)
  have hV := keepW hV hW hfr hdis
  refine lv_aload_n S.1 S.2.1 dL_law_1095 rfl (lv_at hl 2 rfl) ?_
  refine lv_aload_n S.1 S.2.1 dL_law_1096 rfl (lv_at hl 0 rfl) ?_
  refine lv_iload_n S.1 S.2.1 dL_law_1097 rfl (lv_at hl 3 rfl) ?_
  refine lv_iconst (v := 1) S.1 S.2.1 dL_law_1098 rfl ?_
  refine lv_iadd S.1 S.2.1 dL_law_1099 ?_
  refine va_sld S.1 S.2.1 hX hbl hbA hW.2.2.2.1 hi1 dL_law_1100 ?_
  refine lv_aload_n S.1 S.2.1 dL_law_1101 rfl (lv_at hl 0 rfl) ?_
  refine lv_iload_n S.1 S.2.1 dL_law_1102 rfl (lv_at hl 3 rfl) ?_
  refine lv_iconst (v := 2) S.1 S.2.1 dL_law_1103 rfl ?_
  refine lv_iadd S.1 S.2.1 dL_law_1104 ?_
  refine va_sld S.1 S.2.1 hX hbl hbA hW.2.2.2.1 hi2 dL_law_1105 ?_
  refine lv_aload_n S.1 S.2.1 dL_law_1106 rfl (lv_at hl 0 rfl) ?_
  refine lv_iload_n S.1 S.2.1 dL_law_1107 rfl (lv_at hl 3 rfl) ?_
  refine lv_iconst (v := 3) S.1 S.2.1 dL_law_1108 rfl ?_
  refine lv_iadd S.1 S.2.1 dL_law_1109 ?_
  refine va_sld S.1 S.2.1 hX hbl hbA hW.2.2.2.1 hi3 dL_law_1110 ?_
  refine lv_aload_n S.1 S.2.1 dL_law_1111 rfl (lv_at hl 0 rfl) ?_
  refine lv_iload_n S.1 S.2.1 dL_law_1112 rfl (lv_at hl 3 rfl) ?_
  refine lv_iconst (v := 4) S.1 S.2.1 dL_law_1113 rfl ?_
  refine lv_iadd S.1 S.2.1 dL_law_1114 ?_
  refine va_sld S.1 S.2.1 hX hbl hbA hW.2.2.2.1 hi4 dL_law_1115 ?_
  refine r_goI2 (r_runV (rest := [.int r]) S hV (mX7_type l D T τ N (xs (iv + (1 : Int32)).toNatClampNeg) (xs (iv + (2 : Int32)).toNatClampNeg) (xs (iv + (3 : Int32)).toNatClampNeg) (xs (iv + (4 : Int32)).toNatClampNeg) _ h) (cwV (R := room_1) (rm := rmX7_type) (mc := 0) (ms := 0) 4 S.2.2.2.2 gL_law_X7_type rfl rfl rfl (by decide +kernel) ⟨Nat.le_of_ble_eq_true rfl, Nat.le_of_ble_eq_true rfl⟩) rfl LM_0 rfl hl.1 rfl (Nat.le_of_ble_eq_true rfl) dL_law_1116 ⟨Nat.le_of_ble_eq_true rfl, Nat.le_of_ble_eq_true rfl⟩) hV (fun r2 N H locs h hV hfr => ?_)
  have hW := keepW hW hV hfr (fun i hi j hj e => hdis j hj i hi e.symm)
  refine lv_icmp_eq (tgt := 1170) S.1 S.2.1 dL_law_1119 (by decide) (fun c => ?_) (fun c => absurd h.1 c)
  exact hend _ _ h.2 _ _ _ hW hV hl
set_option maxHeartbeats 4000000 in
set_option maxRecDepth 100000 in
theorem lc_cheapest (Rel : Mem → Mem → Prop) {p : Program} {e : Env} {s : State} {m : MethodId} {below : List Frame} {meth : Method} {c : Code} (l : Launch) {b L : Nat} {xs : Nat → Int32} (D : va_G) (T : Nat → ClassId) (σ τ : Nat → Nat) (hdis : ∀ i, i < LH.length → ∀ j, j < LM.length → σ i ≠ τ j) (S : CallFix p m c cL_law 4 s #[Value.ref b] wsL_law RL) (hX : va_X b L xs s s.heap) (hbl : b < s.heap.size)
    (hk_cheapest : ∀ (M N : Mem), Rel M N →  qX6_cheapest M (fun r M => qX7_cheapest N (fun r2 N => r = r2 ∧ Rel M N)))
    {iv : Int32} (hi1 : vp_in (iv + 1) L) (hi2 : vp_in (iv + 2) L) (hi3 : vp_in (iv + 3) L) (hi4 : vp_in (iv + 4) L) (hi5 : vp_in (iv + 5) L) {M N : Mem} (hR : Rel M N) {H : Heap} {locs : List Loc} {ls : Array Slot} (hW : Wd D T LH σ M (fun q : Nat => s.heap.size ≤ q) s s.heap H locs) (hV : Wd D T LM τ N (fun q : Nat => s.heap.size ≤ q) s s.heap H locs) (hl : lv_has ls 4 [(0, .ref b), (1, .ref (σ 0)), (2, .ref (τ 0)), (3, .int iv)])
    (hend : ∀ (M N : Mem), Rel M N → ∀ (H : Heap) (locs : List Loc) (ls : Array Slot), Wd D T LH σ M (fun q : Nat => s.heap.size ≤ q) s s.heap H locs → Wd D T LM τ N (fun q : Nat => s.heap.size ≤ q) s s.heap H locs → lv_has ls 4 [(0, .ref b), (1, .ref (σ 0)), (2, .ref (τ 0)), (3, .int iv)] → W p l e room_1 s m #[Value.ref b] below meth c H locs 132 48197 (lw_Z below #[Value.ref b] s) (F0 m 1170 ls [])) : W p l e room_1 s m #[Value.ref b] below meth c H locs 132 48197 (lw_Z below #[Value.ref b] s) (F0 m 1124 ls []) := by
  have hbA : ¬ (fun q : Nat => s.heap.size ≤ q) b := Nat.not_le.mpr hbl
  refine lv_aload_n S.1 S.2.1 dL_law_1124 rfl (lv_at hl 1 rfl) ?_
  have h := hk_cheapest M N hR
  refine r_goI2 (r_runV (rest := []) S hW (mX6_cheapest l D T σ M _ h) (cwV (R := room_1) (rm := rmX6_cheapest) (mc := 0) (ms := 0) 0 S.2.2.2.2 gL_law_X6_cheapest rfl rfl rfl (by decide +kernel) ⟨Nat.le_of_ble_eq_true rfl, Nat.le_of_ble_eq_true rfl⟩) rfl LH_0 rfl hl.1 rfl (Nat.le_of_ble_eq_true rfl) dL_law_1125 ⟨Nat.le_of_ble_eq_true rfl, Nat.le_of_ble_eq_true rfl⟩) hW (fun r M H locs h hW hfr => ?_)
  have hV := keepW hV hW hfr hdis
  refine lv_aload_n S.1 S.2.1 dL_law_1128 rfl (lv_at hl 2 rfl) ?_
  refine r_goI2 (r_runV (rest := [.int r]) S hV (mX7_cheapest l D T τ N _ h) (cwV (R := room_1) (rm := rmX7_cheapest) (mc := 0) (ms := 0) 0 S.2.2.2.2 gL_law_X7_cheapest rfl rfl rfl (by decide +kernel) ⟨Nat.le_of_ble_eq_true rfl, Nat.le_of_ble_eq_true rfl⟩) rfl LM_0 rfl hl.1 rfl (Nat.le_of_ble_eq_true rfl) dL_law_1129 ⟨Nat.le_of_ble_eq_true rfl, Nat.le_of_ble_eq_true rfl⟩) hV (fun r2 N H locs h hV hfr => ?_)
  have hW := keepW hW hV hfr (fun i hi j hj e => hdis j hj i hi e.symm)
  refine lv_icmp_eq (tgt := 1170) S.1 S.2.1 dL_law_1132 (by decide) (fun c => ?_) (fun c => absurd h.1 c)
  exact hend _ _ h.2 _ _ _ hW hV hl
set_option maxHeartbeats 4000000 in
set_option maxRecDepth 100000 in
theorem lc_buys (Rel : Mem → Mem → Prop) {p : Program} {e : Env} {s : State} {m : MethodId} {below : List Frame} {meth : Method} {c : Code} (l : Launch) {b L : Nat} {xs : Nat → Int32} (D : va_G) (T : Nat → ClassId) (σ τ : Nat → Nat) (hdis : ∀ i, i < LH.length → ∀ j, j < LM.length → σ i ≠ τ j) (S : CallFix p m c cL_law 4 s #[Value.ref b] wsL_law RL) (hX : va_X b L xs s s.heap) (hbl : b < s.heap.size)
    (hk_buys : ∀ (M N : Mem), Rel M N → ∀ (a0 : Int32) (a1 : Int32),  qX6_buys a0 a1 M (fun r M => qX7_buys a0 a1 N (fun r2 N => r = r2 ∧ Rel M N)))
    {iv : Int32} (hi1 : vp_in (iv + 1) L) (hi2 : vp_in (iv + 2) L) (hi3 : vp_in (iv + 3) L) (hi4 : vp_in (iv + 4) L) (hi5 : vp_in (iv + 5) L) {M N : Mem} (hR : Rel M N) {H : Heap} {locs : List Loc} {ls : Array Slot} (hW : Wd D T LH σ M (fun q : Nat => s.heap.size ≤ q) s s.heap H locs) (hV : Wd D T LM τ N (fun q : Nat => s.heap.size ≤ q) s s.heap H locs) (hl : lv_has ls 4 [(0, .ref b), (1, .ref (σ 0)), (2, .ref (τ 0)), (3, .int iv)])
    (hend : ∀ (M N : Mem), Rel M N → ∀ (H : Heap) (locs : List Loc) (ls : Array Slot), Wd D T LH σ M (fun q : Nat => s.heap.size ≤ q) s s.heap H locs → Wd D T LM τ N (fun q : Nat => s.heap.size ≤ q) s s.heap H locs → lv_has ls 4 [(0, .ref b), (1, .ref (σ 0)), (2, .ref (τ 0)), (3, .int iv)] → W p l e room_1 s m #[Value.ref b] below meth c H locs 132 48197 (lw_Z below #[Value.ref b] s) (F0 m 1170 ls [])) : W p l e room_1 s m #[Value.ref b] below meth c H locs 132 48197 (lw_Z below #[Value.ref b] s) (F0 m 1137 ls []) := by
  have hbA : ¬ (fun q : Nat => s.heap.size ≤ q) b := Nat.not_le.mpr hbl
  refine lv_aload_n S.1 S.2.1 dL_law_1137 rfl (lv_at hl 1 rfl) ?_
  refine lv_aload_n S.1 S.2.1 dL_law_1138 rfl (lv_at hl 0 rfl) ?_
  refine lv_iload_n S.1 S.2.1 dL_law_1139 rfl (lv_at hl 3 rfl) ?_
  refine lv_iconst (v := 1) S.1 S.2.1 dL_law_1140 rfl ?_
  refine lv_iadd S.1 S.2.1 dL_law_1141 ?_
  refine va_sld S.1 S.2.1 hX hbl hbA hW.2.2.2.1 hi1 dL_law_1142 ?_
  refine lv_aload_n S.1 S.2.1 dL_law_1143 rfl (lv_at hl 0 rfl) ?_
  refine lv_iload_n S.1 S.2.1 dL_law_1144 rfl (lv_at hl 3 rfl) ?_
  refine lv_iconst (v := 2) S.1 S.2.1 dL_law_1145 rfl ?_
  refine lv_iadd S.1 S.2.1 dL_law_1146 ?_
  refine va_sld S.1 S.2.1 hX hbl hbA hW.2.2.2.1 hi2 dL_law_1147 ?_
  have h := hk_buys M N hR (xs (iv + (1 : Int32)).toNatClampNeg) (xs (iv + (2 : Int32)).toNatClampNeg)
  refine r_goI2 (r_runV (rest := []) S hW (mX6_buys l D T σ M (xs (iv + (1 : Int32)).toNatClampNeg) (xs (iv + (2 : Int32)).toNatClampNeg) _ h) (cwV (R := room_1) (rm := rmX6_buys) (mc := 0) (ms := 0) 2 S.2.2.2.2 gL_law_X6_buys rfl rfl rfl (by decide +kernel) ⟨Nat.le_of_ble_eq_true rfl, Nat.le_of_ble_eq_true rfl⟩) rfl LH_0 rfl hl.1 rfl (Nat.le_of_ble_eq_true rfl) dL_law_1148 ⟨Nat.le_of_ble_eq_true rfl, Nat.le_of_ble_eq_true rfl⟩) hW (fun r M H locs h hW hfr => ?_)
  have hV := keepW hV hW hfr hdis
  refine lv_aload_n S.1 S.2.1 dL_law_1151 rfl (lv_at hl 2 rfl) ?_
  refine lv_aload_n S.1 S.2.1 dL_law_1152 rfl (lv_at hl 0 rfl) ?_
  refine lv_iload_n S.1 S.2.1 dL_law_1153 rfl (lv_at hl 3 rfl) ?_
  refine lv_iconst (v := 1) S.1 S.2.1 dL_law_1154 rfl ?_
  refine lv_iadd S.1 S.2.1 dL_law_1155 ?_
  refine va_sld S.1 S.2.1 hX hbl hbA hW.2.2.2.1 hi1 dL_law_1156 ?_
  refine lv_aload_n S.1 S.2.1 dL_law_1157 rfl (lv_at hl 0 rfl) ?_
  refine lv_iload_n S.1 S.2.1 dL_law_1158 rfl (lv_at hl 3 rfl) ?_
  refine lv_iconst (v := 2) S.1 S.2.1 dL_law_1159 rfl ?_
  refine lv_iadd S.1 S.2.1 dL_law_1160 ?_
  refine va_sld S.1 S.2.1 hX hbl hbA hW.2.2.2.1 hi2 dL_law_1161 ?_
  refine r_goI2 (r_runV (rest := [.int r]) S hV (mX7_buys l D T τ N (xs (iv + (1 : Int32)).toNatClampNeg) (xs (iv + (2 : Int32)).toNatClampNeg) _ h) (cwV (R := room_1) (rm := rmX7_buys) (mc := 0) (ms := 0) 2 S.2.2.2.2 gL_law_X7_buys rfl rfl rfl (by decide +kernel) ⟨Nat.le_of_ble_eq_true rfl, Nat.le_of_ble_eq_true rfl⟩) rfl LM_0 rfl hl.1 rfl (Nat.le_of_ble_eq_true rfl) dL_law_1162 ⟨Nat.le_of_ble_eq_true rfl, Nat.le_of_ble_eq_true rfl⟩) hV (fun r2 N H locs h hV hfr => ?_)
  have hW := keepW hW hV hfr (fun i hi j hj e => hdis j hj i hi e.symm)
  refine lv_icmp_eq (tgt := 1170) S.1 S.2.1 dL_law_1165 (by decide) (fun c => ?_) (fun c => absurd h.1 c)
  exact hend _ _ h.2 _ _ _ hW hV hl

set_option maxHeartbeats 4000000 in
set_option maxRecDepth 100000 in
theorem lc_status (Rel : Mem → Mem → Prop) {p : Program} {e : Env} {s : State} {m : MethodId} {below : List Frame} {meth : Method} {c : Code} (l : Launch) {b L : Nat} {xs : Nat → Int32} (D : va_G) (T : Nat → ClassId) (σ τ : Nat → Nat) (hdis : ∀ i, i < LH.length → ∀ j, j < LM.length → σ i ≠ τ j) (S : CallFix p m c cL_law 4 s #[Value.ref b] wsL_law RL) (hX : va_X b L xs s s.heap) (hbl : b < s.heap.size)
    (hk_status : ∀ (M N : Mem), Rel M N →  qX6_status M (fun r M => qX7_status N (fun r2 N => r = r2 ∧ Rel M N)))
    {iv : Int32} (hi1 : vp_in (iv + 1) L) (hi2 : vp_in (iv + 2) L) (hi3 : vp_in (iv + 3) L) (hi4 : vp_in (iv + 4) L) (hi5 : vp_in (iv + 5) L) {M N : Mem} (hR : Rel M N) {H : Heap} {locs : List Loc} {ls : Array Slot} (hW : Wd D T LH σ M (fun q : Nat => s.heap.size ≤ q) s s.heap H locs) (hV : Wd D T LM τ N (fun q : Nat => s.heap.size ≤ q) s s.heap H locs) (hl : lv_has ls 4 [(0, .ref b), (1, .ref (σ 0)), (2, .ref (τ 0)), (3, .int iv)])
    (hend : ∀ (M N : Mem), Rel M N → ∀ (H : Heap) (locs : List Loc) (ls : Array Slot), Wd D T LH σ M (fun q : Nat => s.heap.size ≤ q) s s.heap H locs → Wd D T LM τ N (fun q : Nat => s.heap.size ≤ q) s s.heap H locs → lv_has ls 4 [(0, .ref b), (1, .ref (σ 0)), (2, .ref (τ 0)), (3, .int iv)] → W p l e room_1 s m #[Value.ref b] below meth c H locs 132 48197 (lw_Z below #[Value.ref b] s) (F0 m 1170 ls [])) : W p l e room_1 s m #[Value.ref b] below meth c H locs 132 48197 (lw_Z below #[Value.ref b] s) (F0 m 156 ls []) := by
  have hbA : ¬ (fun q : Nat => s.heap.size ≤ q) b := Nat.not_le.mpr hbl
  refine lv_aload_n S.1 S.2.1 dL_law_156 rfl (lv_at hl 1 rfl) ?_
  have h := hk_status M N hR
  refine r_goI2 (r_runV (rest := []) S hW (mX6_status l D T σ M _ h) (cwV (R := room_1) (rm := rmX6_status) (mc := 0) (ms := 0) 0 S.2.2.2.2 gL_law_X6_status rfl rfl rfl (by decide +kernel) ⟨Nat.le_of_ble_eq_true rfl, Nat.le_of_ble_eq_true rfl⟩) rfl LH_0 rfl hl.1 rfl (Nat.le_of_ble_eq_true rfl) dL_law_157 ⟨Nat.le_of_ble_eq_true rfl, Nat.le_of_ble_eq_true rfl⟩) hW (fun r M H locs h hW hfr => ?_)
  have hV := keepW hV hW hfr hdis
  refine lv_aload_n S.1 S.2.1 dL_law_160 rfl (lv_at hl 2 rfl) ?_
  refine r_goI2 (r_runV (rest := [.int r]) S hV (mX7_status l D T τ N _ h) (cwV (R := room_1) (rm := rmX7_status) (mc := 0) (ms := 0) 0 S.2.2.2.2 gL_law_X7_status rfl rfl rfl (by decide +kernel) ⟨Nat.le_of_ble_eq_true rfl, Nat.le_of_ble_eq_true rfl⟩) rfl LM_0 rfl hl.1 rfl (Nat.le_of_ble_eq_true rfl) dL_law_161 ⟨Nat.le_of_ble_eq_true rfl, Nat.le_of_ble_eq_true rfl⟩) hV (fun r2 N H locs h hV hfr => ?_)
  have hW := keepW hW hV hfr (fun i hi j hj e => hdis j hj i hi e.symm)
  refine lv_icmp_eq (tgt := 1170) S.1 S.2.1 dL_law_164 (by decide) (fun c => ?_) (fun c => absurd h.1 c)
  exact hend _ _ h.2 _ _ _ hW hV hl
set_option maxHeartbeats 4000000 in
set_option maxRecDepth 100000 in
theorem lc_sheet (Rel : Mem → Mem → Prop) {p : Program} {e : Env} {s : State} {m : MethodId} {below : List Frame} {meth : Method} {c : Code} (l : Launch) {b L : Nat} {xs : Nat → Int32} (D : va_G) (T : Nat → ClassId) (σ τ : Nat → Nat) (hdis : ∀ i, i < LH.length → ∀ j, j < LM.length → σ i ≠ τ j) (S : CallFix p m c cL_law 4 s #[Value.ref b] wsL_law RL) (hX : va_X b L xs s s.heap) (hbl : b < s.heap.size)
    (hk_sheet : ∀ (M N : Mem), Rel M N → ∀ (a0 : Int32) (a1 : Int32) (a2 : Int32),  qX6_sheet a0 a1 a2 M (fun r M => qX7_sheet a0 a1 a2 N (fun r2 N => r = r2 ∧ Rel M N)))
    {iv : Int32} (hi1 : vp_in (iv + 1) L) (hi2 : vp_in (iv + 2) L) (hi3 : vp_in (iv + 3) L) (hi4 : vp_in (iv + 4) L) (hi5 : vp_in (iv + 5) L) {M N : Mem} (hR : Rel M N) {H : Heap} {locs : List Loc} {ls : Array Slot} (hW : Wd D T LH σ M (fun q : Nat => s.heap.size ≤ q) s s.heap H locs) (hV : Wd D T LM τ N (fun q : Nat => s.heap.size ≤ q) s s.heap H locs) (hl : lv_has ls 4 [(0, .ref b), (1, .ref (σ 0)), (2, .ref (τ 0)), (3, .int iv)])
    (hend : ∀ (M N : Mem), Rel M N → ∀ (H : Heap) (locs : List Loc) (ls : Array Slot), Wd D T LH σ M (fun q : Nat => s.heap.size ≤ q) s s.heap H locs → Wd D T LM τ N (fun q : Nat => s.heap.size ≤ q) s s.heap H locs → lv_has ls 4 [(0, .ref b), (1, .ref (σ 0)), (2, .ref (τ 0)), (3, .int iv)] → W p l e room_1 s m #[Value.ref b] below meth c H locs 132 48197 (lw_Z below #[Value.ref b] s) (F0 m 1170 ls [])) : W p l e room_1 s m #[Value.ref b] below meth c H locs 132 48197 (lw_Z below #[Value.ref b] s) (F0 m 169 ls []) := by
  have hbA : ¬ (fun q : Nat => s.heap.size ≤ q) b := Nat.not_le.mpr hbl
  refine lv_aload_n S.1 S.2.1 dL_law_169 rfl (lv_at hl 1 rfl) ?_
  refine lv_aload_n S.1 S.2.1 dL_law_170 rfl (lv_at hl 0 rfl) ?_
  refine lv_iload_n S.1 S.2.1 dL_law_171 rfl (lv_at hl 3 rfl) ?_
  refine lv_iconst (v := 1) S.1 S.2.1 dL_law_172 rfl ?_
  refine lv_iadd S.1 S.2.1 dL_law_173 ?_
  refine va_sld S.1 S.2.1 hX hbl hbA hW.2.2.2.1 hi1 dL_law_174 ?_
  refine lv_aload_n S.1 S.2.1 dL_law_175 rfl (lv_at hl 0 rfl) ?_
  refine lv_iload_n S.1 S.2.1 dL_law_176 rfl (lv_at hl 3 rfl) ?_
  refine lv_iconst (v := 2) S.1 S.2.1 dL_law_177 rfl ?_
  refine lv_iadd S.1 S.2.1 dL_law_178 ?_
  refine va_sld S.1 S.2.1 hX hbl hbA hW.2.2.2.1 hi2 dL_law_179 ?_
  refine lv_aload_n S.1 S.2.1 dL_law_180 rfl (lv_at hl 0 rfl) ?_
  refine lv_iload_n S.1 S.2.1 dL_law_181 rfl (lv_at hl 3 rfl) ?_
  refine lv_iconst (v := 3) S.1 S.2.1 dL_law_182 rfl ?_
  refine lv_iadd S.1 S.2.1 dL_law_183 ?_
  refine va_sld S.1 S.2.1 hX hbl hbA hW.2.2.2.1 hi3 dL_law_184 ?_
  have h := hk_sheet M N hR (xs (iv + (1 : Int32)).toNatClampNeg) (xs (iv + (2 : Int32)).toNatClampNeg) (xs (iv + (3 : Int32)).toNatClampNeg)
  refine r_goI2 (r_runV (rest := []) S hW (mX6_sheet l D T σ M (xs (iv + (1 : Int32)).toNatClampNeg) (xs (iv + (2 : Int32)).toNatClampNeg) (xs (iv + (3 : Int32)).toNatClampNeg) _ h) (cwV (R := room_1) (rm := rmX6_sheet) (mc := 0) (ms := 0) 3 S.2.2.2.2 gL_law_X6_sheet rfl rfl rfl (by decide +kernel) ⟨Nat.le_of_ble_eq_true rfl, Nat.le_of_ble_eq_true rfl⟩) rfl LH_0 rfl hl.1 rfl (Nat.le_of_ble_eq_true rfl) dL_law_185 ⟨Nat.le_of_ble_eq_true rfl, Nat.le_of_ble_eq_true rfl⟩) hW (fun r M H locs h hW hfr => ?_)
  have hV := keepW hV hW hfr hdis
  refine lv_aload_n S.1 S.2.1 dL_law_188 rfl (lv_at hl 2 rfl) ?_
  refine lv_aload_n S.1 S.2.1 dL_law_189 rfl (lv_at hl 0 rfl) ?_
  refine lv_iload_n S.1 S.2.1 dL_law_190 rfl (lv_at hl 3 rfl) ?_
  refine lv_iconst (v := 1) S.1 S.2.1 dL_law_191 rfl ?_
  refine lv_iadd S.1 S.2.1 dL_law_192 ?_
  refine va_sld S.1 S.2.1 hX hbl hbA hW.2.2.2.1 hi1 dL_law_193 ?_
  refine lv_aload_n S.1 S.2.1 dL_law_194 rfl (lv_at hl 0 rfl) ?_
  refine lv_iload_n S.1 S.2.1 dL_law_195 rfl (lv_at hl 3 rfl) ?_
  refine lv_iconst (v := 2) S.1 S.2.1 dL_law_196 rfl ?_
  refine lv_iadd S.1 S.2.1 dL_law_197 ?_
  refine va_sld S.1 S.2.1 hX hbl hbA hW.2.2.2.1 hi2 dL_law_198 ?_
  refine lv_aload_n S.1 S.2.1 dL_law_199 rfl (lv_at hl 0 rfl) ?_
  refine lv_iload_n S.1 S.2.1 dL_law_200 rfl (lv_at hl 3 rfl) ?_
  refine lv_iconst (v := 3) S.1 S.2.1 dL_law_201 rfl ?_
  refine lv_iadd S.1 S.2.1 dL_law_202 ?_
  refine va_sld S.1 S.2.1 hX hbl hbA hW.2.2.2.1 hi3 dL_law_203 ?_
  refine r_goI2 (r_runV (rest := [.int r]) S hV (mX7_sheet l D T τ N (xs (iv + (1 : Int32)).toNatClampNeg) (xs (iv + (2 : Int32)).toNatClampNeg) (xs (iv + (3 : Int32)).toNatClampNeg) _ h) (cwV (R := room_1) (rm := rmX7_sheet) (mc := 0) (ms := 0) 3 S.2.2.2.2 gL_law_X7_sheet rfl rfl rfl (by decide +kernel) ⟨Nat.le_of_ble_eq_true rfl, Nat.le_of_ble_eq_true rfl⟩) rfl LM_0 rfl hl.1 rfl (Nat.le_of_ble_eq_true rfl) dL_law_204 ⟨Nat.le_of_ble_eq_true rfl, Nat.le_of_ble_eq_true rfl⟩) hV (fun r2 N H locs h hV hfr => ?_)
  have hW := keepW hW hV hfr (fun i hi j hj e => hdis j hj i hi e.symm)
  refine lv_icmp_eq (tgt := 1170) S.1 S.2.1 dL_law_207 (by decide) (fun c => ?_) (fun c => absurd h.1 c)
  exact hend _ _ h.2 _ _ _ hW hV hl
set_option maxHeartbeats 4000000 in
set_option maxRecDepth 100000 in
theorem lc_write (Rel : Mem → Mem → Prop) {p : Program} {e : Env} {s : State} {m : MethodId} {below : List Frame} {meth : Method} {c : Code} (l : Launch) {b L : Nat} {xs : Nat → Int32} (D : va_G) (T : Nat → ClassId) (σ τ : Nat → Nat) (hdis : ∀ i, i < LH.length → ∀ j, j < LM.length → σ i ≠ τ j) (S : CallFix p m c cL_law 4 s #[Value.ref b] wsL_law RL) (hX : va_X b L xs s s.heap) (hbl : b < s.heap.size)
    (hk_write : ∀ (M N : Mem), Rel M N → ∀ (a0 : Int32) (a1 : Int32) (a2 : Int64),  qX6_write a0 a1 a2 M (fun r M => qX7_write a0 a1 a2 N (fun r2 N => r = r2 ∧ Rel M N)))
    {iv : Int32} (hi1 : vp_in (iv + 1) L) (hi2 : vp_in (iv + 2) L) (hi3 : vp_in (iv + 3) L) (hi4 : vp_in (iv + 4) L) (hi5 : vp_in (iv + 5) L) {M N : Mem} (hR : Rel M N) {H : Heap} {locs : List Loc} {ls : Array Slot} (hW : Wd D T LH σ M (fun q : Nat => s.heap.size ≤ q) s s.heap H locs) (hV : Wd D T LM τ N (fun q : Nat => s.heap.size ≤ q) s s.heap H locs) (hl : lv_has ls 4 [(0, .ref b), (1, .ref (σ 0)), (2, .ref (τ 0)), (3, .int iv)])
    (hend : ∀ (M N : Mem), Rel M N → ∀ (H : Heap) (locs : List Loc) (ls : Array Slot), Wd D T LH σ M (fun q : Nat => s.heap.size ≤ q) s s.heap H locs → Wd D T LM τ N (fun q : Nat => s.heap.size ≤ q) s s.heap H locs → lv_has ls 4 [(0, .ref b), (1, .ref (σ 0)), (2, .ref (τ 0)), (3, .int iv)] → W p l e room_1 s m #[Value.ref b] below meth c H locs 132 48197 (lw_Z below #[Value.ref b] s) (F0 m 1170 ls [])) : W p l e room_1 s m #[Value.ref b] below meth c H locs 132 48197 (lw_Z below #[Value.ref b] s) (F0 m 212 ls []) := by
  have hbA : ¬ (fun q : Nat => s.heap.size ≤ q) b := Nat.not_le.mpr hbl
  refine lv_aload_n S.1 S.2.1 dL_law_212 rfl (lv_at hl 1 rfl) ?_
  refine lv_aload_n S.1 S.2.1 dL_law_213 rfl (lv_at hl 0 rfl) ?_
  refine lv_iload_n S.1 S.2.1 dL_law_214 rfl (lv_at hl 3 rfl) ?_
  refine lv_iconst (v := 1) S.1 S.2.1 dL_law_215 rfl ?_
  refine lv_iadd S.1 S.2.1 dL_law_216 ?_
  refine va_sld S.1 S.2.1 hX hbl hbA hW.2.2.2.1 hi1 dL_law_217 ?_
  refine lv_aload_n S.1 S.2.1 dL_law_218 rfl (lv_at hl 0 rfl) ?_
  refine lv_iload_n S.1 S.2.1 dL_law_219 rfl (lv_at hl 3 rfl) ?_
  refine lv_iconst (v := 2) S.1 S.2.1 dL_law_220 rfl ?_
  refine lv_iadd S.1 S.2.1 dL_law_221 ?_
  refine va_sld S.1 S.2.1 hX hbl hbA hW.2.2.2.1 hi2 dL_law_222 ?_
  refine lv_aload_n S.1 S.2.1 dL_law_223 rfl (lv_at hl 0 rfl) ?_
  refine lv_iload_n S.1 S.2.1 dL_law_224 rfl (lv_at hl 3 rfl) ?_
  refine lv_iconst (v := 3) S.1 S.2.1 dL_law_225 rfl ?_
  refine lv_iadd S.1 S.2.1 dL_law_226 ?_
  refine va_sld S.1 S.2.1 hX hbl hbA hW.2.2.2.1 hi3 dL_law_227 ?_
  refine lv_i2l S.1 S.2.1 dL_law_228 rfl ?_
  refine lv_bipush (v := 32) S.1 S.2.1 dL_law_229 rfl ?_
  refine lv_lshl (v := (jshlL ((xs (iv + (3 : Int32)).toNatClampNeg).toInt64) (32 : Int32))) S.1 S.2.1 dL_law_231 rfl ?_
  refine lv_aload_n S.1 S.2.1 dL_law_232 rfl (lv_at hl 0 rfl) ?_
  refine lv_iload_n S.1 S.2.1 dL_law_233 rfl (lv_at hl 3 rfl) ?_
  refine lv_iconst (v := 4) S.1 S.2.1 dL_law_234 rfl ?_
  refine lv_iadd S.1 S.2.1 dL_law_235 ?_
  refine va_sld S.1 S.2.1 hX hbl hbA hW.2.2.2.1 hi4 dL_law_236 ?_
  refine lv_i2l S.1 S.2.1 dL_law_237 rfl ?_
  refine lv_ldc2 S.1 S.2.1 S.2.2.2.1 (S.2.2.2.2 (.constantLong RL 23 (4294967295)) (by decide +kernel)) dL_law_238 ?_
  refine lv_land S.1 S.2.1 dL_law_241 ?_
  refine lv_lor S.1 S.2.1 dL_law_242 ?_
  have h := hk_write M N hR (xs (iv + (1 : Int32)).toNatClampNeg) (xs (iv + (2 : Int32)).toNatClampNeg) ((jshlL ((xs (iv + (3 : Int32)).toNatClampNeg).toInt64) (32 : Int32)) ||| (((xs (iv + (4 : Int32)).toNatClampNeg).toInt64) &&& (4294967295 : Int64)))
  refine r_goI2 (r_runV (rest := []) S hW (mX6_write l D T σ M (xs (iv + (1 : Int32)).toNatClampNeg) (xs (iv + (2 : Int32)).toNatClampNeg) ((jshlL ((xs (iv + (3 : Int32)).toNatClampNeg).toInt64) (32 : Int32)) ||| (((xs (iv + (4 : Int32)).toNatClampNeg).toInt64) &&& (4294967295 : Int64))) _ h) (cwV (R := room_1) (rm := rmX6_write) (mc := 0) (ms := 0) 3 S.2.2.2.2 gL_law_X6_write rfl rfl rfl (by decide +kernel) ⟨Nat.le_of_ble_eq_true rfl, Nat.le_of_ble_eq_true rfl⟩) rfl LH_0 rfl hl.1 rfl (Nat.le_of_ble_eq_true rfl) dL_law_243 ⟨Nat.le_of_ble_eq_true rfl, Nat.le_of_ble_eq_true rfl⟩) hW (fun r M H locs h hW hfr => ?_)
  have hV := keepW hV hW hfr hdis
  refine lv_aload_n S.1 S.2.1 dL_law_246 rfl (lv_at hl 2 rfl) ?_
  refine lv_aload_n S.1 S.2.1 dL_law_247 rfl (lv_at hl 0 rfl) ?_
  refine lv_iload_n S.1 S.2.1 dL_law_248 rfl (lv_at hl 3 rfl) ?_
  refine lv_iconst (v := 1) S.1 S.2.1 dL_law_249 rfl ?_
  refine lv_iadd S.1 S.2.1 dL_law_250 ?_
  refine va_sld S.1 S.2.1 hX hbl hbA hW.2.2.2.1 hi1 dL_law_251 ?_
  refine lv_aload_n S.1 S.2.1 dL_law_252 rfl (lv_at hl 0 rfl) ?_
  refine lv_iload_n S.1 S.2.1 dL_law_253 rfl (lv_at hl 3 rfl) ?_
  refine lv_iconst (v := 2) S.1 S.2.1 dL_law_254 rfl ?_
  refine lv_iadd S.1 S.2.1 dL_law_255 ?_
  refine va_sld S.1 S.2.1 hX hbl hbA hW.2.2.2.1 hi2 dL_law_256 ?_
  refine lv_aload_n S.1 S.2.1 dL_law_257 rfl (lv_at hl 0 rfl) ?_
  refine lv_iload_n S.1 S.2.1 dL_law_258 rfl (lv_at hl 3 rfl) ?_
  refine lv_iconst (v := 3) S.1 S.2.1 dL_law_259 rfl ?_
  refine lv_iadd S.1 S.2.1 dL_law_260 ?_
  refine va_sld S.1 S.2.1 hX hbl hbA hW.2.2.2.1 hi3 dL_law_261 ?_
  refine lv_i2l S.1 S.2.1 dL_law_262 rfl ?_
  refine lv_bipush (v := 32) S.1 S.2.1 dL_law_263 rfl ?_
  refine lv_lshl (v := (jshlL ((xs (iv + (3 : Int32)).toNatClampNeg).toInt64) (32 : Int32))) S.1 S.2.1 dL_law_265 rfl ?_
  refine lv_aload_n S.1 S.2.1 dL_law_266 rfl (lv_at hl 0 rfl) ?_
  refine lv_iload_n S.1 S.2.1 dL_law_267 rfl (lv_at hl 3 rfl) ?_
  refine lv_iconst (v := 4) S.1 S.2.1 dL_law_268 rfl ?_
  refine lv_iadd S.1 S.2.1 dL_law_269 ?_
  refine va_sld S.1 S.2.1 hX hbl hbA hW.2.2.2.1 hi4 dL_law_270 ?_
  refine lv_i2l S.1 S.2.1 dL_law_271 rfl ?_
  refine lv_ldc2 S.1 S.2.1 S.2.2.2.1 (S.2.2.2.2 (.constantLong RL 23 (4294967295)) (by decide +kernel)) dL_law_272 ?_
  refine lv_land S.1 S.2.1 dL_law_275 ?_
  refine lv_lor S.1 S.2.1 dL_law_276 ?_
  refine r_goI2 (r_runV (rest := [.int r]) S hV (mX7_write l D T τ N (xs (iv + (1 : Int32)).toNatClampNeg) (xs (iv + (2 : Int32)).toNatClampNeg) ((jshlL ((xs (iv + (3 : Int32)).toNatClampNeg).toInt64) (32 : Int32)) ||| (((xs (iv + (4 : Int32)).toNatClampNeg).toInt64) &&& (4294967295 : Int64))) _ h) (cwV (R := room_1) (rm := rmX7_write) (mc := 0) (ms := 0) 3 S.2.2.2.2 gL_law_X7_write rfl rfl rfl (by decide +kernel) ⟨Nat.le_of_ble_eq_true rfl, Nat.le_of_ble_eq_true rfl⟩) rfl LM_0 rfl hl.1 rfl (Nat.le_of_ble_eq_true rfl) dL_law_277 ⟨Nat.le_of_ble_eq_true rfl, Nat.le_of_ble_eq_true rfl⟩) hV (fun r2 N H locs h hV hfr => ?_)
  have hW := keepW hW hV hfr (fun i hi j hj e => hdis j hj i hi e.symm)
  refine lv_icmp_eq (tgt := 1170) S.1 S.2.1 dL_law_280 (by decide) (fun c => ?_) (fun c => absurd h.1 c)
  exact hend _ _ h.2 _ _ _ hW hV hl
set_option maxHeartbeats 4000000 in
set_option maxRecDepth 100000 in
theorem lc_read (Rel : Mem → Mem → Prop) {p : Program} {e : Env} {s : State} {m : MethodId} {below : List Frame} {meth : Method} {c : Code} (l : Launch) {b L : Nat} {xs : Nat → Int32} (D : va_G) (T : Nat → ClassId) (σ τ : Nat → Nat) (hdis : ∀ i, i < LH.length → ∀ j, j < LM.length → σ i ≠ τ j) (S : CallFix p m c cL_law 4 s #[Value.ref b] wsL_law RL) (hX : va_X b L xs s s.heap) (hbl : b < s.heap.size)
    (hk_read : ∀ (M N : Mem), Rel M N → ∀ (a0 : Int32) (a1 : Int32),  qX6_read a0 a1 M (fun r M => qX7_read a0 a1 N (fun r2 N => r = r2 ∧ Rel M N)))
    {iv : Int32} (hi1 : vp_in (iv + 1) L) (hi2 : vp_in (iv + 2) L) (hi3 : vp_in (iv + 3) L) (hi4 : vp_in (iv + 4) L) (hi5 : vp_in (iv + 5) L) {M N : Mem} (hR : Rel M N) {H : Heap} {locs : List Loc} {ls : Array Slot} (hW : Wd D T LH σ M (fun q : Nat => s.heap.size ≤ q) s s.heap H locs) (hV : Wd D T LM τ N (fun q : Nat => s.heap.size ≤ q) s s.heap H locs) (hl : lv_has ls 4 [(0, .ref b), (1, .ref (σ 0)), (2, .ref (τ 0)), (3, .int iv)])
    (hend : ∀ (M N : Mem), Rel M N → ∀ (H : Heap) (locs : List Loc) (ls : Array Slot), Wd D T LH σ M (fun q : Nat => s.heap.size ≤ q) s s.heap H locs → Wd D T LM τ N (fun q : Nat => s.heap.size ≤ q) s s.heap H locs → lv_has ls 4 [(0, .ref b), (1, .ref (σ 0)), (2, .ref (τ 0)), (3, .int iv)] → W p l e room_1 s m #[Value.ref b] below meth c H locs 132 48197 (lw_Z below #[Value.ref b] s) (F0 m 1170 ls [])) : W p l e room_1 s m #[Value.ref b] below meth c H locs 132 48197 (lw_Z below #[Value.ref b] s) (F0 m 285 ls []) := by
  have hbA : ¬ (fun q : Nat => s.heap.size ≤ q) b := Nat.not_le.mpr hbl
  refine lv_aload_n S.1 S.2.1 dL_law_285 rfl (lv_at hl 1 rfl) ?_
  refine lv_aload_n S.1 S.2.1 dL_law_286 rfl (lv_at hl 0 rfl) ?_
  refine lv_iload_n S.1 S.2.1 dL_law_287 rfl (lv_at hl 3 rfl) ?_
  refine lv_iconst (v := 1) S.1 S.2.1 dL_law_288 rfl ?_
  refine lv_iadd S.1 S.2.1 dL_law_289 ?_
  refine va_sld S.1 S.2.1 hX hbl hbA hW.2.2.2.1 hi1 dL_law_290 ?_
  refine lv_aload_n S.1 S.2.1 dL_law_291 rfl (lv_at hl 0 rfl) ?_
  refine lv_iload_n S.1 S.2.1 dL_law_292 rfl (lv_at hl 3 rfl) ?_
  refine lv_iconst (v := 2) S.1 S.2.1 dL_law_293 rfl ?_
  refine lv_iadd S.1 S.2.1 dL_law_294 ?_
  refine va_sld S.1 S.2.1 hX hbl hbA hW.2.2.2.1 hi2 dL_law_295 ?_
  have h := hk_read M N hR (xs (iv + (1 : Int32)).toNatClampNeg) (xs (iv + (2 : Int32)).toNatClampNeg)
  refine r_goL2 (r_runV (rest := []) S hW (mX6_read l D T σ M (xs (iv + (1 : Int32)).toNatClampNeg) (xs (iv + (2 : Int32)).toNatClampNeg) _ h) (cwV (R := room_1) (rm := rmX6_read) (mc := 0) (ms := 0) 2 S.2.2.2.2 gL_law_X6_read rfl rfl rfl (by decide +kernel) ⟨Nat.le_of_ble_eq_true rfl, Nat.le_of_ble_eq_true rfl⟩) rfl LH_0 rfl hl.1 rfl (Nat.le_of_ble_eq_true rfl) dL_law_296 ⟨Nat.le_of_ble_eq_true rfl, Nat.le_of_ble_eq_true rfl⟩) hW (fun r M H locs h hW hfr => ?_)
  have hV := keepW hV hW hfr hdis
  refine lv_aload_n S.1 S.2.1 dL_law_299 rfl (lv_at hl 2 rfl) ?_
  refine lv_aload_n S.1 S.2.1 dL_law_300 rfl (lv_at hl 0 rfl) ?_
  refine lv_iload_n S.1 S.2.1 dL_law_301 rfl (lv_at hl 3 rfl) ?_
  refine lv_iconst (v := 1) S.1 S.2.1 dL_law_302 rfl ?_
  refine lv_iadd S.1 S.2.1 dL_law_303 ?_
  refine va_sld S.1 S.2.1 hX hbl hbA hW.2.2.2.1 hi1 dL_law_304 ?_
  refine lv_aload_n S.1 S.2.1 dL_law_305 rfl (lv_at hl 0 rfl) ?_
  refine lv_iload_n S.1 S.2.1 dL_law_306 rfl (lv_at hl 3 rfl) ?_
  refine lv_iconst (v := 2) S.1 S.2.1 dL_law_307 rfl ?_
  refine lv_iadd S.1 S.2.1 dL_law_308 ?_
  refine va_sld S.1 S.2.1 hX hbl hbA hW.2.2.2.1 hi2 dL_law_309 ?_
  refine r_goL2 (r_runV (rest := [.long r]) S hV (mX7_read l D T τ N (xs (iv + (1 : Int32)).toNatClampNeg) (xs (iv + (2 : Int32)).toNatClampNeg) _ h) (cwV (R := room_1) (rm := rmX7_read) (mc := 0) (ms := 0) 2 S.2.2.2.2 gL_law_X7_read rfl rfl rfl (by decide +kernel) ⟨Nat.le_of_ble_eq_true rfl, Nat.le_of_ble_eq_true rfl⟩) rfl LM_0 rfl hl.1 rfl (Nat.le_of_ble_eq_true rfl) dL_law_310 ⟨Nat.le_of_ble_eq_true rfl, Nat.le_of_ble_eq_true rfl⟩) hV (fun r2 N H locs h hV hfr => ?_)
  have hW := keepW hW hV hfr (fun i hi j hj e => hdis j hj i hi e.symm)
  refine W.lcmp S.1 S.2.1 dL_law_313 ?_
  refine lv_if_eq (tgt := 1170) S.1 S.2.1 dL_law_314 (by decide) (fun c => ?_) (fun c => absurd ((lg_cmp_eq _ _).mpr h.1) c)
  exact hend _ _ h.2 _ _ _ hW hV hl
set_option maxHeartbeats 4000000 in
set_option maxRecDepth 100000 in
theorem lc_drop (Rel : Mem → Mem → Prop) {p : Program} {e : Env} {s : State} {m : MethodId} {below : List Frame} {meth : Method} {c : Code} (l : Launch) {b L : Nat} {xs : Nat → Int32} (D : va_G) (T : Nat → ClassId) (σ τ : Nat → Nat) (hdis : ∀ i, i < LH.length → ∀ j, j < LM.length → σ i ≠ τ j) (S : CallFix p m c cL_law 4 s #[Value.ref b] wsL_law RL) (hX : va_X b L xs s s.heap) (hbl : b < s.heap.size)
    (hk_drop : ∀ (M N : Mem), Rel M N → ∀ (a0 : Int32),  qX6_drop a0 M (fun r M => qX7_drop a0 N (fun r2 N => r = r2 ∧ Rel M N)))
    {iv : Int32} (hi1 : vp_in (iv + 1) L) (hi2 : vp_in (iv + 2) L) (hi3 : vp_in (iv + 3) L) (hi4 : vp_in (iv + 4) L) (hi5 : vp_in (iv + 5) L) {M N : Mem} (hR : Rel M N) {H : Heap} {locs : List Loc} {ls : Array Slot} (hW : Wd D T LH σ M (fun q : Nat => s.heap.size ≤ q) s s.heap H locs) (hV : Wd D T LM τ N (fun q : Nat => s.heap.size ≤ q) s s.heap H locs) (hl : lv_has ls 4 [(0, .ref b), (1, .ref (σ 0)), (2, .ref (τ 0)), (3, .int iv)])
    (hend : ∀ (M N : Mem), Rel M N → ∀ (H : Heap) (locs : List Loc) (ls : Array Slot), Wd D T LH σ M (fun q : Nat => s.heap.size ≤ q) s s.heap H locs → Wd D T LM τ N (fun q : Nat => s.heap.size ≤ q) s s.heap H locs → lv_has ls 4 [(0, .ref b), (1, .ref (σ 0)), (2, .ref (τ 0)), (3, .int iv)] → W p l e room_1 s m #[Value.ref b] below meth c H locs 132 48197 (lw_Z below #[Value.ref b] s) (F0 m 1170 ls [])) : W p l e room_1 s m #[Value.ref b] below meth c H locs 132 48197 (lw_Z below #[Value.ref b] s) (F0 m 319 ls []) := by
  have hbA : ¬ (fun q : Nat => s.heap.size ≤ q) b := Nat.not_le.mpr hbl
  refine lv_aload_n S.1 S.2.1 dL_law_319 rfl (lv_at hl 1 rfl) ?_
  refine lv_aload_n S.1 S.2.1 dL_law_320 rfl (lv_at hl 0 rfl) ?_
  refine lv_iload_n S.1 S.2.1 dL_law_321 rfl (lv_at hl 3 rfl) ?_
  refine lv_iconst (v := 1) S.1 S.2.1 dL_law_322 rfl ?_
  refine lv_iadd S.1 S.2.1 dL_law_323 ?_
  refine va_sld S.1 S.2.1 hX hbl hbA hW.2.2.2.1 hi1 dL_law_324 ?_
  have h := hk_drop M N hR (xs (iv + (1 : Int32)).toNatClampNeg)
  refine r_goI2 (r_runV (rest := []) S hW (mX6_drop l D T σ M (xs (iv + (1 : Int32)).toNatClampNeg) _ h) (cwV (R := room_1) (rm := rmX6_drop) (mc := 0) (ms := 0) 1 S.2.2.2.2 gL_law_X6_drop rfl rfl rfl (by decide +kernel) ⟨Nat.le_of_ble_eq_true rfl, Nat.le_of_ble_eq_true rfl⟩) rfl LH_0 rfl hl.1 rfl (Nat.le_of_ble_eq_true rfl) dL_law_325 ⟨Nat.le_of_ble_eq_true rfl, Nat.le_of_ble_eq_true rfl⟩) hW (fun r M H locs h hW hfr => ?_)
  have hV := keepW hV hW hfr hdis
  refine lv_aload_n S.1 S.2.1 dL_law_328 rfl (lv_at hl 2 rfl) ?_
  refine lv_aload_n S.1 S.2.1 dL_law_329 rfl (lv_at hl 0 rfl) ?_
  refine lv_iload_n S.1 S.2.1 dL_law_330 rfl (lv_at hl 3 rfl) ?_
  refine lv_iconst (v := 1) S.1 S.2.1 dL_law_331 rfl ?_
  refine lv_iadd S.1 S.2.1 dL_law_332 ?_
  refine va_sld S.1 S.2.1 hX hbl hbA hW.2.2.2.1 hi1 dL_law_333 ?_
  refine r_goI2 (r_runV (rest := [.int r]) S hV (mX7_drop l D T τ N (xs (iv + (1 : Int32)).toNatClampNeg) _ h) (cwV (R := room_1) (rm := rmX7_drop) (mc := 0) (ms := 0) 1 S.2.2.2.2 gL_law_X7_drop rfl rfl rfl (by decide +kernel) ⟨Nat.le_of_ble_eq_true rfl, Nat.le_of_ble_eq_true rfl⟩) rfl LM_0 rfl hl.1 rfl (Nat.le_of_ble_eq_true rfl) dL_law_334 ⟨Nat.le_of_ble_eq_true rfl, Nat.le_of_ble_eq_true rfl⟩) hV (fun r2 N H locs h hV hfr => ?_)
  have hW := keepW hW hV hfr (fun i hi j hj e => hdis j hj i hi e.symm)
  refine lv_icmp_eq (tgt := 1170) S.1 S.2.1 dL_law_337 (by decide) (fun c => ?_) (fun c => absurd h.1 c)
  exact hend _ _ h.2 _ _ _ hW hV hl
set_option maxHeartbeats 4000000 in
set_option maxRecDepth 100000 in
theorem lc_copy (Rel : Mem → Mem → Prop) {p : Program} {e : Env} {s : State} {m : MethodId} {below : List Frame} {meth : Method} {c : Code} (l : Launch) {b L : Nat} {xs : Nat → Int32} (D : va_G) (T : Nat → ClassId) (σ τ : Nat → Nat) (hdis : ∀ i, i < LH.length → ∀ j, j < LM.length → σ i ≠ τ j) (S : CallFix p m c cL_law 4 s #[Value.ref b] wsL_law RL) (hX : va_X b L xs s s.heap) (hbl : b < s.heap.size)
    (hk_copy : ∀ (M N : Mem), Rel M N → ∀ (a0 : Int32) (a1 : Int32) (a2 : Int32) (a3 : Int32) (a4 : Int32),  qX6_copy a0 a1 a2 a3 a4 M (fun r M => qX7_copy a0 a1 a2 a3 a4 N (fun r2 N => r = r2 ∧ Rel M N)))
    {iv : Int32} (hi1 : vp_in (iv + 1) L) (hi2 : vp_in (iv + 2) L) (hi3 : vp_in (iv + 3) L) (hi4 : vp_in (iv + 4) L) (hi5 : vp_in (iv + 5) L) {M N : Mem} (hR : Rel M N) {H : Heap} {locs : List Loc} {ls : Array Slot} (hW : Wd D T LH σ M (fun q : Nat => s.heap.size ≤ q) s s.heap H locs) (hV : Wd D T LM τ N (fun q : Nat => s.heap.size ≤ q) s s.heap H locs) (hl : lv_has ls 4 [(0, .ref b), (1, .ref (σ 0)), (2, .ref (τ 0)), (3, .int iv)])
    (hend : ∀ (M N : Mem), Rel M N → ∀ (H : Heap) (locs : List Loc) (ls : Array Slot), Wd D T LH σ M (fun q : Nat => s.heap.size ≤ q) s s.heap H locs → Wd D T LM τ N (fun q : Nat => s.heap.size ≤ q) s s.heap H locs → lv_has ls 4 [(0, .ref b), (1, .ref (σ 0)), (2, .ref (τ 0)), (3, .int iv)] → W p l e room_1 s m #[Value.ref b] below meth c H locs 132 48197 (lw_Z below #[Value.ref b] s) (F0 m 1170 ls [])) : W p l e room_1 s m #[Value.ref b] below meth c H locs 132 48197 (lw_Z below #[Value.ref b] s) (F0 m 342 ls []) := by
  have hbA : ¬ (fun q : Nat => s.heap.size ≤ q) b := Nat.not_le.mpr hbl
  refine lv_aload_n S.1 S.2.1 dL_law_342 rfl (lv_at hl 1 rfl) ?_
  refine lv_aload_n S.1 S.2.1 dL_law_343 rfl (lv_at hl 0 rfl) ?_
  refine lv_iload_n S.1 S.2.1 dL_law_344 rfl (lv_at hl 3 rfl) ?_
  refine lv_iconst (v := 1) S.1 S.2.1 dL_law_345 rfl ?_
  refine lv_iadd S.1 S.2.1 dL_law_346 ?_
  refine va_sld S.1 S.2.1 hX hbl hbA hW.2.2.2.1 hi1 dL_law_347 ?_
  refine lv_aload_n S.1 S.2.1 dL_law_348 rfl (lv_at hl 0 rfl) ?_
  refine lv_iload_n S.1 S.2.1 dL_law_349 rfl (lv_at hl 3 rfl) ?_
  refine lv_iconst (v := 2) S.1 S.2.1 dL_law_350 rfl ?_
  refine lv_iadd S.1 S.2.1 dL_law_351 ?_
  refine va_sld S.1 S.2.1 hX hbl hbA hW.2.2.2.1 hi2 dL_law_352 ?_
  refine lv_aload_n S.1 S.2.1 dL_law_353 rfl (lv_at hl 0 rfl) ?_
  refine lv_iload_n S.1 S.2.1 dL_law_354 rfl (lv_at hl 3 rfl) ?_
  refine lv_iconst (v := 3) S.1 S.2.1 dL_law_355 rfl ?_
  refine lv_iadd S.1 S.2.1 dL_law_356 ?_
  refine va_sld S.1 S.2.1 hX hbl hbA hW.2.2.2.1 hi3 dL_law_357 ?_
  refine lv_aload_n S.1 S.2.1 dL_law_358 rfl (lv_at hl 0 rfl) ?_
  refine lv_iload_n S.1 S.2.1 dL_law_359 rfl (lv_at hl 3 rfl) ?_
  refine lv_iconst (v := 4) S.1 S.2.1 dL_law_360 rfl ?_
  refine lv_iadd S.1 S.2.1 dL_law_361 ?_
  refine va_sld S.1 S.2.1 hX hbl hbA hW.2.2.2.1 hi4 dL_law_362 ?_
  refine lv_aload_n S.1 S.2.1 dL_law_363 rfl (lv_at hl 0 rfl) ?_
  refine lv_iload_n S.1 S.2.1 dL_law_364 rfl (lv_at hl 3 rfl) ?_
  refine lv_iconst (v := 5) S.1 S.2.1 dL_law_365 rfl ?_
  refine lv_iadd S.1 S.2.1 dL_law_366 ?_
  refine va_sld S.1 S.2.1 hX hbl hbA hW.2.2.2.1 hi5 dL_law_367 ?_
  have h := hk_copy M N hR (xs (iv + (1 : Int32)).toNatClampNeg) (xs (iv + (2 : Int32)).toNatClampNeg) (xs (iv + (3 : Int32)).toNatClampNeg) (xs (iv + (4 : Int32)).toNatClampNeg) (xs (iv + (5 : Int32)).toNatClampNeg)
  refine r_goI2 (r_runV (rest := []) S hW (mX6_copy l D T σ M (xs (iv + (1 : Int32)).toNatClampNeg) (xs (iv + (2 : Int32)).toNatClampNeg) (xs (iv + (3 : Int32)).toNatClampNeg) (xs (iv + (4 : Int32)).toNatClampNeg) (xs (iv + (5 : Int32)).toNatClampNeg) _ h) (cwV (R := room_1) (rm := rmX6_copy) (mc := 0) (ms := 0) 5 S.2.2.2.2 gL_law_X6_copy rfl rfl rfl (by decide +kernel) ⟨Nat.le_of_ble_eq_true rfl, Nat.le_of_ble_eq_true rfl⟩) rfl LH_0 rfl hl.1 rfl (Nat.le_of_ble_eq_true rfl) dL_law_368 ⟨Nat.le_of_ble_eq_true rfl, Nat.le_of_ble_eq_true rfl⟩) hW (fun r M H locs h hW hfr => ?_)
  have hV := keepW hV hW hfr hdis
  refine lv_aload_n S.1 S.2.1 dL_law_371 rfl (lv_at hl 2 rfl) ?_
  refine lv_aload_n S.1 S.2.1 dL_law_372 rfl (lv_at hl 0 rfl) ?_
  refine lv_iload_n S.1 S.2.1 dL_law_373 rfl (lv_at hl 3 rfl) ?_
  refine lv_iconst (v := 1) S.1 S.2.1 dL_law_374 rfl ?_
  refine lv_iadd S.1 S.2.1 dL_law_375 ?_
  refine va_sld S.1 S.2.1 hX hbl hbA hW.2.2.2.1 hi1 dL_law_376 ?_
  refine lv_aload_n S.1 S.2.1 dL_law_377 rfl (lv_at hl 0 rfl) ?_
  refine lv_iload_n S.1 S.2.1 dL_law_378 rfl (lv_at hl 3 rfl) ?_
  refine lv_iconst (v := 2) S.1 S.2.1 dL_law_379 rfl ?_
  refine lv_iadd S.1 S.2.1 dL_law_380 ?_
  refine va_sld S.1 S.2.1 hX hbl hbA hW.2.2.2.1 hi2 dL_law_381 ?_
  refine lv_aload_n S.1 S.2.1 dL_law_382 rfl (lv_at hl 0 rfl) ?_
  refine lv_iload_n S.1 S.2.1 dL_law_383 rfl (lv_at hl 3 rfl) ?_
  refine lv_iconst (v := 3) S.1 S.2.1 dL_law_384 rfl ?_
  refine lv_iadd S.1 S.2.1 dL_law_385 ?_
  refine va_sld S.1 S.2.1 hX hbl hbA hW.2.2.2.1 hi3 dL_law_386 ?_
  refine lv_aload_n S.1 S.2.1 dL_law_387 rfl (lv_at hl 0 rfl) ?_
  refine lv_iload_n S.1 S.2.1 dL_law_388 rfl (lv_at hl 3 rfl) ?_
  refine lv_iconst (v := 4) S.1 S.2.1 dL_law_389 rfl ?_
  refine lv_iadd S.1 S.2.1 dL_law_390 ?_
  refine va_sld S.1 S.2.1 hX hbl hbA hW.2.2.2.1 hi4 dL_law_391 ?_
  refine lv_aload_n S.1 S.2.1 dL_law_392 rfl (lv_at hl 0 rfl) ?_
  refine lv_iload_n S.1 S.2.1 dL_law_393 rfl (lv_at hl 3 rfl) ?_
  refine lv_iconst (v := 5) S.1 S.2.1 dL_law_394 rfl ?_
  refine lv_iadd S.1 S.2.1 dL_law_395 ?_
  refine va_sld S.1 S.2.1 hX hbl hbA hW.2.2.2.1 hi5 dL_law_396 ?_
  refine r_goI2 (r_runV (rest := [.int r]) S hV (mX7_copy l D T τ N (xs (iv + (1 : Int32)).toNatClampNeg) (xs (iv + (2 : Int32)).toNatClampNeg) (xs (iv + (3 : Int32)).toNatClampNeg) (xs (iv + (4 : Int32)).toNatClampNeg) (xs (iv + (5 : Int32)).toNatClampNeg) _ h) (cwV (R := room_1) (rm := rmX7_copy) (mc := 0) (ms := 0) 5 S.2.2.2.2 gL_law_X7_copy rfl rfl rfl (by decide +kernel) ⟨Nat.le_of_ble_eq_true rfl, Nat.le_of_ble_eq_true rfl⟩) rfl LM_0 rfl hl.1 rfl (Nat.le_of_ble_eq_true rfl) dL_law_397 ⟨Nat.le_of_ble_eq_true rfl, Nat.le_of_ble_eq_true rfl⟩) hV (fun r2 N H locs h hV hfr => ?_)
  have hW := keepW hW hV hfr (fun i hi j hj e => hdis j hj i hi e.symm)
  refine lv_icmp_eq (tgt := 1170) S.1 S.2.1 dL_law_400 (by decide) (fun c => ?_) (fun c => absurd h.1 c)
  exact hend _ _ h.2 _ _ _ hW hV hl
set_option maxHeartbeats 4000000 in
set_option maxRecDepth 100000 in
theorem lc_none (Rel : Mem → Mem → Prop) {p : Program} {e : Env} {s : State} {m : MethodId} {below : List Frame} {meth : Method} {c : Code} (l : Launch) {b L : Nat} {xs : Nat → Int32} (D : va_G) (T : Nat → ClassId) (σ τ : Nat → Nat) (hdis : ∀ i, i < LH.length → ∀ j, j < LM.length → σ i ≠ τ j) (S : CallFix p m c cL_law 4 s #[Value.ref b] wsL_law RL) (hX : va_X b L xs s s.heap) (hbl : b < s.heap.size)
    (hk_none : ∀ (M N : Mem), Rel M N →  qX6_none M (fun r M => qX7_none N (fun r2 N => r = r2 ∧ Rel M N)))
    {iv : Int32} (hi1 : vp_in (iv + 1) L) (hi2 : vp_in (iv + 2) L) (hi3 : vp_in (iv + 3) L) (hi4 : vp_in (iv + 4) L) (hi5 : vp_in (iv + 5) L) {M N : Mem} (hR : Rel M N) {H : Heap} {locs : List Loc} {ls : Array Slot} (hW : Wd D T LH σ M (fun q : Nat => s.heap.size ≤ q) s s.heap H locs) (hV : Wd D T LM τ N (fun q : Nat => s.heap.size ≤ q) s s.heap H locs) (hl : lv_has ls 4 [(0, .ref b), (1, .ref (σ 0)), (2, .ref (τ 0)), (3, .int iv)])
    (hend : ∀ (M N : Mem), Rel M N → ∀ (H : Heap) (locs : List Loc) (ls : Array Slot), Wd D T LH σ M (fun q : Nat => s.heap.size ≤ q) s s.heap H locs → Wd D T LM τ N (fun q : Nat => s.heap.size ≤ q) s s.heap H locs → lv_has ls 4 [(0, .ref b), (1, .ref (σ 0)), (2, .ref (τ 0)), (3, .int iv)] → W p l e room_1 s m #[Value.ref b] below meth c H locs 132 48197 (lw_Z below #[Value.ref b] s) (F0 m 1170 ls [])) : W p l e room_1 s m #[Value.ref b] below meth c H locs 132 48197 (lw_Z below #[Value.ref b] s) (F0 m 405 ls []) := by
  have hbA : ¬ (fun q : Nat => s.heap.size ≤ q) b := Nat.not_le.mpr hbl
  refine lv_aload_n S.1 S.2.1 dL_law_405 rfl (lv_at hl 1 rfl) ?_
  have h := hk_none M N hR
  refine r_goI2 (r_runV (rest := []) S hW (mX6_none l D T σ M _ h) (cwV (R := room_1) (rm := rmX6_none) (mc := 0) (ms := 0) 0 S.2.2.2.2 gL_law_X6_none rfl rfl rfl (by decide +kernel) ⟨Nat.le_of_ble_eq_true rfl, Nat.le_of_ble_eq_true rfl⟩) rfl LH_0 rfl hl.1 rfl (Nat.le_of_ble_eq_true rfl) dL_law_406 ⟨Nat.le_of_ble_eq_true rfl, Nat.le_of_ble_eq_true rfl⟩) hW (fun r M H locs h hW hfr => ?_)
  have hV := keepW hV hW hfr hdis
  refine lv_aload_n S.1 S.2.1 dL_law_409 rfl (lv_at hl 2 rfl) ?_
  refine r_goI2 (r_runV (rest := [.int r]) S hV (mX7_none l D T τ N _ h) (cwV (R := room_1) (rm := rmX7_none) (mc := 0) (ms := 0) 0 S.2.2.2.2 gL_law_X7_none rfl rfl rfl (by decide +kernel) ⟨Nat.le_of_ble_eq_true rfl, Nat.le_of_ble_eq_true rfl⟩) rfl LM_0 rfl hl.1 rfl (Nat.le_of_ble_eq_true rfl) dL_law_410 ⟨Nat.le_of_ble_eq_true rfl, Nat.le_of_ble_eq_true rfl⟩) hV (fun r2 N H locs h hV hfr => ?_)
  have hW := keepW hW hV hfr (fun i hi j hj e => hdis j hj i hi e.symm)
  refine lv_icmp_eq (tgt := 1170) S.1 S.2.1 dL_law_413 (by decide) (fun c => ?_) (fun c => absurd h.1 c)
  exact hend _ _ h.2 _ _ _ hW hV hl
set_option maxHeartbeats 4000000 in
set_option maxRecDepth 100000 in
theorem lc_machine (Rel : Mem → Mem → Prop) {p : Program} {e : Env} {s : State} {m : MethodId} {below : List Frame} {meth : Method} {c : Code} (l : Launch) {b L : Nat} {xs : Nat → Int32} (D : va_G) (T : Nat → ClassId) (σ τ : Nat → Nat) (hdis : ∀ i, i < LH.length → ∀ j, j < LM.length → σ i ≠ τ j) (S : CallFix p m c cL_law 4 s #[Value.ref b] wsL_law RL) (hX : va_X b L xs s s.heap) (hbl : b < s.heap.size)
    (hk_machine : ∀ (M N : Mem), Rel M N → ∀ (a0 : Int32) (a1 : Int32),  qX6_machine a0 a1 M (fun r M => qX7_machine a0 a1 N (fun r2 N => r = r2 ∧ Rel M N)))
    {iv : Int32} (hi1 : vp_in (iv + 1) L) (hi2 : vp_in (iv + 2) L) (hi3 : vp_in (iv + 3) L) (hi4 : vp_in (iv + 4) L) (hi5 : vp_in (iv + 5) L) {M N : Mem} (hR : Rel M N) {H : Heap} {locs : List Loc} {ls : Array Slot} (hW : Wd D T LH σ M (fun q : Nat => s.heap.size ≤ q) s s.heap H locs) (hV : Wd D T LM τ N (fun q : Nat => s.heap.size ≤ q) s s.heap H locs) (hl : lv_has ls 4 [(0, .ref b), (1, .ref (σ 0)), (2, .ref (τ 0)), (3, .int iv)])
    (hend : ∀ (M N : Mem), Rel M N → ∀ (H : Heap) (locs : List Loc) (ls : Array Slot), Wd D T LH σ M (fun q : Nat => s.heap.size ≤ q) s s.heap H locs → Wd D T LM τ N (fun q : Nat => s.heap.size ≤ q) s s.heap H locs → lv_has ls 4 [(0, .ref b), (1, .ref (σ 0)), (2, .ref (τ 0)), (3, .int iv)] → W p l e room_1 s m #[Value.ref b] below meth c H locs 132 48197 (lw_Z below #[Value.ref b] s) (F0 m 1170 ls [])) : W p l e room_1 s m #[Value.ref b] below meth c H locs 132 48197 (lw_Z below #[Value.ref b] s) (F0 m 418 ls []) := by
  have hbA : ¬ (fun q : Nat => s.heap.size ≤ q) b := Nat.not_le.mpr hbl
  refine lv_aload_n S.1 S.2.1 dL_law_418 rfl (lv_at hl 1 rfl) ?_
  refine lv_aload_n S.1 S.2.1 dL_law_419 rfl (lv_at hl 0 rfl) ?_
  refine lv_iload_n S.1 S.2.1 dL_law_420 rfl (lv_at hl 3 rfl) ?_
  refine lv_iconst (v := 1) S.1 S.2.1 dL_law_421 rfl ?_
  refine lv_iadd S.1 S.2.1 dL_law_422 ?_
  refine va_sld S.1 S.2.1 hX hbl hbA hW.2.2.2.1 hi1 dL_law_423 ?_
  refine lv_aload_n S.1 S.2.1 dL_law_424 rfl (lv_at hl 0 rfl) ?_
  refine lv_iload_n S.1 S.2.1 dL_law_425 rfl (lv_at hl 3 rfl) ?_
  refine lv_iconst (v := 2) S.1 S.2.1 dL_law_426 rfl ?_
  refine lv_iadd S.1 S.2.1 dL_law_427 ?_
  refine va_sld S.1 S.2.1 hX hbl hbA hW.2.2.2.1 hi2 dL_law_428 ?_
  have h := hk_machine M N hR (xs (iv + (1 : Int32)).toNatClampNeg) (xs (iv + (2 : Int32)).toNatClampNeg)
  refine r_goI2 (r_runV (rest := []) S hW (mX6_machine l D T σ M (xs (iv + (1 : Int32)).toNatClampNeg) (xs (iv + (2 : Int32)).toNatClampNeg) _ h) (cwV (R := room_1) (rm := rmX6_machine) (mc := 0) (ms := 0) 2 S.2.2.2.2 gL_law_X6_machine rfl rfl rfl (by decide +kernel) ⟨Nat.le_of_ble_eq_true rfl, Nat.le_of_ble_eq_true rfl⟩) rfl LH_0 rfl hl.1 rfl (Nat.le_of_ble_eq_true rfl) dL_law_429 ⟨Nat.le_of_ble_eq_true rfl, Nat.le_of_ble_eq_true rfl⟩) hW (fun r M H locs h hW hfr => ?_)
  have hV := keepW hV hW hfr hdis
  refine lv_aload_n S.1 S.2.1 dL_law_432 rfl (lv_at hl 2 rfl) ?_
  refine lv_aload_n S.1 S.2.1 dL_law_433 rfl (lv_at hl 0 rfl) ?_
  refine lv_iload_n S.1 S.2.1 dL_law_434 rfl (lv_at hl 3 rfl) ?_
  refine lv_iconst (v := 1) S.1 S.2.1 dL_law_435 rfl ?_
  refine lv_iadd S.1 S.2.1 dL_law_436 ?_
  refine va_sld S.1 S.2.1 hX hbl hbA hW.2.2.2.1 hi1 dL_law_437 ?_
  refine lv_aload_n S.1 S.2.1 dL_law_438 rfl (lv_at hl 0 rfl) ?_
  refine lv_iload_n S.1 S.2.1 dL_law_439 rfl (lv_at hl 3 rfl) ?_
  refine lv_iconst (v := 2) S.1 S.2.1 dL_law_440 rfl ?_
  refine lv_iadd S.1 S.2.1 dL_law_441 ?_
  refine va_sld S.1 S.2.1 hX hbl hbA hW.2.2.2.1 hi2 dL_law_442 ?_
  refine r_goI2 (r_runV (rest := [.int r]) S hV (mX7_machine l D T τ N (xs (iv + (1 : Int32)).toNatClampNeg) (xs (iv + (2 : Int32)).toNatClampNeg) _ h) (cwV (R := room_1) (rm := rmX7_machine) (mc := 0) (ms := 0) 2 S.2.2.2.2 gL_law_X7_machine rfl rfl rfl (by decide +kernel) ⟨Nat.le_of_ble_eq_true rfl, Nat.le_of_ble_eq_true rfl⟩) rfl LM_0 rfl hl.1 rfl (Nat.le_of_ble_eq_true rfl) dL_law_443 ⟨Nat.le_of_ble_eq_true rfl, Nat.le_of_ble_eq_true rfl⟩) hV (fun r2 N H locs h hV hfr => ?_)
  have hW := keepW hW hV hfr (fun i hi j hj e => hdis j hj i hi e.symm)
  refine lv_icmp_eq (tgt := 1170) S.1 S.2.1 dL_law_446 (by decide) (fun c => ?_) (fun c => absurd h.1 c)
  exact hend _ _ h.2 _ _ _ hW hV hl
set_option maxHeartbeats 4000000 in
set_option maxRecDepth 100000 in
theorem lc_up (Rel : Mem → Mem → Prop) {p : Program} {e : Env} {s : State} {m : MethodId} {below : List Frame} {meth : Method} {c : Code} (l : Launch) {b L : Nat} {xs : Nat → Int32} (D : va_G) (T : Nat → ClassId) (σ τ : Nat → Nat) (hdis : ∀ i, i < LH.length → ∀ j, j < LM.length → σ i ≠ τ j) (S : CallFix p m c cL_law 4 s #[Value.ref b] wsL_law RL) (hX : va_X b L xs s s.heap) (hbl : b < s.heap.size)
    (hk_up : ∀ (M N : Mem), Rel M N → ∀ (a0 : Int32) (a1 : Int32), (a1 = 0 ∨ a1 = 1) →  qX6_up a0 a1 M (fun r M => qX7_up a0 a1 N (fun r2 N => r = r2 ∧ Rel M N)))
    {iv : Int32} (hi1 : vp_in (iv + 1) L) (hi2 : vp_in (iv + 2) L) (hi3 : vp_in (iv + 3) L) (hi4 : vp_in (iv + 4) L) (hi5 : vp_in (iv + 5) L) {M N : Mem} (hR : Rel M N) {H : Heap} {locs : List Loc} {ls : Array Slot} (hW : Wd D T LH σ M (fun q : Nat => s.heap.size ≤ q) s s.heap H locs) (hV : Wd D T LM τ N (fun q : Nat => s.heap.size ≤ q) s s.heap H locs) (hl : lv_has ls 4 [(0, .ref b), (1, .ref (σ 0)), (2, .ref (τ 0)), (3, .int iv)])
    (hend : ∀ (M N : Mem), Rel M N → ∀ (H : Heap) (locs : List Loc) (ls : Array Slot), Wd D T LH σ M (fun q : Nat => s.heap.size ≤ q) s s.heap H locs → Wd D T LM τ N (fun q : Nat => s.heap.size ≤ q) s s.heap H locs → lv_has ls 4 [(0, .ref b), (1, .ref (σ 0)), (2, .ref (τ 0)), (3, .int iv)] → W p l e room_1 s m #[Value.ref b] below meth c H locs 132 48197 (lw_Z below #[Value.ref b] s) (F0 m 1170 ls [])) : W p l e room_1 s m #[Value.ref b] below meth c H locs 132 48197 (lw_Z below #[Value.ref b] s) (F0 m 451 ls []) := by
  have hbA : ¬ (fun q : Nat => s.heap.size ≤ q) b := Nat.not_le.mpr hbl
  refine lv_aload_n S.1 S.2.1 dL_law_451 rfl (lv_at hl 1 rfl) ?_
  refine lv_aload_n S.1 S.2.1 dL_law_452 rfl (lv_at hl 0 rfl) ?_
  refine lv_iload_n S.1 S.2.1 dL_law_453 rfl (lv_at hl 3 rfl) ?_
  refine lv_iconst (v := 1) S.1 S.2.1 dL_law_454 rfl ?_
  refine lv_iadd S.1 S.2.1 dL_law_455 ?_
  refine va_sld S.1 S.2.1 hX hbl hbA hW.2.2.2.1 hi1 dL_law_456 ?_
  refine lv_aload_n S.1 S.2.1 dL_law_457 rfl (lv_at hl 0 rfl) ?_
  refine lv_iload_n S.1 S.2.1 dL_law_458 rfl (lv_at hl 3 rfl) ?_
  refine lv_iconst (v := 2) S.1 S.2.1 dL_law_459 rfl ?_
  refine lv_iadd S.1 S.2.1 dL_law_460 ?_
  refine va_sld S.1 S.2.1 hX hbl hbA hW.2.2.2.1 hi2 dL_law_461 ?_
  refine lv_if_eq (tgt := 469) S.1 S.2.1 dL_law_462 (by decide) (fun c0 => ?_) (fun c0 => ?_)
  · skip
    refine lv_iconst (v := 0) S.1 S.2.1 dL_law_469 rfl ?_
    have h := hk_up M N hR (xs (iv + (1 : Int32)).toNatClampNeg) (0 : Int32) (by decide)
    refine r_goI2 (r_runV (rest := []) S hW (mX6_up l D T σ M (xs (iv + (1 : Int32)).toNatClampNeg) (0 : Int32) _ h) (cwV (R := room_1) (rm := rmX6_up) (mc := 0) (ms := 0) 2 S.2.2.2.2 gL_law_X6_up rfl rfl rfl (by decide +kernel) ⟨Nat.le_of_ble_eq_true rfl, Nat.le_of_ble_eq_true rfl⟩) rfl LH_0 rfl hl.1 rfl (Nat.le_of_ble_eq_true rfl) dL_law_470 ⟨Nat.le_of_ble_eq_true rfl, Nat.le_of_ble_eq_true rfl⟩) hW (fun r M H locs h hW hfr => ?_)
    have hV := keepW hV hW hfr hdis
    refine lv_aload_n S.1 S.2.1 dL_law_473 rfl (lv_at hl 2 rfl) ?_
    refine lv_aload_n S.1 S.2.1 dL_law_474 rfl (lv_at hl 0 rfl) ?_
    refine lv_iload_n S.1 S.2.1 dL_law_475 rfl (lv_at hl 3 rfl) ?_
    refine lv_iconst (v := 1) S.1 S.2.1 dL_law_476 rfl ?_
    refine lv_iadd S.1 S.2.1 dL_law_477 ?_
    refine va_sld S.1 S.2.1 hX hbl hbA hW.2.2.2.1 hi1 dL_law_478 ?_
    refine lv_aload_n S.1 S.2.1 dL_law_479 rfl (lv_at hl 0 rfl) ?_
    refine lv_iload_n S.1 S.2.1 dL_law_480 rfl (lv_at hl 3 rfl) ?_
    refine lv_iconst (v := 2) S.1 S.2.1 dL_law_481 rfl ?_
    refine lv_iadd S.1 S.2.1 dL_law_482 ?_
    refine va_sld S.1 S.2.1 hX hbl hbA hW.2.2.2.1 hi2 dL_law_483 ?_
    refine lv_if_eq (tgt := 491) S.1 S.2.1 dL_law_484 (by decide) (fun c => ?_) (fun c => ?_)
    · skip
      refine lv_iconst (v := 0) S.1 S.2.1 dL_law_491 rfl ?_
      refine r_goI2 (r_runV (rest := [.int r]) S hV (mX7_up l D T τ N (xs (iv + (1 : Int32)).toNatClampNeg) (0 : Int32) _ h) (cwV (R := room_1) (rm := rmX7_up) (mc := 0) (ms := 0) 2 S.2.2.2.2 gL_law_X7_up rfl rfl rfl (by decide +kernel) ⟨Nat.le_of_ble_eq_true rfl, Nat.le_of_ble_eq_true rfl⟩) rfl LM_0 rfl hl.1 rfl (Nat.le_of_ble_eq_true rfl) dL_law_492 ⟨Nat.le_of_ble_eq_true rfl, Nat.le_of_ble_eq_true rfl⟩) hV (fun r2 N H locs h hV hfr => ?_)
      have hW := keepW hW hV hfr (fun i hi j hj e => hdis j hj i hi e.symm)
      refine lv_icmp_eq (tgt := 1170) S.1 S.2.1 dL_law_495 (by decide) (fun c => ?_) (fun c => absurd h.1 c)
      exact hend _ _ h.2 _ _ _ hW hV hl
    · exact absurd c0 c
  · skip
    refine lv_iconst (v := 1) S.1 S.2.1 dL_law_465 rfl ?_
    refine lv_goto (tgt := 470) S.1 S.2.1 dL_law_466 (by decide) ?_
    have h := hk_up M N hR (xs (iv + (1 : Int32)).toNatClampNeg) (1 : Int32) (by decide)
    refine r_goI2 (r_runV (rest := []) S hW (mX6_up l D T σ M (xs (iv + (1 : Int32)).toNatClampNeg) (1 : Int32) _ h) (cwV (R := room_1) (rm := rmX6_up) (mc := 0) (ms := 0) 2 S.2.2.2.2 gL_law_X6_up rfl rfl rfl (by decide +kernel) ⟨Nat.le_of_ble_eq_true rfl, Nat.le_of_ble_eq_true rfl⟩) rfl LH_0 rfl hl.1 rfl (Nat.le_of_ble_eq_true rfl) dL_law_470 ⟨Nat.le_of_ble_eq_true rfl, Nat.le_of_ble_eq_true rfl⟩) hW (fun r M H locs h hW hfr => ?_)
    have hV := keepW hV hW hfr hdis
    refine lv_aload_n S.1 S.2.1 dL_law_473 rfl (lv_at hl 2 rfl) ?_
    refine lv_aload_n S.1 S.2.1 dL_law_474 rfl (lv_at hl 0 rfl) ?_
    refine lv_iload_n S.1 S.2.1 dL_law_475 rfl (lv_at hl 3 rfl) ?_
    refine lv_iconst (v := 1) S.1 S.2.1 dL_law_476 rfl ?_
    refine lv_iadd S.1 S.2.1 dL_law_477 ?_
    refine va_sld S.1 S.2.1 hX hbl hbA hW.2.2.2.1 hi1 dL_law_478 ?_
    refine lv_aload_n S.1 S.2.1 dL_law_479 rfl (lv_at hl 0 rfl) ?_
    refine lv_iload_n S.1 S.2.1 dL_law_480 rfl (lv_at hl 3 rfl) ?_
    refine lv_iconst (v := 2) S.1 S.2.1 dL_law_481 rfl ?_
    refine lv_iadd S.1 S.2.1 dL_law_482 ?_
    refine va_sld S.1 S.2.1 hX hbl hbA hW.2.2.2.1 hi2 dL_law_483 ?_
    refine lv_if_eq (tgt := 491) S.1 S.2.1 dL_law_484 (by decide) (fun c => ?_) (fun c => ?_)
    · exact absurd c c0
    · skip
      refine lv_iconst (v := 1) S.1 S.2.1 dL_law_487 rfl ?_
      refine lv_goto (tgt := 492) S.1 S.2.1 dL_law_488 (by decide) ?_
      refine r_goI2 (r_runV (rest := [.int r]) S hV (mX7_up l D T τ N (xs (iv + (1 : Int32)).toNatClampNeg) (1 : Int32) _ h) (cwV (R := room_1) (rm := rmX7_up) (mc := 0) (ms := 0) 2 S.2.2.2.2 gL_law_X7_up rfl rfl rfl (by decide +kernel) ⟨Nat.le_of_ble_eq_true rfl, Nat.le_of_ble_eq_true rfl⟩) rfl LM_0 rfl hl.1 rfl (Nat.le_of_ble_eq_true rfl) dL_law_492 ⟨Nat.le_of_ble_eq_true rfl, Nat.le_of_ble_eq_true rfl⟩) hV (fun r2 N H locs h hV hfr => ?_)
      have hW := keepW hW hV hfr (fun i hi j hj e => hdis j hj i hi e.symm)
      refine lv_icmp_eq (tgt := 1170) S.1 S.2.1 dL_law_495 (by decide) (fun c => ?_) (fun c => absurd h.1 c)
      exact hend _ _ h.2 _ _ _ hW hV hl

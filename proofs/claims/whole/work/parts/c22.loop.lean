set_option maxHeartbeats 4000000 in
set_option maxRecDepth 100000 in
theorem law_loop (Rel : Mem → Mem → Prop) {p : Program} {e : Env} {s : State} {m : MethodId} {below : List Frame} {meth : Method} {c : Code} (l : Launch) {b L : Nat} {xs : Nat → Int32} (D : va_G) (T : Nat → ClassId) (σ τ : Nat → Nat) (hdis : ∀ i, i < LH.length → ∀ j, j < LM.length → σ i ≠ τ j) (S : CallFix p m c cL_law 4 s #[Value.ref b] wsL_law RL) (hX : va_X b L xs s s.heap) (hbl : b < s.heap.size)
    (hk_status : ∀ (M N : Mem), Rel M N →  qX6_status M (fun r M => qX7_status N (fun r2 N => r = r2 ∧ Rel M N)))
    (hk_sheet : ∀ (M N : Mem), Rel M N → ∀ (a0 : Int32) (a1 : Int32) (a2 : Int32),  qX6_sheet a0 a1 a2 M (fun r M => qX7_sheet a0 a1 a2 N (fun r2 N => r = r2 ∧ Rel M N)))
    (hk_write : ∀ (M N : Mem), Rel M N → ∀ (a0 : Int32) (a1 : Int32) (a2 : Int64),  qX6_write a0 a1 a2 M (fun r M => qX7_write a0 a1 a2 N (fun r2 N => r = r2 ∧ Rel M N)))
    (hk_read : ∀ (M N : Mem), Rel M N → ∀ (a0 : Int32) (a1 : Int32),  qX6_read a0 a1 M (fun r M => qX7_read a0 a1 N (fun r2 N => r = r2 ∧ Rel M N)))
    (hk_drop : ∀ (M N : Mem), Rel M N → ∀ (a0 : Int32),  qX6_drop a0 M (fun r M => qX7_drop a0 N (fun r2 N => r = r2 ∧ Rel M N)))
    (hk_copy : ∀ (M N : Mem), Rel M N → ∀ (a0 : Int32) (a1 : Int32) (a2 : Int32) (a3 : Int32) (a4 : Int32),  qX6_copy a0 a1 a2 a3 a4 M (fun r M => qX7_copy a0 a1 a2 a3 a4 N (fun r2 N => r = r2 ∧ Rel M N)))
    (hk_none : ∀ (M N : Mem), Rel M N →  qX6_none M (fun r M => qX7_none N (fun r2 N => r = r2 ∧ Rel M N)))
    (hk_machine : ∀ (M N : Mem), Rel M N → ∀ (a0 : Int32) (a1 : Int32),  qX6_machine a0 a1 M (fun r M => qX7_machine a0 a1 N (fun r2 N => r = r2 ∧ Rel M N)))
    (hk_up : ∀ (M N : Mem), Rel M N → ∀ (a0 : Int32) (a1 : Int32), (a1 = 0 ∨ a1 = 1) →  qX6_up a0 a1 M (fun r M => qX7_up a0 a1 N (fun r2 N => r = r2 ∧ Rel M N)))
    (hk_ask : ∀ (M N : Mem), Rel M N → ∀ (a0 : Int32) (a1 : Int32) (a2 : Int32),  qX6_ask a0 a1 a2 M (fun r M => qX7_ask a0 a1 a2 N (fun r2 N => r = r2 ∧ Rel M N)))
    (hk_apart : ∀ (M N : Mem), Rel M N → ∀ (a0 : Int32) (a1 : Int32) (a2 : Int32), (a2 = 0 ∨ a2 = 1) →  qX6_apart a0 a1 a2 M (fun r M => qX7_apart a0 a1 a2 N (fun r2 N => r = r2 ∧ Rel M N)))
    (hk_count : ∀ (M N : Mem), Rel M N → ∀ (a0 : Int32),  qX6_count a0 M (fun r M => qX7_count a0 N (fun r2 N => r = r2 ∧ Rel M N)))
    (hk_fits : ∀ (M N : Mem), Rel M N → ∀ (a0 : Int32) (a1 : Int32),  qX6_fits a0 a1 M (fun r M => qX7_fits a0 a1 N (fun r2 N => r = r2 ∧ Rel M N)))
    (hk_on : ∀ (M N : Mem), Rel M N → ∀ (a0 : Int32) (a1 : Int32) (a2 : Int32),  qX6_on a0 a1 a2 M (fun r M => qX7_on a0 a1 a2 N (fun r2 N => r = r2 ∧ Rel M N)))
    (hk_lack : ∀ (M N : Mem), Rel M N → ∀ (a0 : Int32) (a1 : Int32),  qX6_lack a0 a1 M (fun r M => qX7_lack a0 a1 N (fun r2 N => r = r2 ∧ Rel M N)))
    (hk_left : ∀ (M N : Mem), Rel M N → ∀ (a0 : Int32) (a1 : Int32),  qX6_left a0 a1 M (fun r M => qX7_left a0 a1 N (fun r2 N => r = r2 ∧ Rel M N)))
    (hk_enough : ∀ (M N : Mem), Rel M N → ∀ (a0 : Int32),  qX6_enough a0 M (fun r M => qX7_enough a0 N (fun r2 N => r = r2 ∧ Rel M N)))
    (hk_batch : ∀ (M N : Mem), Rel M N → ∀ (a0 : Int32) (a1 : Int32) (a2 : Int32) (a3 : Int32),  qX6_batch a0 a1 a2 a3 M (fun r M => qX7_batch a0 a1 a2 a3 N (fun r2 N => r = r2 ∧ Rel M N)))
    (hk_rest : ∀ (M N : Mem), Rel M N → ∀ (a0 : Int32),  qX6_rest a0 M (fun r M => qX7_rest a0 N (fun r2 N => r = r2 ∧ Rel M N)))
    (hk_part : ∀ (M N : Mem), Rel M N → ∀ (a0 : Int32) (a1 : Int32) (a2 : Int32),  qX6_part a0 a1 a2 M (fun r M => qX7_part a0 a1 a2 N (fun r2 N => r = r2 ∧ Rel M N)))
    (hk_line : ∀ (M N : Mem), Rel M N → ∀ (a0 : Int32) (a1 : Int32) (a2 : Int32) (a3 : Int32) (a4 : Int32),  qX6_line a0 a1 a2 a3 a4 M (fun r M => qX7_line a0 a1 a2 a3 a4 N (fun r2 N => r = r2 ∧ Rel M N)))
    (hk_hands : ∀ (M N : Mem), Rel M N → ∀ (a0 : Int32) (a1 : Int32) (a2 : Int32) (a3 : Int32),  qX6_hands a0 a1 a2 a3 M (fun r M => qX7_hands a0 a1 a2 a3 N (fun r2 N => r = r2 ∧ Rel M N)))
    (hk_wanted : ∀ (M N : Mem), Rel M N → ∀ (a0 : Int32),  qX6_wanted a0 M (fun r M => qX7_wanted a0 N (fun r2 N => r = r2 ∧ Rel M N)))
    (hk_have : ∀ (M N : Mem), Rel M N → ∀ (a0 : Int32),  qX6_have a0 M (fun r M => qX7_have a0 N (fun r2 N => r = r2 ∧ Rel M N)))
    (hk_type : ∀ (M N : Mem), Rel M N → ∀ (a0 : Int32) (a1 : Int32) (a2 : Int32) (a3 : Int32),  qX6_type a0 a1 a2 a3 M (fun r M => qX7_type a0 a1 a2 a3 N (fun r2 N => r = r2 ∧ Rel M N)))
    (hk_cheapest : ∀ (M N : Mem), Rel M N →  qX6_cheapest M (fun r M => qX7_cheapest N (fun r2 N => r = r2 ∧ Rel M N)))
    (hk_buys : ∀ (M N : Mem), Rel M N → ∀ (a0 : Int32) (a1 : Int32),  qX6_buys a0 a1 M (fun r M => qX7_buys a0 a1 N (fun r2 N => r = r2 ∧ Rel M N)))
    (hr : meth.sig.returnType = ret) (hlk : meth.locks = false) (hL : L ≤ 3072) : ∀ (n i : Nat), i ≤ L + 6 → L + 6 - i < n → ∀ (M N : Mem), Rel M N → ∀ (H : Heap) (locs : List Loc) (ls : Array Slot), Wd D T LH σ M (fun q : Nat => s.heap.size ≤ q) s s.heap H locs → Wd D T LM τ N (fun q : Nat => s.heap.size ≤ q) s s.heap H locs → lv_has ls 4 [(0, .ref b), (1, .ref (σ 0)), (2, .ref (τ 0)), (3, .int (nI i))] → W p l e room_1 s m #[Value.ref b] below meth c H locs 132 48197 (lw_Z below #[Value.ref b] s) (F0 m 18 ls []) := by
  have hbA : ¬ (fun q : Nat => s.heap.size ≤ q) b := Nat.not_le.mpr hbl
  intro n
  induction n with
  | zero => intro i _ h; omega
  | succ n ih =>
    intro i hi6 hn M N hR H locs ls hW hV hl
    refine lv_iload_n S.1 S.2.1 dL_law_18 rfl (lv_at hl 3 rfl) ?_
    refine lv_aload_n S.1 S.2.1 dL_law_19 rfl (lv_at hl 0 rfl) ?_
    refine va_slen S.1 S.2.1 hX hbl hbA hW.2.2.2.1 dL_law_20 ?_
    refine lv_bipush (v := 6) S.1 S.2.1 dL_law_21 rfl ?_
    refine lv_isub S.1 S.2.1 dL_law_23 ?_
    refine lv_icmp_gt (tgt := 1176) S.1 S.2.1 dL_law_24 (by decide) (fun c1 => ?_) (fun c1 => ?_)
    · refine lv_iconst (v := 1) S.1 S.2.1 dL_law_1176 rfl ?_
      refine W.widen (k := 600000) (n := 7302250) (Nat.le_of_ble_eq_true rfl) (Nat.le_of_ble_eq_true rfl) ?_
      refine va_forget (fun q hq => hW.2.2.2.1.2.2 q hq) ?_
      exact lw_ret S.1 S.2.1 hr hlk dL_law_1177
    · have hle : i + 6 ≤ L := by
        have h1 : (nI L - nI 6).toInt = (L : Int) - 6 := pk_sub_toInt (a := L) (b := 6) (by omega) (by omega)
        have h2 : ¬ (nI L - nI 6) < nI i := c1
        rw [Int32.lt_iff_toInt_lt, h1, nI_toInt (by omega)] at h2
        omega
      have hin : ∀ k : Nat, k < 6 → vp_in (nI i + nI k) L := fun k hk => by
        rw [nI_add]
        exact vp_in_nI (by omega) (by omega)
      have h0 : vp_in (nI i) L := vp_in_nI (by omega) (by omega)
      have hi1 : vp_in (nI i + 1) L := hin 1 (by omega)
      have hi2 : vp_in (nI i + 2) L := hin 2 (by omega)
      have hi3 : vp_in (nI i + 3) L := hin 3 (by omega)
      have hi4 : vp_in (nI i + 4) L := hin 4 (by omega)
      have hi5 : vp_in (nI i + 5) L := hin 5 (by omega)
      have hend : ∀ (M N : Mem), Rel M N → ∀ (H : Heap) (locs : List Loc) (ls : Array Slot), Wd D T LH σ M (fun q : Nat => s.heap.size ≤ q) s s.heap H locs → Wd D T LM τ N (fun q : Nat => s.heap.size ≤ q) s s.heap H locs → lv_has ls 4 [(0, .ref b), (1, .ref (σ 0)), (2, .ref (τ 0)), (3, .int (nI i))] → W p l e room_1 s m #[Value.ref b] below meth c H locs 132 48197 (lw_Z below #[Value.ref b] s) (F0 m 1170 ls []) := by
        intro M N hR H locs ls hW hV hl
        refine lv_iinc (v := nI (i + 6)) (lv' := [(3, .int (nI (i + 6))), (0, .ref b), (1, .ref (σ 0)), (2, .ref (τ 0))]) S.1 S.2.1 dL_law_1170 hl (k := 3) rfl (by rw [← nI_add]; rfl) (by decide) rfl (fun ls hl => ?_)
        refine lv_goto (tgt := 18) S.1 S.2.1 dL_law_1173 (by decide) ?_
        exact ih (i + 6) (by omega) (by omega) M N hR H locs ls hW hV (lv_sub hl [1, 2, 3, 0] rfl)
      refine lv_aload_n S.1 S.2.1 dL_law_27 rfl (lv_at hl 0 rfl) ?_
      refine lv_iload_n S.1 S.2.1 dL_law_28 rfl (lv_at hl 3 rfl) ?_
      refine va_sld S.1 S.2.1 hX hbl hbA hW.2.2.2.1 h0 dL_law_29 ?_
      refine lv_bipush (v := 31) S.1 S.2.1 dL_law_30 rfl ?_
      refine lv_iand S.1 S.2.1 dL_law_32 ?_
      refine r_ts S dL_law_33 (by decide) (fun k off ho hx => ?_) (by decide) (by decide) (fun hx => ?_)
      · match k, ho with
        | 0, ho =>
          cases ho
          exact lc_status Rel l D T σ τ hdis S hX hbl hk_status hi1 hi2 hi3 hi4 hi5 hR hW hV hl hend
        | 1, ho =>
          cases ho
          exact lc_sheet Rel l D T σ τ hdis S hX hbl hk_sheet hi1 hi2 hi3 hi4 hi5 hR hW hV hl hend
        | 2, ho =>
          cases ho
          exact lc_write Rel l D T σ τ hdis S hX hbl hk_write hi1 hi2 hi3 hi4 hi5 hR hW hV hl hend
        | 3, ho =>
          cases ho
          exact lc_read Rel l D T σ τ hdis S hX hbl hk_read hi1 hi2 hi3 hi4 hi5 hR hW hV hl hend
        | 4, ho =>
          cases ho
          exact lc_drop Rel l D T σ τ hdis S hX hbl hk_drop hi1 hi2 hi3 hi4 hi5 hR hW hV hl hend
        | 5, ho =>
          cases ho
          exact lc_copy Rel l D T σ τ hdis S hX hbl hk_copy hi1 hi2 hi3 hi4 hi5 hR hW hV hl hend
        | 6, ho =>
          cases ho
          exact lc_none Rel l D T σ τ hdis S hX hbl hk_none hi1 hi2 hi3 hi4 hi5 hR hW hV hl hend
        | 7, ho =>
          cases ho
          exact lc_machine Rel l D T σ τ hdis S hX hbl hk_machine hi1 hi2 hi3 hi4 hi5 hR hW hV hl hend
        | 8, ho =>
          cases ho
          exact lc_up Rel l D T σ τ hdis S hX hbl hk_up hi1 hi2 hi3 hi4 hi5 hR hW hV hl hend
        | 9, ho =>
          cases ho
          exact lc_ask Rel l D T σ τ hdis S hX hbl hk_ask hi1 hi2 hi3 hi4 hi5 hR hW hV hl hend
        | 10, ho =>
          cases ho
          exact lc_apart Rel l D T σ τ hdis S hX hbl hk_apart hi1 hi2 hi3 hi4 hi5 hR hW hV hl hend
        | 11, ho =>
          cases ho
          exact lc_count Rel l D T σ τ hdis S hX hbl hk_count hi1 hi2 hi3 hi4 hi5 hR hW hV hl hend
        | 12, ho =>
          cases ho
          exact lc_fits Rel l D T σ τ hdis S hX hbl hk_fits hi1 hi2 hi3 hi4 hi5 hR hW hV hl hend
        | 13, ho =>
          cases ho
          exact lc_on Rel l D T σ τ hdis S hX hbl hk_on hi1 hi2 hi3 hi4 hi5 hR hW hV hl hend
        | 14, ho =>
          cases ho
          exact lc_lack Rel l D T σ τ hdis S hX hbl hk_lack hi1 hi2 hi3 hi4 hi5 hR hW hV hl hend
        | 15, ho =>
          cases ho
          exact lc_left Rel l D T σ τ hdis S hX hbl hk_left hi1 hi2 hi3 hi4 hi5 hR hW hV hl hend
        | 16, ho =>
          cases ho
          exact lc_enough Rel l D T σ τ hdis S hX hbl hk_enough hi1 hi2 hi3 hi4 hi5 hR hW hV hl hend
        | 17, ho =>
          cases ho
          exact lc_batch Rel l D T σ τ hdis S hX hbl hk_batch hi1 hi2 hi3 hi4 hi5 hR hW hV hl hend
        | 18, ho =>
          cases ho
          exact lc_rest Rel l D T σ τ hdis S hX hbl hk_rest hi1 hi2 hi3 hi4 hi5 hR hW hV hl hend
        | 19, ho =>
          cases ho
          exact lc_part Rel l D T σ τ hdis S hX hbl hk_part hi1 hi2 hi3 hi4 hi5 hR hW hV hl hend
        | 20, ho =>
          cases ho
          exact lc_line Rel l D T σ τ hdis S hX hbl hk_line hi1 hi2 hi3 hi4 hi5 hR hW hV hl hend
        | 21, ho =>
          cases ho
          exact lc_hands Rel l D T σ τ hdis S hX hbl hk_hands hi1 hi2 hi3 hi4 hi5 hR hW hV hl hend
        | 22, ho =>
          cases ho
          exact lc_wanted Rel l D T σ τ hdis S hX hbl hk_wanted hi1 hi2 hi3 hi4 hi5 hR hW hV hl hend
        | 23, ho =>
          cases ho
          exact lc_have Rel l D T σ τ hdis S hX hbl hk_have hi1 hi2 hi3 hi4 hi5 hR hW hV hl hend
        | 24, ho =>
          cases ho
          exact lc_type Rel l D T σ τ hdis S hX hbl hk_type hi1 hi2 hi3 hi4 hi5 hR hW hV hl hend
        | 25, ho =>
          cases ho
          exact lc_cheapest Rel l D T σ τ hdis S hX hbl hk_cheapest hi1 hi2 hi3 hi4 hi5 hR hW hV hl hend
        | 26, ho =>
          cases ho
          exact lc_buys Rel l D T σ τ hdis S hX hbl hk_buys hi1 hi2 hi3 hi4 hi5 hR hW hV hl hend
        | k + 27, ho => simp at ho
      · exact hend M N hR H locs ls hW hV hl

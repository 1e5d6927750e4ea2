-- ===== YOUR PART BEGINS =====
set_option maxHeartbeats 4000000 in
set_option maxRecDepth 100000 in
theorem whole_start {p : Program} {e : Env} {s : State} {m : MethodId} {below : List Frame} {meth : Method} {c : Code} (l : Launch) (hflags : l.flags = flags0) {b L : Nat} {xs : Nat → Int32} (hL : L ≤ 3072) (C0 : lw_At p s m meth c b L xs) : W p l e room_1 s m #[Value.ref b] below meth c s.heap [] 0 0 (lw_Z below #[Value.ref b] s) (entryFrame m ([Value.ref b] : List Value).toArray 4) := by
  obtain ⟨S, hN, hO, D, T, hK⟩ := start_K C0
  obtain ⟨hx, hb, hr, hml, hown, hts, hX, hbl, hlocks, hgv⟩ := id C0
  have hA : ∀ q : Nat, s.heap.size ≤ q → (fun q : Nat => s.heap.size ≤ q) q := fun _ h => h
  have hP : va_P D vwCl [] s.heap := fun k q h => by simp at h
  have hD : va_D (fun q : Nat => s.heap.size ≤ q) [] := ⟨fun i j p q h => by simp at h, fun k q h => by simp at h⟩
  have hS : va_S (fun q : Nat => s.heap.size ≤ q) s.heap s.heap [] := va_S.rf
  have hl := lv_entry ([.ref b]) (n := 4) (Nat.le_of_ble_eq_true rfl)
  rw [lg_entry_eq]
  generalize (lg_sl ([.ref b]) ++ List.replicate (4 - (lg_sl ([.ref b])).length) Slot.unset).toArray = ls at hl ⊢
  have hl : lv_has ls 4 [(0, .ref b)] := hl
  refine va_new (ci := 6) (fs := [.null, .null, .null, .null, .null, .int 0]) (C := RX6) (T := TX6) (N := 6) S.1 S.2.1 S.2.2.2.2 inlX6 tyX6 tyX6_ok S.2.2.2.1 (S.2.2.2.2 (.classLink RL 7 RX6) (by decide +kernel)) (S.2.2.2.2 (.instantiable RX6 6) (by decide +kernel)) (S.2.2.2.2 (.initialized RX6) (by decide +kernel)) hK hP hD hS hA rfl (fun j hj => by rcases (show j = 0 ∨ j = 1 ∨ j = 2 ∨ j = 3 ∨ j = 4 ∨ j = 5 by omega) with rfl | rfl | rfl | rfl | rfl | rfl <;> rfl) (Nat.le_of_ble_eq_true rfl) (Nat.le_of_ble_eq_true rfl) dL_law_0 (fun p6 H hP hD hS => ?_)
  refine lv_dup S.1 S.2.1 dL_law_3 rfl ?_
  refine n_callI (w0 := []) (rest := [.ref p6]) S hK hN hO hP hD hS hA (iX6 l D T p6 _) (cwI 0 S.2.2.2.2 gL_law_X6_init rfl rfl rfl (S.2.2.2.2 (.initialized RX6) (by decide +kernel)) (S.2.2.2.2 (.methodLink RL 9 yX6_init) (by decide +kernel)) (S.2.2.2.2 (.instanceMethod yX6_init) (by decide +kernel)) rfl (by decide +kernel) ⟨Nat.le_of_ble_eq_true rfl, Nat.le_of_ble_eq_true rfl⟩) rfl hl.1 rfl (Nat.le_of_ble_eq_true rfl) dL_law_4 ⟨Nat.le_of_ble_eq_true rfl, Nat.le_of_ble_eq_true rfl⟩ (fun σ H locs eσ hP9 hD9 hS9 => ?_)
  have eσ : σ 0 = p6 := eσ
  subst eσ
  refine lv_astore_n (lv' := [(1, .ref (σ 0)), (0, .ref b)]) S.1 S.2.1 dL_law_7 rfl hl (by decide) rfl (fun ls hl => ?_)
  have hP : va_P D vwCl (wd T LH σ MX6) H := hP9
  have hD : va_D (fun q : Nat => s.heap.size ≤ q) (wd T LH σ MX6) := hD9
  have hS := hS9
  refine va_new (ci := 7) (fs := [.int 0, .null, .null, .null, .int 0, .int 0, .int 0, .int 0, .null, .null, .null, .null, .null, .null, .null, .null, .null, .null, .null, .null, .null, .null, .null, .null, .null, .null, .null, .null, .null, .null, .int 0, .int 0, .int 0, .int 0, .int 0, .null, .null, .null, .null, .null, .int 0, .null]) (C := RX7) (T := TX7) (N := 42) S.1 S.2.1 S.2.2.2.2 inlX7 tyX7 tyX7_ok S.2.2.2.1 (S.2.2.2.2 (.classLink RL 10 RX7) (by decide +kernel)) (S.2.2.2.2 (.instantiable RX7 42) (by decide +kernel)) (S.2.2.2.2 (.initialized RX7) (by decide +kernel)) hK hP hD hS hA rfl (fun j hj => by rcases (show j = 0 ∨ j = 1 ∨ j = 2 ∨ j = 3 ∨ j = 4 ∨ j = 5 ∨ j = 6 ∨ j = 7 ∨ j = 8 ∨ j = 9 ∨ j = 10 ∨ j = 11 ∨ j = 12 ∨ j = 13 ∨ j = 14 ∨ j = 15 ∨ j = 16 ∨ j = 17 ∨ j = 18 ∨ j = 19 ∨ j = 20 ∨ j = 21 ∨ j = 22 ∨ j = 23 ∨ j = 24 ∨ j = 25 ∨ j = 26 ∨ j = 27 ∨ j = 28 ∨ j = 29 ∨ j = 30 ∨ j = 31 ∨ j = 32 ∨ j = 33 ∨ j = 34 ∨ j = 35 ∨ j = 36 ∨ j = 37 ∨ j = 38 ∨ j = 39 ∨ j = 40 ∨ j = 41 by omega) with rfl | rfl | rfl | rfl | rfl | rfl | rfl | rfl | rfl | rfl | rfl | rfl | rfl | rfl | rfl | rfl | rfl | rfl | rfl | rfl | rfl | rfl | rfl | rfl | rfl | rfl | rfl | rfl | rfl | rfl | rfl | rfl | rfl | rfl | rfl | rfl | rfl | rfl | rfl | rfl | rfl | rfl <;> rfl) (Nat.le_of_ble_eq_true rfl) (Nat.le_of_ble_eq_true rfl) dL_law_8 (fun p7 H hP hD hS => ?_)
  refine lv_dup S.1 S.2.1 dL_law_11 rfl ?_
  refine n_callI (w0 := wd T LH σ MX6) (rest := [.ref p7]) S hK hN hO hP hD hS hA (iX7 l D T p7 _) (cwI 0 S.2.2.2.2 gL_law_X7_init rfl rfl rfl (S.2.2.2.2 (.initialized RX7) (by decide +kernel)) (S.2.2.2.2 (.methodLink RL 12 yX7_init) (by decide +kernel)) (S.2.2.2.2 (.instanceMethod yX7_init) (by decide +kernel)) rfl (by decide +kernel) ⟨Nat.le_of_ble_eq_true rfl, Nat.le_of_ble_eq_true rfl⟩) rfl hl.1 rfl (Nat.le_of_ble_eq_true rfl) dL_law_12 ⟨Nat.le_of_ble_eq_true rfl, Nat.le_of_ble_eq_true rfl⟩ (fun τ H locs eτ hP9 hD9 hS9 => ?_)
  have eτ : τ 0 = p7 := eτ
  subst eτ
  have hP : va_P D vwCl (wd T LH σ MX6 ++ wd T LM τ MX7) H := hP9
  have hD : va_D (fun q : Nat => s.heap.size ≤ q) (wd T LH σ MX6 ++ wd T LM τ MX7) := hD9
  have hS := hS9
  refine lv_astore_n (lv' := [(2, .ref (τ 0)), (1, .ref (σ 0)), (0, .ref b)]) S.1 S.2.1 dL_law_15 rfl hl (by decide) rfl (fun ls hl => ?_)
  refine lv_iconst (v := 0) S.1 S.2.1 dL_law_16 rfl ?_
  refine lv_istore_n (lv' := [(3, .int 0), (2, .ref (τ 0)), (1, .ref (σ 0)), (0, .ref b)]) S.1 S.2.1 dL_law_17 rfl hl (by decide) rfl (fun ls hl => ?_)
  have hl : lv_has ls 4 [(0, .ref b), (1, .ref (σ 0)), (2, .ref (τ 0)), (3, .int (nI 0))] := lv_sub hl [3, 2, 1, 0] rfl
  exact law_loop Rel l D T σ τ (in_dis hD) S hX hbl hk_status hk_sheet hk_write hk_read hk_drop hk_copy hk_none hk_machine hk_up hk_ask hk_apart hk_count hk_fits hk_on hk_lack hk_left hk_enough hk_batch hk_rest hk_part hk_line hk_hands hk_wanted hk_have hk_type hk_cheapest hk_buys hr hlocks hL (L + 7) 0 (Nat.zero_le _) (by omega) MX6 MX7 Rel0 H locs ls ⟨hK, in_app hP, in_appD hD, hS, hN⟩ ⟨hK, n_sub hP, n_subD hD, hS, hN⟩ hl

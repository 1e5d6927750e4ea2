/-! A MACHINE GOES UP OR DOWN; A BATCH COMES -/
theorem is_no {v : Int32} {N : Mem} {post : Int32 → Mem → Prop} (hv : ¬ v = 0) (h : post 0 (sA N 0 0 v)) : qX7_is v N (fun r M => zb r ∧ post r M) := by
  rintro _ rfl
  exact ⟨fun _ => ⟨rfl, h⟩, fun e => absurd e hv⟩
theorem is_yes {N : Mem} {post : Int32 → Mem → Prop} (h : post 1 (sA N 0 0 0)) : qX7_is 0 N (fun r M => zb r ∧ post r M) := by
  rintro _ rfl
  exact ⟨fun e => absurd rfl e, fun _ => ⟨rfl, h⟩⟩
theorem r_up {a b : Int32} (hb : b = 0 ∨ b = 1) {N : Mem} {n : Nat} {post : Int32 → Mem → Prop} (hn : N.1 0 4 = nI n) (h12 : n ≤ 12) (h0 : (a.toInt < 0 ∨ (n : Int) ≤ a.toInt) → post 0 (sA N 0 0 1)) (h1 : ∀ k, k < n → a = nI k → N.1 6 k = b → post 0 (sA N 0 0 5)) (h2 : ∀ k, k < n → a = nI k → ¬ N.1 6 k = b → post 1 (sA (sA N 6 k b) 0 0 0)) : qX7_up a b N post := by
  unfold qX7_up
  rw [hn, Int32.lt_iff_toInt_lt, Int32.lt_iff_toInt_lt, nI_toInt (by omega), show (0 : Int32).toInt = 0 from rfl]
  refine ⟨fun h => is_no (by decide) (h0 (Or.inl h)), fun p => ⟨fun q => ?_, fun q => is_no (by decide) (h0 (Or.inr (by omega)))⟩⟩
  obtain ⟨k, hk, _, e⟩ := nat_of (a := a) (n := n - 1) (by omega) (by omega)
  subst e
  rw [nI_toInt (by omega)] at q
  rw [nI_clamp (by omega)]
  refine ⟨vp_in_nI (by omega) (by omega), fun h => ⟨vp_in_nI (by omega) (by omega), ?_⟩, fun h => is_no (by decide) (h1 k (by omega) rfl h)⟩
  rintro _ rfl
  have e : vp_nar .boolean b = b := by
    rcases hb with e | e <;> subst e <;> rfl
  rw [e]
  exact is_yes (h2 k (by omega) rfl h)
def xuA (A : Abs) (k : Nat) : Abs := sR A 3 k (1 - A 3 k)
theorem xuA_up {A : Abs} {k : Nat} (hk : k < A 0 0) (h1 : A 3 k ≤ 1) : upA (xuA A k) = upA A ^^^ 2 ^ k := by
  apply Nat.eq_of_testBit_eq
  intro i
  show (mk (fun j => decide (xuA A k 3 j = 1)) (A 0 0)).testBit i = _
  unfold upA
  rw [Nat.testBit_xor, mk_bit, mk_bit, Nat.testBit_two_pow]
  by_cases e : i = k
  · subst e
    have e1 : xuA A i 3 i = 1 - A 3 i := sR_t
    rw [e1]
    rcases Nat.lt_or_ge (A 3 i) 1 with h | h
    · have h0 : A 3 i = 0 := by omega
      rw [h0]
      simp [hk]
    · have h0 : A 3 i = 1 := by omega
      rw [h0]
      simp [hk]
  · have e1 : xuA A k 3 i = A 3 i := sR_o 3 i (by omega)
    rw [e1]
    have e2 : ¬ k = i := fun h => e h.symm
    simp [e2]
theorem nI_01 {n : Nat} (h : n ≤ 1) {b : Int32} (hb : b = 0 ∨ b = 1) (hne : ¬ nI n = b) : b = nI (1 - n) := by
  rcases Nat.lt_or_ge n 1 with h1 | h1
  · have e : n = 0 := by omega
    subst e
    rcases hb with e | e
    · subst e; exact absurd rfl hne
    · subst e; rfl
  · have e : n = 1 := by omega
    subst e
    rcases hb with e | e
    · subst e; rfl
    · subst e; exact absurd rfl hne
theorem hk_up (M N : Mem) (h : Rel M N) (a b : Int32) (hb : b = 0 ∨ b = 1) : qX6_up a b M (fun r M => qX7_up a b N (fun r2 N => r = r2 ∧ Rel M N)) := by
  obtain ⟨_, A, hA⟩ := h
  have hR := hA.2.1
  have hC := hA.2.2.1
  have hN := hA.2.2.2.1
  have hn12 := hR.1
  unfold qX6_up
  refine s_hasMachine hR hC.1 (fun k hk ea => ?_) (fun hx => ?_)
  · subst ea
    obtain ⟨_, _, _, h31⟩ := hR.2.2.1 k hk
    have hup : upA A < 4096 := Nat.lt_of_lt_of_le (mk_lt _ _) (pw12 hR)
    have hbit : (upA A).testBit k = decide (A 3 k = 1) := by
      unfold upA
      rw [mk_bit]
      simp [hk]
    -- the two ends, whatever the bit
    have go : ∀ r4 : Int32, r4 = nI (A 3 k) → zb r4 ∧ ((¬ r4 = b → qX1_turn (nI k) M (fun M8 => qX6_agree M8 (fun r9 M10 => zb r9 ∧ (fun r M => qX7_up (nI k) b N (fun r2 N => r = r2 ∧ Rel M N)) r9 M10))) ∧ (r4 = b → qX6_refuse (5 : Int32) M (fun r11 M12 => zb r11 ∧ (fun r M => qX7_up (nI k) b N (fun r2 N => r = r2 ∧ Rel M N)) r11 M12))) := by
      intro r4 e4
      subst e4
      refine ⟨?_, fun hne => ?_, fun he => ?_⟩
      · rcases Nat.lt_or_ge (A 3 k) 1 with e | e
        · have e0 : A 3 k = 0 := by omega
          rw [e0]; rfl
        · have e0 : A 3 k = 1 := by omega
          rw [e0]; rfl
      · rintro _ rfl
        rw [hC.1.2.2.1, bx_shl (by omega), bx_xor]
        rintro _ rfl
        refine ⟨rfl, ?_⟩
        refine r_up hb hN.1 hn12 (fun h => ?_) (fun j hj ej h => ?_) (fun j hj ej h => ⟨rfl, ?_⟩)
        · exact absurd h (nI_offL hk (by omega))
        · rw [nI_eq (by omega) (by omega)] at ej
          subst ej
          rw [(hN.2.2.1 k hk).2.2] at h
          exact absurd h hne
        · rw [nI_eq (by omega) (by omega)] at ej
          subst ej
          have eb := nI_01 h31 hb hne
          refine ⟨st_eq, xuA A k, ?_⟩
          obtain ⟨hRS, _, _, _, hPR, hPC, hPN, ⟨hFS, hKR⟩, hKC, hKN⟩ := hA
          obtain ⟨⟨k1, k2, k3, k4, k5, k6, k7, k8, k9⟩, hT, hL⟩ := hC
          have hKE : KE A (xuA A k) := ⟨rfl, rfl, fun q hq => sR_r q (by omega)⟩
          have x3 : ∀ j, xuA A k 3 j = if j = k then 1 - A 3 k else A 3 j := fun j => by
            show (if (3 : Nat) = 3 ∧ j = k then 1 - A 3 k else A 3 j) = _
            by_cases e : j = k
            · rw [if_pos ⟨rfl, e⟩, if_pos e]
            · rw [if_neg (by omega), if_neg e]
          refine ⟨hRS, ⟨hR.1, hR.2.1, fun j hj => ?_, hR.2.2.2⟩, ⟨⟨k1, k2, ?_, k4, k5, k6, k7, k8, k9⟩, hT, hL⟩, ⟨hN.1, hN.2.1, fun j hj => ?_, hN.2.2.2⟩, hPR, ⟨hPC.1, hPC.2.1.fr ⟨rfl, rfl, rfl, rfl, rfl⟩ (fun k h1 h2 => by rw [sA_1 k (by omega), sA_1 k (by omega)]), ?_⟩, hPN, ⟨hFS, hKR.fr hKE⟩, hKC.fr hKE (fun k hk => by rw [sA_1 k (by omega), sA_1 k (by omega)]), hKN.fr hKE rfl rfl (fun k _ _ => by rw [sA_1 k (by omega), sA_1 k (by omega)])⟩
          · have := hR.2.2.1 j hj
            refine ⟨this.1, this.2.1, this.2.2.1, ?_⟩
            rw [x3]
            by_cases e : j = k
            · rw [if_pos e]; omega
            · rw [if_neg e]; exact this.2.2.2
          · rw [xuA_up hk h31, sA_1 11 (by decide), sA_g, if_pos ⟨rfl, rfl⟩]
          · obtain ⟨n1, n2, n3⟩ := hN.2.2.1 j hj
            refine ⟨n1, n2, ?_⟩
            rw [x3, sA_1 6 (by decide), sA_g]
            by_cases e : j = k
            · rw [if_pos ⟨rfl, e⟩, if_pos e]; exact eb
            · rw [if_neg (by omega), if_neg e]; exact n3
          · exact PF.fr hPR hPC.2.2 ⟨rfl, rfl, rfl, rfl, rfl⟩ (Nat.le_refl _) (fun w hw => rfl) (fun k h1 h2 => by rw [sA_1 k (by omega), sA_1 k (by omega)])
      · rintro _ rfl
        refine ⟨rfl, ?_⟩
        refine r_up hb hN.1 hn12 (fun h => ?_) (fun j hj ej h => ⟨rfl, Rel.no hA 5⟩) (fun j hj ej h => ?_)
        · exact absurd h (nI_offL hk (by omega))
        · rw [nI_eq (by omega) (by omega)] at ej
          subst ej
          rw [(hN.2.2.1 k hk).2.2] at h
          exact absurd he h
    refine b1_n ?_
    unfold qX1_isUp
    rw [hC.1.2.2.1]
    refine s_has (by omega) (by omega) (fun hb1 => ?_) (fun hb1 => ?_)
    · rw [hbit, decide_eq_true_iff] at hb1
      exact go 1 (by rw [hb1]; rfl)
    · rw [hbit, decide_eq_false_iff_not] at hb1
      exact go 0 (by rw [show A 3 k = 0 by omega]; rfl)
  · refine b0_n ?_
    rintro _ rfl
    refine ⟨rfl, ?_⟩
    refine r_up hb hN.1 hn12 (fun _ => ⟨rfl, Rel.no hA 1⟩) (fun k hk ek _ => ?_) (fun k hk ek _ => ?_)
    · subst ek; exact absurd hx (nI_offL hk (by omega))
    · subst ek; exact absurd hx (nI_offL hk (by omega))

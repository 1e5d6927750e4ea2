/-! TWO ASKS ARE APART, OR NO MORE -/
theorem ld0 {A : Abs} : ldA A 0 = 0 := sumB_0 _
theorem cl0 {A : Abs} : ¬ clA A 0 := by
  rintro ⟨a, _, hb, _⟩
  rw [Nat.zero_testBit] at hb
  exact absurd hb (by decide)
theorem HT0 {A : Abs} {M : Mem} (h : HT A M) : M.1 17 0 = 0 ∧ M.1 18 0 = 0 := by
  have h0 := h 0 (Nat.two_pow_pos _)
  refine ⟨?_, h0.2.mpr cl0⟩
  rw [h0.1, ld0]
  rfl
def apA (A : Abs) (a b : Nat) : Abs := sR (sR A 7 a (A 7 a ^^^ 2 ^ b)) 7 b (A 7 b ^^^ 2 ^ a)
theorem apA_7 {A : Abs} {a b : Nat} (hab : a ≠ b) (k : Nat) : apA A a b 7 k = if k = b then A 7 b ^^^ 2 ^ a else if k = a then A 7 a ^^^ 2 ^ b else A 7 k := by
  show (if (7 : Nat) = 7 ∧ k = b then A 7 b ^^^ 2 ^ a else if (7 : Nat) = 7 ∧ k = a then A 7 a ^^^ 2 ^ b else A 7 k) = _
  by_cases e : k = b
  · rw [if_pos ⟨rfl, e⟩, if_pos e]
  · rw [if_neg (fun c => e c.2), if_neg e]
    by_cases e2 : k = a
    · rw [if_pos ⟨rfl, e2⟩, if_pos e2]
    · rw [if_neg (fun c => e2 c.2), if_neg e2]
theorem apA_r {A : Abs} {a b : Nat} (r : Nat) (h : r ≠ 7) : apA A a b r = A r := by
  show sR (sR A 7 a (A 7 a ^^^ 2 ^ b)) 7 b (A 7 b ^^^ 2 ^ a) r = _
  rw [sR_r r h, sR_r r h]
theorem apA_bit {A : Abs} {a b : Nat} (hab : a ≠ b) (x y : Nat) : (apA A a b 7 x).testBit y = ((A 7 x).testBit y != decide ((x = a ∧ y = b) ∨ (x = b ∧ y = a))) := by
  rw [apA_7 hab]
  by_cases e : x = b
  · subst e
    rw [if_pos rfl, Nat.testBit_xor, Nat.testBit_two_pow]
    by_cases e2 : a = y
    · subst e2; simp [hab]
    · have e3 : ¬ y = a := fun h => e2 h.symm
      have e4 : ¬ x = a := fun h => hab h.symm
      simp [e2, e3, e4]
  · rw [if_neg e]
    by_cases e2 : x = a
    · subst e2
      rw [if_pos rfl, Nat.testBit_xor, Nat.testBit_two_pow]
      by_cases e3 : b = y
      · subst e3; simp
      · have e4 : ¬ y = b := fun h => e3 h.symm
        simp [e3, e4, e]
    · rw [if_neg e2]
      simp [e, e2]
theorem apA_FS {A : Abs} {a b : Nat} (hab : a ≠ b) (h : FS A) : FS (apA A a b) := by
  intro x y hx hy
  rw [apA_bit hab, apA_bit hab, apA_bit hab]
  have h1 := h x y hx hy
  refine ⟨?_, ?_⟩
  · rw [h1.1]
    congr 1
    apply decide_eq_decide.mpr
    omega
  · rw [h1.2]
    have : ¬ ((x = a ∧ x = b) ∨ (x = b ∧ x = a)) := by omega
    simp [this]
theorem r_apart {A : Abs} {a b c : Int32} {N : Mem} (hR : HR A) (hN : HN A N) {post : Int32 → Mem → Prop}
    (h0 : (a.toInt < 0 ∨ (A 0 1 : Int) ≤ a.toInt ∨ b.toInt < 0 ∨ (A 0 1 : Int) ≤ b.toInt ∨ a = b) → post 0 (sA N 0 0 1))
    (h5 : ∀ x y, x < A 0 1 → y < A 0 1 → x ≠ y → a = nI x → b = nI y → nI (if (A 7 x).testBit y then 1 else 0) = c → post 0 (sA N 0 0 5))
    (h1 : ∀ x y, x < A 0 1 → y < A 0 1 → x ≠ y → a = nI x → b = nI y → ¬ nI (if (A 7 x).testBit y then 1 else 0) = c → post 1 (sA (sA (sA N 10 x (nI (A 7 x ^^^ 2 ^ y))) 10 y (nI (A 7 y ^^^ 2 ^ x))) 0 0 0)) : qX7_apart a b c N post := by
  have hna := hR.2.1
  have h10 := pw10 hR
  intro R46 h46
  refine r_isAsk hR hN (fun x hx ea => b1_e ?_) (fun e => b0_e (is_no (by decide) (h0 (by omega))))
  refine r_isAsk hR hN (fun y hy eb => b1_e ?_) (fun e => b0_e (is_no (by decide) (h0 (by omega))))
  refine ⟨fun hne => ?_, fun he => is_no (by decide) (h0 (by simp [he]))⟩
  subst ea eb
  have hxy : x ≠ y := fun e => hne (by rw [e])
  have hf := hR.2.2.2 x hx
  have hg := hR.2.2.2 y hy
  have e10 : N.1 10 x = nI (A 7 x) := (hN.2.2.2 x hx).2.2.2
  rw [nI_clamp (by omega), e10, bx_bit (by omega) (by omega)]
  have fin : R46 (nI (if (A 7 x).testBit y then 1 else 0)) N := by
    apply h46
    unfold qX7_apart_b46
    rw [nI_clamp (show x < 2 ^ 31 by omega), nI_clamp (show y < 2 ^ 31 by omega), e10, bx_shl (by omega), bx_xor, bx_shl (by omega)]
    refine ⟨fun hc => ⟨vp_in_nI (by omega) (by omega), vp_in_nI (by omega) (by omega), ?_⟩, fun hc => is_no (by decide) (h5 x y hx hy hxy rfl rfl hc)⟩
    rintro _ rfl
    have e2 : (sA N 10 x (nI (A 7 x ^^^ 2 ^ y))).1 10 y = nI (A 7 y) := by
      rw [sA_g, if_neg (fun c => hxy c.2.symm)]
      exact (hN.2.2.2 y hy).2.2.2
    rw [e2, bx_xor]
    refine ⟨vp_in_nI (by omega) (by omega), vp_in_nI (by omega) (by omega), ?_⟩
    rintro _ rfl
    exact is_yes (h1 x y hx hy hxy rfl rfl hc)
  refine ⟨vp_in_nI (by omega) (by omega), fun hb => ?_, fun hb => ?_⟩
  · cases ht : (A 7 x).testBit y with
    | true => rw [ht] at hb; exact absurd rfl hb
    | false => rw [ht] at fin; exact fin
  · cases ht : (A 7 x).testBit y with
    | true => rw [ht] at fin; exact fin
    | false => rw [ht] at hb; exact absurd hb (by decide)
theorem apA_KE {A : Abs} {a b : Nat} : KE A (apA A a b) := ⟨congrFun (apA_r 0 (by decide)) 3, congrFun (apA_r 0 (by decide)) 4, fun q hq => apA_r q (by omega)⟩
theorem hk_apart (M N : Mem) (h : Rel M N) (a b c : Int32) (hc : c = 0 ∨ c = 1) : qX6_apart a b c M (fun r M => qX7_apart a b c N (fun r2 N => r = r2 ∧ Rel M N)) := by
  obtain ⟨_, A, hA⟩ := h
  have hR := hA.2.1
  have hC := hA.2.2.1
  have hN := hA.2.2.2.1
  have hna := hR.2.1
  have h10 := pw10 hR
  have no : (a.toInt < 0 ∨ (A 0 1 : Int) ≤ a.toInt ∨ b.toInt < 0 ∨ (A 0 1 : Int) ≤ b.toInt ∨ a = b) → qX6_refuse 1 M (fun r M => zb r ∧ (fun r M => qX7_apart a b c N (fun r2 N => r = r2 ∧ Rel M N)) r M) := by
    intro hx
    rintro _ rfl
    refine ⟨rfl, r_apart hR hN (fun _ => ⟨rfl, Rel.no hA 1⟩) (fun x y h1 h2 h3 e1 e2 _ => ?_) (fun x y h1 h2 h3 e1 e2 _ => ?_)⟩
    all_goals
      subst e1 e2
      rw [nI_toInt (by omega), nI_toInt (by omega), nI_eq (by omega) (by omega)] at hx
      omega
  unfold qX6_apart
  refine s_hasAsk hR hC.1 (fun x hx ea => b1_e (s_hasAsk hR hC.1 (fun y hy eb => b1_e ⟨fun hne => ?_, fun he => no (by simp [he])⟩) (fun e => b0_e (no (by omega))))) (fun e => b0_e (no (by omega)))
  subst ea eb
  have hxy : x ≠ y := fun e => hne (by rw [e])
  have hf := hR.2.2.2 x hx
  have hg := hR.2.2.2 y hy
  have e15 : ∀ z, z < A 0 1 → M.1 15 z = nI (A 7 z) := fun z hz => by
    rw [hC.1.2.2.2.2.2.2.1 z (by omega), if_pos hz]
  have px : 2 ^ x < 2 ^ A 0 1 := Nat.pow_lt_pow_right (by decide) hx
  have py : 2 ^ y < 2 ^ A 0 1 := Nat.pow_lt_pow_right (by decide) hy
  have hxl : A 7 x ^^^ 2 ^ y < 2 ^ A 0 1 := Nat.xor_lt_two_pow hf.2.2.2.2 py
  have hyl : A 7 y ^^^ 2 ^ x < 2 ^ A 0 1 := Nat.xor_lt_two_pow hg.2.2.2.2 px
  -- the two ends
  have go : ∀ r, r = nI (if (A 7 x).testBit y then 1 else 0) → (¬ r = c → qX3_forget M (fun M16 => qX1_turnFoes (nI x) (nI y) M16 (fun M18 => qX6_agree M18 (fun r19 M20 => zb r19 ∧ (fun r M => qX7_apart (nI x) (nI y) c N (fun r2 N => r = r2 ∧ Rel M N)) r19 M20)))) ∧ (r = c → qX6_refuse (5 : Int32) M (fun r21 M22 => zb r21 ∧ (fun r M => qX7_apart (nI x) (nI y) c N (fun r2 N => r = r2 ∧ Rel M N)) r21 M22)) := by
    intro r er
    subst er
    refine ⟨fun hnc => ?_, fun hc' => ?_⟩
    · rintro _ rfl
      have f15 : (sA M 21 8 (-1)).1 15 x = nI (A 7 x) := e15 x hx
      unfold qX1_turnFoes
      rw [nI_clamp (show x < 2 ^ 31 by omega), nI_clamp (show y < 2 ^ 31 by omega), f15, bx_shl (by omega), bx_shl (by omega), bx_xor]
      refine ⟨vp_in_nI (by omega) (by omega), vp_in_nI (by omega) (by omega), ?_⟩
      rintro _ rfl
      have g15 : (sA (sA M 21 8 (-1)) 15 x (nI (A 7 x ^^^ 2 ^ y))).1 15 y = nI (A 7 y) := by
        rw [sA_g, if_neg (fun c => hxy c.2.symm)]
        exact e15 y hy
      rw [g15, bx_xor]
      refine ⟨vp_in_nI (by omega) (by omega), vp_in_nI (by omega) (by omega), ?_⟩
      rintro _ rfl
      obtain ⟨hRS, _, _, _, hPR, hPC, hPN, ⟨hFS, hKR⟩, hKC, hKN⟩ := hA
      obtain ⟨⟨k1, k2, k3, k4, k5, k6, k7, k8, k9⟩, hT, hL⟩ := hC
      have w15 : ∀ z, z < A 0 1 → (sA (sA (sA M 21 8 (-1)) 15 x (nI (A 7 x ^^^ 2 ^ y))) 15 y (nI (A 7 y ^^^ 2 ^ x))).1 15 z = nI (apA A x y 7 z) := fun z hz => by
        rw [apA_7 hxy, sA_g, sA_g, sA_1 15 (by decide)]
        by_cases e : z = y
        · rw [if_pos ⟨rfl, e⟩, if_pos e]
        · rw [if_neg (fun c => e c.2), if_neg e]
          by_cases e2 : z = x
          · rw [if_pos ⟨rfl, e2⟩, if_pos e2]
          · rw [if_neg (fun c => e2 c.2), if_neg e2]
            exact e15 z hz
      have l7 : ∀ z, z < A 0 1 → apA A x y 7 z < 2 ^ A 0 1 := fun z hz => by
        rw [apA_7 hxy]
        by_cases e : z = y
        · rw [if_pos e]; exact hyl
        · rw [if_neg e]
          by_cases e2 : z = x
          · rw [if_pos e2]; exact hxl
          · rw [if_neg e2]; exact (hR.2.2.2 z hz).2.2.2.2
      refine s_tally (A := apA A x y) (M := sA (sA (sA M 21 8 (-1)) 15 x (nI (A 7 x ^^^ 2 ^ y))) 15 y (nI (A 7 y ^^^ 2 ^ x))) hna k2 k6 w15 l7 (apA_FS hxy hFS) (HT0 hT).1 (HT0 hT).2 (fun M' hE hT' hl => ?_)
      rintro _ rfl
      refine ⟨rfl, r_apart hR hN (fun h => ?_) (fun x' y' _ _ _ e1 e2 h => ?_) (fun x' y' _ _ _ e1 e2 _ => ⟨rfl, st_eq, apA A x y, ?_⟩)⟩
      · rw [nI_toInt (by omega), nI_toInt (by omega), nI_eq (by omega) (by omega)] at h
        omega
      · rw [nI_eq (by omega) (by omega)] at e1 e2
        subst e1 e2
        exact absurd h hnc
      · rw [nI_eq (by omega) (by omega)] at e1 e2
        subst e1 e2
        have row : ∀ k, k ≠ 0 → k ≠ 11 → k ≠ 15 → k ≠ 17 → k ≠ 18 → k ≠ 21 → (sA M' 0 5 0).1 k = M.1 k := fun k h0 h11 h15 h17 h18 h21 => by
          rw [sA_1 k h0]
          funext j
          rw [hE.2 k j h17 h18 (fun c => h11 c.1), sA_1 k h15, sA_1 k h15, sA_1 k h21]
        have r11 : ∀ j, j ≠ 12 → (sA M' 0 5 0).1 11 j = M.1 11 j := fun j hj => by
          rw [sA_1 11 (by decide), hE.2 11 j (by decide) (by decide) (by omega), sA_1 11 (by decide), sA_1 11 (by decide), sA_1 11 (by decide)]
        have r15 : ∀ z, (sA M' 0 5 0).1 15 z = (sA (sA (sA M 21 8 (-1)) 15 x (nI (A 7 x ^^^ 2 ^ y))) 15 y (nI (A 7 y ^^^ 2 ^ x))).1 15 z := fun z => by
          rw [sA_1 15 (by decide), hE.2 15 z (by decide) (by decide) (by omega)]
        have r21 : ∀ j, (sA M' 0 5 0).1 21 j = if j = 8 then -1 else M.1 21 j := fun j => by
          rw [sA_1 21 (by decide), hE.2 21 j (by decide) (by decide) (by omega), sA_1 21 (by decide), sA_1 21 (by decide), sA_g]
          by_cases e : j = 8
          · rw [if_pos ⟨rfl, e⟩, if_pos e]
          · rw [if_neg (fun c => e c.2), if_neg e]
        have p7 : ∀ r, r ≠ 7 → apA A x y r = A r := fun r hr => apA_r r hr
        have hPE : PE A (apA A x y) := ⟨congrFun (p7 0 (by decide)) 2, p7 8 (by decide), p7 9 (by decide), p7 10 (by decide), p7 11 (by decide)⟩
        refine ⟨hRS.fr hE.1 (row 9 (by decide) (by decide) (by decide) (by decide) (by decide) (by decide)) (row 10 (by decide) (by decide) (by decide) (by decide) (by decide) (by decide)) rfl rfl rfl, ?_, ⟨⟨?_, ?_, ?_, ?_, ?_, ?_, fun z hz => ?_, ?_, ?_⟩, fun s hs => ?_, Or.inl ?_⟩, ⟨hN.1, hN.2.1, hN.2.2.1, fun z hz => ?_⟩, hPR.fr hPE, ⟨hPC.1.fr hPE ?_ ?_, hPC.2.1.fr hPE ?_, Or.inl ?_⟩, hPN.fr hPE rfl (fun k h1 h2 => by rw [sA_1 k (by omega), sA_1 k (by omega), sA_1 k (by omega)]), ⟨apA_FS hxy hFS, hKR.fr apA_KE⟩, hKC.fr apA_KE (fun k hk => row k (by omega) (by omega) (by omega) (by omega) (by omega) (by omega)), hKN.fr apA_KE rfl rfl (fun k h1 h2 => by rw [sA_1 k (by omega), sA_1 k (by omega), sA_1 k (by omega)])⟩
        · refine ⟨hR.1, hR.2.1, hR.2.2.1, fun z hz => ?_⟩
          have hz' := hR.2.2.2 z hz
          exact ⟨hz'.1, hz'.2.1, hz'.2.2.1, hz'.2.2.2.1, l7 z hz⟩
        · rw [r11 0 (by decide)]; exact k1
        · rw [r11 1 (by decide)]; exact k2
        · rw [r11 4 (by decide)]; exact k3
        · rw [row 12 (by decide) (by decide) (by decide) (by decide) (by decide) (by decide)]; exact k4
        · rw [row 13 (by decide) (by decide) (by decide) (by decide) (by decide) (by decide)]; exact k5
        · rw [row 14 (by decide) (by decide) (by decide) (by decide) (by decide) (by decide)]; exact k6
        · rw [r15 z]
          show _ = nI (if z < A 0 1 then apA A x y 7 z else 0)
          by_cases hz2 : z < A 0 1
          · rw [if_pos hz2]; exact w15 z hz2
          · rw [if_neg hz2, sA_g, sA_g, if_neg (by omega), if_neg (by omega), sA_1 15 (by decide), k7 z hz, if_neg hz2]
        · rw [row 16 (by decide) (by decide) (by decide) (by decide) (by decide) (by decide)]; exact k8
        · rw [row 19 (by decide) (by decide) (by decide) (by decide) (by decide) (by decide)]; exact k9
        · rw [sA_1 17 (by decide), sA_1 18 (by decide)]; exact hT' s hs
        · rw [sA_1 11 (by decide)]; exact hl
        · have q : ∀ k, k ≠ 0 → k ≠ 10 → (sA (sA (sA N 10 x (nI (A 7 x ^^^ 2 ^ y))) 10 y (nI (A 7 y ^^^ 2 ^ x))) 0 0 0).1 k = N.1 k := fun k h0 h10 => by rw [sA_1 k h0, sA_1 k h10, sA_1 k h10]
          rw [q 7 (by decide) (by decide), q 8 (by decide) (by decide), q 9 (by decide) (by decide), sA_1 10 (by decide), sA_g, sA_g, apA_7 hxy]
          have n := hN.2.2.2 z hz
          refine ⟨n.1, n.2.1, n.2.2.1, ?_⟩
          by_cases e : z = y
          · rw [if_pos ⟨rfl, e⟩, if_pos e]
          · rw [if_neg (fun c => e c.2), if_neg e]
            by_cases e2 : z = x
            · rw [if_pos ⟨rfl, e2⟩, if_pos e2]
            · rw [if_neg (fun c => e2 c.2), if_neg e2]
              exact n.2.2.2
        · rw [r21, if_neg (by decide)]
        · exact fun k h1 h2 => row k (by omega) (by omega) (by omega) (by omega) (by omega) (by omega)
        · exact fun k h1 h2 => row k (by omega) (by omega) (by omega) (by omega) (by omega) (by omega)
        · rw [r21, if_pos rfl]
    · rintro _ rfl
      refine ⟨rfl, r_apart hR hN (fun h => ?_) (fun x' y' _ _ _ e1 e2 _ => ⟨rfl, Rel.no hA 5⟩) (fun x' y' _ _ _ e1 e2 h => ?_)⟩
      · rw [nI_toInt (by omega), nI_toInt (by omega), nI_eq (by omega) (by omega)] at h
        omega
      · rw [nI_eq (by omega) (by omega)] at e1 e2
        subst e1 e2
        exact absurd hc' h
  unfold qX1_areFoes
  rw [nI_clamp (show x < 2 ^ 31 by omega), e15 x hx]
  refine ⟨vp_in_nI (by omega) (by omega), s_has (by omega) (by omega) (fun hb => ⟨rfl, go 1 ?_⟩) (fun hb => ⟨rfl, go 0 ?_⟩)⟩
  · rw [hb]; rfl
  · rw [hb]; rfl

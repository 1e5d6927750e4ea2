/-! AN ASK COMES: both sides -/
theorem hk_ask (M N : Mem) (h : Rel M N) (a b c : Int32) : qX6_ask a b c M (fun r M => qX7_ask a b c N (fun r2 N => r = r2 ∧ Rel M N)) := by
  obtain ⟨_, A, hA⟩ := h
  have hR := hA.2.1
  have hC := hA.2.2.1
  have hN := hA.2.2.2.1
  have hna := hR.2.1
  have c1 : (1 : Int32).toInt = 1 := rfl
  have c100 : (100 : Int32).toInt = 100 := rfl
  have no : badK a b c → qX6_deny 1 M (fun r M => qX7_ask a b c N (fun r2 N => r = r2 ∧ Rel M N)) := by
    intro hb
    rintro _ rfl
    exact r_ask hN.2.1 hna (fun _ => ⟨rfl, Rel.no hA 1⟩) (fun _ hnb => absurd hb hnb) (fun _ hnb => absurd hb hnb)
  unfold qX6_ask
  refine s_withinI (fun p q => b1_e (s_isHour (fun f hf eb => b1_e (s_isHour (fun l hl ec => b1_e ⟨fun hle => ?_, fun hnle => no ?_⟩) (fun hx => b0_e (no ?_)))) (fun hx => b0_e (no ?_)))) (fun hx => b0_e (no ?_))
  · rw [c1] at p
    rw [c100] at q
    subst eb ec
    rw [Int32.le_iff_toInt_le, nI_toInt (by omega), nI_toInt (by omega)] at hle
    rw [hC.1.2.1]
    refine ⟨fun hne => ?_, fun hfull => ?_⟩
    · have hlt : A 0 1 < 10 := by
        rcases Nat.lt_or_ge (A 0 1) 10 with e | e
        · exact e
        · have e2 : A 0 1 = 10 := by omega
          rw [e2] at hne; exact absurd rfl hne
      obtain ⟨w, hw, _, ea⟩ := nat_of (a := a) (n := 100) (by omega) q
      subst ea
      rw [nI_toInt (by omega)] at p q
      rintro _ rfl
      obtain ⟨hRS, _, _, _, hPR, hPC, hPN, ⟨hFS, hKR⟩, hKC, hKN⟩ := hA
      have hCm : HC A (sA M 21 8 (-1)) := hC
      refine s_addAsk (M := sA M 21 8 (-1)) hR hCm hFS hlt hw (by omega) hl (fun M' M2 hE h16 hAK hE2 hT' hl' => ?_)
      rintro _ rfl
      obtain ⟨⟨k1, k2, k3, k4, k5, k6, k7, k8, k9⟩, hT, hL⟩ := hC
      refine r_ask hN.2.1 hna (fun h => ?_) (fun h => by omega) (fun _ _ => ⟨rfl, st_eq, asA A w f l, ?_⟩)
      · unfold badK at h
        rw [nI_toInt (by omega), nI_toInt (by omega), nI_toInt (by omega)] at h
        omega
      have row : ∀ k, k ≠ 0 → k ≠ 11 → k ≠ 14 → k ≠ 16 → k ≠ 17 → k ≠ 18 → k ≠ 19 → k ≠ 21 → (sA M2 0 5 0).1 k = M.1 k := fun k h0 h11 h14 h16 h17 h18 h19 h21 => by
        rw [sA_1 k h0]
        funext j
        rw [hE2.2 k j h17 h18 (fun c => h11 c.1), hE.2 k h16 h19, sA_1 k h14, sA_1 k h11, sA_1 k h21]
      have r11 : ∀ j, j ≠ 12 → (sA M2 0 5 0).1 11 j = if j = 1 then nI (A 0 1 + 1) else M.1 11 j := fun j hj => by
        rw [sA_1 11 (by decide), hE2.2 11 j (by decide) (by decide) (by omega), hE.2 11 (by decide) (by decide), sA_1 11 (by decide), sA_g, sA_1 11 (by decide)]
        by_cases e : j = 1
        · rw [if_pos ⟨rfl, e⟩, if_pos e]
        · rw [if_neg (fun c => e c.2), if_neg e]
      have r14 : ∀ z, (sA M2 0 5 0).1 14 z = if z = A 0 1 then nI w else M.1 14 z := fun z => by
        rw [sA_1 14 (by decide), hE2.2 14 z (by decide) (by decide) (by omega), hE.2 14 (by decide) (by decide), sA_g, sA_1 14 (by decide), sA_1 14 (by decide)]
        by_cases e : z = A 0 1
        · rw [if_pos ⟨rfl, e⟩, if_pos e]
        · rw [if_neg (fun c => e c.2), if_neg e]
      have r16 : ∀ z, (sA M2 0 5 0).1 16 z = M'.1 16 z := fun z => by
        rw [sA_1 16 (by decide), hE2.2 16 z (by decide) (by decide) (by omega)]
      have r19 : (sA M2 0 5 0).1 19 = M'.1 19 := by
        rw [sA_1 19 (by decide)]
        funext z
        rw [hE2.2 19 z (by decide) (by decide) (by omega)]
      have r21 : ∀ j, (sA M2 0 5 0).1 21 j = if j = 8 then -1 else M.1 21 j := fun j => by
        rw [sA_1 21 (by decide), hE2.2 21 j (by decide) (by decide) (by omega), hE.2 21 (by decide) (by decide), sA_1 21 (by decide), sA_1 21 (by decide), sA_g]
        by_cases e : j = 8
        · rw [if_pos ⟨rfl, e⟩, if_pos e]
        · rw [if_neg (fun c => e c.2), if_neg e]
      have hpw : 2 ^ A 0 1 < 2 ^ (A 0 1 + 1) := Nat.pow_lt_pow_right (by decide) (by omega)
      refine ⟨hRS.fr (hE2.1.trans hE.1) (row 9 (by decide) (by decide) (by decide) (by decide) (by decide) (by decide) (by decide) (by decide)) (row 10 (by decide) (by decide) (by decide) (by decide) (by decide) (by decide) (by decide) (by decide)) rfl rfl rfl, ⟨hR.1, ?_, hR.2.2.1, fun z hz => ?_⟩, ⟨⟨?_, ?_, ?_, ?_, ?_, fun z hz => ?_, fun z hz => ?_, fun z hz => ?_, ?_⟩, fun s hs => ?_, Or.inl ?_⟩, ⟨hN.1, rfl, hN.2.2.1, fun z hz => ?_⟩, hPR.fr asA_PE, ⟨hPC.1.fr asA_PE ?_ ?_, hPC.2.1.fr asA_PE ?_, Or.inl ?_⟩, hPN.fr asA_PE rfl (fun k h1 h2 => ?_), ⟨asA_FS (fun z hz => (hR.2.2.2 z hz).2.2.2.2) hFS, hKR.fr asA_KE⟩, hKC.fr asA_KE (fun k hk => row k (by omega) (by omega) (by omega) (by omega) (by omega) (by omega) (by omega) (by omega)), hKN.fr asA_KE rfl rfl (fun k h1 h2 => ?_)⟩
      · show A 0 1 + 1 ≤ 10
        omega
      · have hz' : z < A 0 1 + 1 := hz
        show 1 ≤ asA A w f l 4 z ∧ asA A w f l 4 z ≤ 100 ∧ asA A w f l 5 z ≤ asA A w f l 6 z ∧ asA A w f l 6 z < 24 ∧ asA A w f l 7 z < 2 ^ (A 0 1 + 1)
        rw [asA_4, asA_5, asA_6, asA_7]
        by_cases e : z = A 0 1
        · rw [if_pos e, if_pos e, if_pos e, if_pos e]
          refine ⟨by omega, by omega, by omega, by omega, Nat.two_pow_pos _⟩
        · rw [if_neg e, if_neg e, if_neg e, if_neg e]
          have := hR.2.2.2 z (by omega)
          refine ⟨by omega, by omega, by omega, by omega, by omega⟩
      · rw [r11 0 (by decide), if_neg (by decide)]; exact k1
      · rw [r11 1 (by decide), if_pos rfl]; rfl
      · rw [r11 4 (by decide), if_neg (by decide)]; exact k3
      · rw [row 12 (by decide) (by decide) (by decide) (by decide) (by decide) (by decide) (by decide) (by decide)]; exact k4
      · rw [row 13 (by decide) (by decide) (by decide) (by decide) (by decide) (by decide) (by decide) (by decide)]; exact k5
      · have hz' : z < A 0 1 + 1 := hz
        rw [r14, asA_4]
        by_cases e : z = A 0 1
        · rw [if_pos e, if_pos e]
        · rw [if_neg e, if_neg e]
          exact k6 z (by omega)
      · rw [row 15 (by decide) (by decide) (by decide) (by decide) (by decide) (by decide) (by decide) (by decide), k7 z hz]
        show _ = nI (if z < A 0 1 + 1 then asA A w f l 7 z else 0)
        rw [asA_7]
        by_cases e : z = A 0 1
        · rw [if_pos e, if_neg (by omega)]
          simp
        · by_cases e2 : z < A 0 1
          · rw [if_pos e2, if_pos (by omega), if_neg e]
          · rw [if_neg e2, if_neg (by omega)]
      · rw [r16]; exact h16 z hz
      · rw [r19]; exact hAK
      · rw [sA_1 17 (by decide), sA_1 18 (by decide)]; exact hT' s hs
      · rw [sA_1 11 (by decide)]; exact hl'
      · have hz' : z < A 0 1 + 1 := hz
        rw [asA_4, asA_5, asA_6, asA_7]
        rw [sA_1 7 (by decide), sA_1 7 (by decide), sA_1 7 (by decide), sA_1 7 (by decide), sA_1 7 (by decide), sA_g]
        rw [sA_1 8 (by decide), sA_1 8 (by decide), sA_1 8 (by decide), sA_1 8 (by decide), sA_g, sA_1 8 (by decide)]
        rw [sA_1 9 (by decide), sA_1 9 (by decide), sA_1 9 (by decide), sA_g, sA_1 9 (by decide), sA_1 9 (by decide)]
        rw [sA_1 10 (by decide), sA_1 10 (by decide), sA_g, sA_1 10 (by decide), sA_1 10 (by decide), sA_1 10 (by decide)]
        by_cases e : z = A 0 1
        · exact ⟨by rw [if_pos ⟨rfl, e⟩, if_pos e], by rw [if_pos ⟨rfl, e⟩, if_pos e], by rw [if_pos ⟨rfl, e⟩, if_pos e], by rw [if_pos ⟨rfl, e⟩, if_pos e]; rfl⟩
        · obtain ⟨n1, n2, n3, n4⟩ := hN.2.2.2 z (by omega)
          exact ⟨by rw [if_neg (fun c => e c.2), if_neg e]; exact n1, by rw [if_neg (fun c => e c.2), if_neg e]; exact n2, by rw [if_neg (fun c => e c.2), if_neg e]; exact n3, by rw [if_neg (fun c => e c.2), if_neg e]; exact n4⟩
      · rw [r21, if_neg (by decide)]
      · exact fun k h1 h2 => row k (by omega) (by omega) (by omega) (by omega) (by omega) (by omega) (by omega) (by omega)
      · exact fun k h1 h2 => row k (by omega) (by omega) (by omega) (by omega) (by omega) (by omega) (by omega) (by omega)
      · rw [r21, if_pos rfl]
      · rw [sA_1 k (by omega), sA_1 k (by omega), sA_1 k (by omega), sA_1 k (by omega), sA_1 k (by omega), sA_1 k (by omega)]
      · rw [sA_1 k (by omega), sA_1 k (by omega), sA_1 k (by omega), sA_1 k (by omega), sA_1 k (by omega), sA_1 k (by omega)]
    · rintro _ rfl
      have e10 : A 0 1 = 10 := by
        have h' : nI (A 0 1) = nI 10 := hfull
        rwa [nI_eq (by omega) (by omega)] at h'
      refine r_ask hN.2.1 hna (fun h => ?_) (fun _ _ => ⟨rfl, Rel.no hA 4⟩) (fun h => by omega)
      unfold badK at h
      rw [nI_toInt (by omega), nI_toInt (by omega)] at h
      omega
  · subst eb ec
    rw [Int32.le_iff_toInt_le] at hnle
    unfold badK; omega
  · unfold badK; subst eb; rw [nI_toInt (by omega)]; omega
  · unfold badK; omega
  · rw [c1, c100] at hx
    unfold badK; omega

/-! A BATCH COMES -/
def badB (a b c d : Int32) : Prop := a.toInt < 1 ∨ 10000 < a.toInt ∨ b.toInt < 0 ∨ 23 < b.toInt ∨ c.toInt ≤ b.toInt ∨ 24 < c.toInt ∨ d.toInt < 1 ∨ 1000 < d.toInt
theorem r_batch {a b c d : Int32} {N : Mem} {n : Nat} {post : Int32 → Mem → Prop} (hn : N.1 0 6 = nI n) (h8 : n ≤ 8) (h0 : badB a b c d → post (-1) (sA N 0 0 1)) (h4 : n = 8 → ¬ badB a b c d → post (-1) (sA N 0 0 4))
    (h1 : n < 8 → ¬ badB a b c d → post (nI n) (sA (sA (sA (sA (sA (sA N 14 n a) 15 n b) 16 n c) 17 n d) 0 6 (nI (n + 1))) 0 0 0)) : qX7_batch a b c d N post := by
  intro R47 h47
  have no : badB a b c d → R47 N := fun h => h47 N (by rintro _ rfl; exact h0 h)
  rw [hn]
  simp only [Int32.lt_iff_toInt_lt, Int32.le_iff_toInt_le, show (1 : Int32).toInt = 1 from rfl, show (10000 : Int32).toInt = 10000 from rfl, show (0 : Int32).toInt = 0 from rfl, show (24 : Int32).toInt = 24 from rfl, show (1000 : Int32).toInt = 1000 from rfl]
  refine ⟨fun h => no (by unfold badB; omega), fun p1 => ⟨fun h => no (by unfold badB; omega), fun p2 => ⟨fun h => no (by unfold badB; omega), fun p3 => ⟨fun h => no (by unfold badB; omega), fun p4 => ⟨fun h => no (by unfold badB; omega), fun p5 => ⟨fun h => no (by unfold badB; omega), fun p6 => ⟨fun h => no (by unfold badB; omega), fun p7 => ⟨fun p8 => ⟨fun h => ?_, fun h => ?_⟩, fun h => no (by unfold badB; omega)⟩⟩⟩⟩⟩⟩⟩⟩
  · have hlt : n < 8 := by
      rcases Nat.lt_or_ge n 8 with e | e
      · exact e
      · have e2 : n = 8 := by omega
        subst e2; exact absurd rfl h
    have g1 : (sA N 14 n a).1 0 6 = nI n := hn
    have g2 : (sA (sA N 14 n a) 15 n b).1 0 6 = nI n := hn
    have g3 : (sA (sA (sA N 14 n a) 15 n b) 16 n c).1 0 6 = nI n := hn
    have g4 : (sA (sA (sA (sA N 14 n a) 15 n b) 16 n c) 17 n d).1 0 6 = nI n := hn
    refine ⟨vp_in_nI hlt (by omega), ?_⟩
    rintro _ rfl
    rw [nI_clamp (by omega), g1]
    refine ⟨vp_in_nI hlt (by omega), ?_⟩
    rintro _ rfl
    rw [nI_clamp (by omega), g2]
    refine ⟨vp_in_nI hlt (by omega), ?_⟩
    rintro _ rfl
    rw [nI_clamp (by omega), g3]
    refine ⟨vp_in_nI hlt (by omega), ?_⟩
    rintro _ rfl _ rfl _ rfl
    rw [nI_clamp (by omega), g4, show (1 : Int32) = nI 1 from rfl, nI_add]
    have g5 : (sA (sA (sA (sA (sA (sA N 14 n a) 15 n b) 16 n c) 17 n d) 0 6 (nI (n + 1))) 0 0 0).1 0 6 = nI (n + 1) := rfl
    rw [g5, pk_sub (by omega)]
    exact h1 hlt (by unfold badB; omega)
  · rintro _ rfl
    refine h4 ?_ (by unfold badB; omega)
    have h' : nI n = nI 8 := h
    rwa [nI_eq (by omega) (by omega)] at h'
def baA (A : Abs) (w f d m : Nat) : Abs := sR (sR (sR (sR (sR A 8 (A 0 2) w) 9 (A 0 2) f) 10 (A 0 2) d) 11 (A 0 2) m) 0 2 (A 0 2 + 1)
theorem baA_8 {A : Abs} {w f d m : Nat} (k : Nat) : baA A w f d m 8 k = if k = A 0 2 then w else A 8 k := by
  show (if (8 : Nat) = 8 ∧ k = A 0 2 then w else A 8 k) = _
  by_cases e : k = A 0 2
  · rw [if_pos ⟨rfl, e⟩, if_pos e]
  · rw [if_neg (fun c => e c.2), if_neg e]
theorem baA_9 {A : Abs} {w f d m : Nat} (k : Nat) : baA A w f d m 9 k = if k = A 0 2 then f else A 9 k := by
  show (if (9 : Nat) = 9 ∧ k = A 0 2 then f else A 9 k) = _
  by_cases e : k = A 0 2
  · rw [if_pos ⟨rfl, e⟩, if_pos e]
  · rw [if_neg (fun c => e c.2), if_neg e]
theorem baA_10 {A : Abs} {w f d m : Nat} (k : Nat) : baA A w f d m 10 k = if k = A 0 2 then d else A 10 k := by
  show (if (10 : Nat) = 10 ∧ k = A 0 2 then d else A 10 k) = _
  by_cases e : k = A 0 2
  · rw [if_pos ⟨rfl, e⟩, if_pos e]
  · rw [if_neg (fun c => e c.2), if_neg e]
theorem baA_11 {A : Abs} {w f d m : Nat} (k : Nat) : baA A w f d m 11 k = if k = A 0 2 then m else A 11 k := by
  show (if (11 : Nat) = 11 ∧ k = A 0 2 then m else A 11 k) = _
  by_cases e : k = A 0 2
  · rw [if_pos ⟨rfl, e⟩, if_pos e]
  · rw [if_neg (fun c => e c.2), if_neg e]
theorem baA_KE {A : Abs} {w f d m : Nat} : KE A (baA A w f d m) := ⟨rfl, rfl, fun q hq => by
  show sR (sR (sR (sR (sR A 8 (A 0 2) w) 9 (A 0 2) f) 10 (A 0 2) d) 11 (A 0 2) m) 0 2 (A 0 2 + 1) q = _
  rw [sR_r q (by omega), sR_r q (by omega), sR_r q (by omega), sR_r q (by omega), sR_r q (by omega)]⟩
theorem hk_batch (M N : Mem) (h : Rel M N) (a b c d : Int32) : qX6_batch a b c d M (fun r M => qX7_batch a b c d N (fun r2 N => r = r2 ∧ Rel M N)) := by
  obtain ⟨_, A, hA⟩ := h
  have hPR := hA.2.2.2.2.1
  have hPC := hA.2.2.2.2.2.1
  have hPN := hA.2.2.2.2.2.2.1
  have hn8 := hPR.1
  have c1 : (1 : Int32).toInt = 1 := rfl
  have c10 : (10000 : Int32).toInt = 10000 := rfl
  have c24 : (24 : Int32).toInt = 24 := rfl
  have c100 : (1000 : Int32).toInt = 1000 := rfl
  have no : badB a b c d → qX6_deny 1 M (fun r M => qX7_batch a b c d N (fun r2 N => r = r2 ∧ Rel M N)) := by
    intro hb
    rintro _ rfl
    exact r_batch hPN.1 hn8 (fun _ => ⟨rfl, Rel.no hA 1⟩) (fun _ h => absurd hb h) (fun _ h => absurd hb h)
  unfold qX6_batch
  refine s_withinI (fun p q => b1_e (s_isHour (fun f hf eb => b1_e ?_) (fun hx => b0_e (no (by unfold badB; omega))))) (fun hx => b0_e (no (by rw [c1, c10] at hx; unfold badB; omega)))
  subst eb
  have ef : (nI f + 1).toInt = (f : Int) + 1 := by
    rw [nI_1, nI_toInt (by omega)]
    omega
  have ef2 : (nI f).toInt = (f : Int) := nI_toInt (by omega)
  refine s_withinI (fun p2 q2 => b1_e ?_) (fun hx => b0_e (no (by rw [ef, c24] at hx; unfold badB; omega)))
  rw [ef] at p2
  rw [c24] at q2
  rw [c1] at p
  rw [c10] at q
  refine s_withinI (fun p3 q3 => b1_n ?_) (fun hx => b0_n (no (by rw [c1, c100] at hx; unfold badB; omega)))
  rw [c1] at p3
  rw [c100] at q3
  have hok : ¬ badB a (nI f) c d := by unfold badB; omega
  rw [hPC.1.1]
  refine ⟨fun hne => ?_, fun hfull => ?_⟩
  · have hlt : A 0 2 < 8 := by
      rcases Nat.lt_or_ge (A 0 2) 8 with e | e
      · exact e
      · have e2 : A 0 2 = 8 := by omega
        rw [e2] at hne; exact absurd rfl hne
    obtain ⟨w, hw, _, ea⟩ := nat_of (a := a) (n := 10000) (by omega) q
    obtain ⟨u, hu, _, ec⟩ := nat_of (a := c) (n := 24) (by omega) q2
    obtain ⟨m, hm, _, ed⟩ := nat_of (a := d) (n := 1000) (by omega) q3
    subst ea ec ed
    rw [nI_toInt (by omega)] at p p2 p3
    rintro _ rfl _ rfl
    rw [hPC.1.1, nI_clamp (show A 0 2 < 2 ^ 31 by omega), nI_1]
    refine ⟨vp_in_nI hlt (by omega), ?_⟩
    rintro _ rfl
    refine ⟨vp_in_nI hlt (by omega), ?_⟩
    rintro _ rfl
    refine ⟨vp_in_nI hlt (by omega), ?_⟩
    rintro _ rfl
    refine ⟨vp_in_nI hlt (by omega), ?_⟩
    rintro _ rfl _ rfl _ rfl
    refine r_batch hPN.1 hn8 (fun h => absurd h hok) (fun h => by omega) (fun _ _ => ⟨rfl, st_eq, baA A w f u m, ?_⟩)
    obtain ⟨hRS, hR, hC, hN, _, _, _, ⟨hFS, hKR⟩, hKC, hKN⟩ := hA
    obtain ⟨⟨k1, k2, k3, k4, k5, k6, k7, k8, k9⟩, hT, hL⟩ := hC
    refine ⟨hRS, hR, ⟨⟨k1, k2, k3, k4, k5, k6, k7, k8, k9⟩, hT, hL⟩, hN, ⟨by show A 0 2 + 1 ≤ 8; omega, fun k hk => ?_⟩, ⟨⟨rfl, hPC.1.2.1, fun k hk => ?_⟩, fun e t he ht hn => ?_, Or.inl rfl⟩, ⟨rfl, fun k hk => ?_⟩, ⟨hFS, hKR.fr baA_KE⟩, hKC.fr baA_KE (fun k hk => by rw [sA_1 k (by omega), sA_1 k (by omega), sA_1 k (by omega), sA_1 k (by omega), sA_1 k (by omega), sA_1 k (by omega), sA_1 k (by omega)]), hKN.fr baA_KE rfl rfl (fun k _ _ => by rw [sA_1 k (by omega), sA_1 k (by omega), sA_1 k (by omega), sA_1 k (by omega), sA_1 k (by omega), sA_1 k (by omega)])⟩
    · have hk' : k < A 0 2 + 1 := hk
      rw [baA_8, baA_9, baA_10, baA_11]
      by_cases e : k = A 0 2
      · rw [if_pos e, if_pos e, if_pos e, if_pos e]
        omega
      · rw [if_neg e, if_neg e, if_neg e, if_neg e]
        exact hPR.2 k (by omega)
    · have hk' : k < A 0 2 + 1 := hk
      rw [baA_8, baA_9, baA_10, baA_11]
      rw [sA_1 31 (by decide), sA_1 31 (by decide), sA_1 31 (by decide), sA_1 31 (by decide), sA_1 31 (by decide), sA_g, sA_1 31 (by decide)]
      rw [sA_1 32 (by decide), sA_1 32 (by decide), sA_1 32 (by decide), sA_1 32 (by decide), sA_g, sA_1 32 (by decide), sA_1 32 (by decide)]
      rw [sA_1 33 (by decide), sA_1 33 (by decide), sA_1 33 (by decide), sA_g, sA_1 33 (by decide), sA_1 33 (by decide), sA_1 33 (by decide)]
      rw [sA_1 34 (by decide), sA_1 34 (by decide), sA_g, sA_1 34 (by decide), sA_1 34 (by decide), sA_1 34 (by decide), sA_1 34 (by decide)]
      by_cases e : k = A 0 2
      · exact ⟨by rw [if_pos ⟨rfl, e⟩, if_pos e], by rw [if_pos ⟨rfl, e⟩, if_pos e], by rw [if_pos ⟨rfl, e⟩, if_pos e], by rw [if_pos ⟨rfl, e⟩, if_pos e]⟩
      · obtain ⟨n1, n2, n3, n4⟩ := hPC.1.2.2 k (by omega)
        exact ⟨by rw [if_neg (fun c => e c.2), if_neg e]; exact n1, by rw [if_neg (fun c => e c.2), if_neg e]; exact n2, by rw [if_neg (fun c => e c.2), if_neg e]; exact n3, by rw [if_neg (fun c => e c.2), if_neg e]; exact n4⟩
    · rw [sA_1 (23 + e) (by omega), sA_1 (23 + e) (by omega), sA_1 (23 + e) (by omega), sA_1 (23 + e) (by omega), sA_1 (23 + e) (by omega), sA_1 (23 + e) (by omega), sA_1 (23 + e) (by omega)]
      refine hPC.2.1 e t he ht (fun hin => hn ?_)
      have hlt2 := hin.1
      refine ⟨by show e < A 0 2 + 1; omega, ?_, ?_⟩
      · rw [baA_9, if_neg (by omega)]; exact hin.2.1
      · rw [baA_10, if_neg (by omega)]; exact hin.2.2
    · have hk' : k < A 0 2 + 1 := hk
      rw [baA_8, baA_9, baA_10, baA_11]
      rw [sA_1 14 (by decide), sA_1 14 (by decide), sA_1 14 (by decide), sA_1 14 (by decide), sA_1 14 (by decide), sA_g]
      rw [sA_1 15 (by decide), sA_1 15 (by decide), sA_1 15 (by decide), sA_1 15 (by decide), sA_g, sA_1 15 (by decide)]
      rw [sA_1 16 (by decide), sA_1 16 (by decide), sA_1 16 (by decide), sA_g, sA_1 16 (by decide), sA_1 16 (by decide)]
      rw [sA_1 17 (by decide), sA_1 17 (by decide), sA_g, sA_1 17 (by decide), sA_1 17 (by decide), sA_1 17 (by decide)]
      by_cases e : k = A 0 2
      · exact ⟨by rw [if_pos ⟨rfl, e⟩, if_pos e], by rw [if_pos ⟨rfl, e⟩, if_pos e], by rw [if_pos ⟨rfl, e⟩, if_pos e], by rw [if_pos ⟨rfl, e⟩, if_pos e]⟩
      · obtain ⟨n1, n2, n3, n4⟩ := hPN.2 k (by omega)
        exact ⟨by rw [if_neg (fun c => e c.2), if_neg e]; exact n1, by rw [if_neg (fun c => e c.2), if_neg e]; exact n2, by rw [if_neg (fun c => e c.2), if_neg e]; exact n3, by rw [if_neg (fun c => e c.2), if_neg e]; exact n4⟩
  · have e8 : A 0 2 = 8 := by
      have h' : nI (A 0 2) = nI 8 := hfull
      rwa [nI_eq (by omega) (by omega)] at h'
    rintro _ rfl
    exact r_batch hPN.1 hn8 (fun h => absurd h hok) (fun _ _ => ⟨rfl, Rel.no hA 4⟩) (fun h => by omega)

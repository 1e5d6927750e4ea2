/-! PART: both sides -/
theorem r_partB {A : Abs} {N : Mem} (hP : PR A) (hN : PN A N) {a b c : Int32} (hb : a.toInt < 0 ∨ 16 < a.toInt ∨ b.toInt < 0 ∨ (A 0 2 : Int) ≤ b.toInt ∨ c.toInt < 0 ∨ 23 < c.toInt) {post : Int32 → Mem → Prop} (h : post (-1) (sA N 0 0 1)) : qX7_part a b c N post := by
  intro R55 R70 R100 h55 h70 h100
  have h8 := hP.1
  have no : qX7_refuse 1 N (fun r M => post r M) := by
    rintro _ rfl
    exact h
  refine r_isFall (fun f hf ea => b1_e ?_) (fun _ => b0_e no)
  rw [hN.1, Int32.lt_iff_toInt_lt, Int32.le_iff_toInt_le, Int32.toInt_zero, nI_toInt (by omega)]
  refine ⟨fun _ => no, fun p1 => ⟨fun _ => no, fun p2 => r_isHour (fun x hx ec => ?_) (fun _ => b0_n no)⟩⟩
  rw [ea, ec, nI_toInt (by omega), nI_toInt (by omega)] at hb
  omega
theorem r_partG {A : Abs} {N : Mem} (hR : HR A) (hH : HN A N) (hP : PR A) (hN : PN A N) {f b x : Nat} (hf : f ≤ 16) (hb : b < A 0 2) (hx : x < 24) {post : Int32 → Mem → Prop} (h7 : ¬ restA A (stA A f) = 0 → ∀ N', NX N N' → post (-1) (sA N' 0 0 7))
    (h0 : restA A (stA A f) = 0 → ∀ N' v, NE N N' → N'.1 0 0 = 0 → (inW A b x → v = nI (planA A (stA A f) b x)) → (¬ inW A b x → v = 0) → post v N') : qX7_part (nI f) (nI b) (nI x) N post := by
  intro R55 R70 R100 h55 h70 h100
  have h8 := hP.1
  have hl : ∀ y, lfA A (stA A f) y ≤ 1200 := fun y => lfA_le hR _ y
  have hwk := wkA_le hP
  have hrs : restA A (stA A f) ≤ wkA A := by
    unfold restA
    omega
  refine r_isFall (fun f' hf' e => b1_e ?_) (fun hx => absurd hx (nI_off (n := 16) (by omega) (by omega)))
  rw [hN.1, nI_leI (by omega) (by omega)]
  refine ⟨fun c => absurd c (nI_pos (by omega)), fun _ => ⟨fun c => absurd hb (by omega), fun _ => r_isHour (fun x' hx' e => b1_n ?_) (fun hx => absurd hx (nI_off (n := 23) (by omega) (by omega)))⟩⟩
  refine r_layIn hR hH hP hN hf (fun N' rs R hX hQ hS => ⟨fun c => ?_, fun c => ?_⟩)
  · rw [show (0 : Int32) = nI 0 from rfl, nI_leI (by omega) (by omega)] at c
    rintro _ rfl
    refine r_partL hP hl (N := sA N' 0 0 0) (lf := lfA A (stA A f)) ((hN.ne hX.ne).ne (NE.st N' 0)) hb hx hQ (hS (by omega)) h55 h70 h100 (fun N2 v hX2 g1 g2 => ?_)
    refine h0 (by omega) N2 v ((hX.ne.tr (NE.st N' 0)).tr hX2.ne) ?_ g1 g2
    rw [hX2.2 0 (by omega) (by omega), sA_g, if_pos ⟨rfl, rfl⟩]
  · rw [show (0 : Int32) = nI 0 from rfl, nI_leI (by omega) (by omega)] at c
    rintro _ rfl
    exact h7 (by omega) N' hX
theorem hk_part (M N : Mem) (h : Rel M N) (a b c : Int32) : qX6_part a b c M (fun r M => qX7_part a b c N (fun r2 N => r = r2 ∧ Rel M N)) := by
  obtain ⟨_, A, hA⟩ := h
  have hR := hA.2.1
  have hC := hA.2.2.1
  have hN := hA.2.2.2.1
  have hP := hA.2.2.2.2.1
  have hPC := hA.2.2.2.2.2.1
  have hPN := hA.2.2.2.2.2.2.1
  have h8 := hP.1
  have hwk := wkA_le hP
  have no : (a.toInt < 0 ∨ 16 < a.toInt ∨ b.toInt < 0 ∨ (A 0 2 : Int) ≤ b.toInt ∨ c.toInt < 0 ∨ 23 < c.toInt) → qX6_deny 1 M (fun r M => (fun r M => qX7_part a b c N (fun r2 N => r = r2 ∧ Rel M N)) r M) := by
    intro hb
    rintro _ rfl
    exact r_partB hP hPN hb ⟨rfl, Rel.no hA 1⟩
  refine s_isFall (fun f hf ea => b1_e ?_) (fun hx => b0_e (no (by omega)))
  unfold qX3_hasBatch
  rw [hPC.1.1]
  refine s_below (by omega) (fun t ht eb => b1_e (s_isHour (fun x hx ec => b1_n ?_) (fun hx => b0_n (no (by omega))))) (fun hx => b0_e (no (by omega)))
  subst ea eb ec
  have hrs : restA A (stA A f) ≤ wkA A := by
    unfold restA
    omega
  refine s_standing hR hC.1 hf (s_lay hR hC hP hPC (stA_lt A f) (fun M' hX hC' hPC' hL => ?_))
  rw [hL.1, show (0 : Int32) = nI 0 from rfl, nI_leI (by omega) (by omega), nI_clamp (show t < 2 ^ 31 by omega), nI_clamp (show x < 2 ^ 31 by omega)]
  refine ⟨fun c => ⟨vp_in_nI (by omega) (by omega), vp_in_nI (by omega) (by omega), ?_⟩, fun c => ?_⟩
  · have hz : restA A (stA A f) = 0 := by omega
    rintro _ rfl
    refine r_partG hR hN hP hPN hf ht hx (fun e => absurd hz e) (fun _ N' v hE hst g1 g2 => ⟨?_, Rel.ly hA hX hC' hPC' hE hst⟩)
    rcases inW_em A t x with hin | hn
    · rw [g1 hin]
      exact hL.2 hz t x hin
    · rw [g2 hn]
      exact hPC'.2.1 t x (by omega) hx hn
  · rintro _ rfl
    refine r_partG hR hN hP hPN hf ht hx (fun _ N' hX2 => ⟨rfl, Rel.ly hA hX hC' hPC' (hX2.ne.tr (NE.st N' 7)) ?_⟩) (fun e => absurd e (by omega))
    rw [sA_g, if_pos ⟨rfl, rfl⟩]

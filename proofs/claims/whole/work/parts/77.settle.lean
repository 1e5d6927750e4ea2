/-! THE CLASS LAYS BATCHES IN, AND SETTLES THE PLAN -/
def PS (A : Abs) (lf : Nat → Nat) (k S T : Nat) (rs : Nat → Nat) (R : Nat → Nat → Nat) : Prop := STF A lf k (planK A lf k) S T rs R ∧ YK A k (planK A lf k)
theorem plan_outs {A : Abs} (hP : PR A) {lf : Nat → Nat} {S T : Nat} {rs : Nat → Nat} {R : Nat → Nat → Nat} : ∀ d k, k + d ≤ 192 → (∀ j, k ≤ j → j < k + d → ¬ inW A (j / 24) (j % 24)) → PS A lf k S T rs R → PS A lf (k + d) S T rs R
  | 0, _, _, _, h => h
  | d + 1, k, hk, hn, h => by
    have ih := plan_outs hP d k (by omega) (fun j h1 h2 => hn j h1 (by omega)) h
    exact plan_out hP (by omega) (hn (k + d) (by omega) (by omega)) ih.1 ih.2
theorem FM.rm {M : Mem} {R : Nat → Nat → Nat} (h : FM M R) {u v : Nat} (hu : u < 34) (hv : v < 34) : FM (sA (sA M (37 + u) v 0) (37 + v) u 0) (rm R u v) := by
  intro a c ha hc
  rw [sA_g, sA_g]
  unfold CMachineHallLaw_law_r4983_089db2.rm
  by_cases q : (a = u ∧ c = v) ∨ (a = v ∧ c = u)
  · rw [if_pos q]
    by_cases q2 : a = v ∧ c = u
    · rw [if_pos (by omega)]
      rfl
    · rw [if_neg (by omega), if_pos (by omega)]
      rfl
  · rw [if_neg q, if_neg (by omega), if_neg (by omega)]
    exact h a c ha hc
/-- the parts as far as they are settled -/
def DP (A : Abs) (lf : Nat → Nat) (k : Nat) (M : Mem) : Prop := ∀ b h, inW A b h → 24 * b + h < k → M.1 (23 + b) h = nI (planK A lf k (24 * b + h))
theorem s_settle {A : Abs} {M : Mem} {lf : Nat → Nat} {k : Nat} (hP : PR A) (hCB : CB (CG A lf (k + 1) 32 33)) (h35 : M.1 35 0 = 34) (hin : inW A (k / 24) (k % 24)) {rs : Nat → Nat} {R : Nat → Nat → Nat} (hF : FM M R) (hS : PS A lf k 32 33 rs R) {post : Int32 → Mem → Prop}
    (h : ∀ M' rs' R', FX M M' → FM M' R' → PS A lf (k + 1) 32 33 rs' R' → post (nI (planK A lf (k + 1) k)) M') : qX0_settle (nI (k / 24)) (nI (8 + k % 24)) M post := by
  obtain ⟨hb, hw⟩ := inW_lt hP hin
  obtain ⟨⟨hM, hST, h0, hT⟩, hY⟩ := hS
  have hsum := MX.pbh ST1 hM hb hw
  rw [cpK_in hin (by omega)] at hsum
  have hmo := (hP.2 (k / 24) hin.1).2.2.2.2.2
  unfold qX0_settle
  rw [nI_clamp (show k / 24 < 2 ^ 31 by omega), nI_clamp (show 8 + k % 24 < 2 ^ 31 by omega), hF _ _ (show k / 24 < 34 by omega) (show 8 + k % 24 < 34 by omega)]
  refine ⟨vp_in_nI (by omega) (by omega), vp_in_nI (by omega) (by omega), ?_⟩
  rintro _ rfl
  refine ⟨vp_in_nI (by omega) (by omega), vp_in_nI (by omega) (by omega), ?_⟩
  rw [hF _ _ (show 8 + k % 24 < 34 by omega) (show k / 24 < 34 by omega)]
  rintro _ rfl
  refine ⟨vp_in_nI (by omega) (by omega), vp_in_nI (by omega) (by omega), ?_⟩
  rintro _ rfl
  refine ⟨vp_in_nI (by omega) (by omega), vp_in_nI (by omega) (by omega), ?_⟩
  rintro _ rfl
  obtain ⟨rs1, hM1, r1, r2, r3⟩ := rm_MX ST1 hb hw (show k = 24 * (k / 24) + k % 24 by omega) hM
  have hX0 : FX M (sA (sA M (37 + k / 24) (8 + k % 24) 0) (37 + (8 + k % 24)) (k / 24) 0) := ⟨rfl, fun x hx => by rw [sA_1 x (by omega), sA_1 x (by omega)]⟩
  refine s_push hM1 hCB (hF.rm (by omega) (by omega)) (by rw [hX0.2 35 (by omega)]; exact h35) (by omega) (by omega) (by omega) (by omega) (fun M' R' rs' d hX hF' hM' hW hd hc => ?_)
  obtain ⟨e1, e2, e3⟩ := plan_in hP ST1 hin ⟨hM, hST, h0, hT⟩ hY r1 r2 r3 hM' hW hd hc
  rw [nI_add, ← e1]
  exact h M' rs' R' (hX0.tr hX) hF' ⟨e2, e3⟩
theorem CG_CB {A : Abs} (hP : PR A) {lf : Nat → Nat} (hl : ∀ w, lf w ≤ 1200) (k S T : Nat) : CB (CG A lf k S T) := by
  have h1 : ∀ b, wkB A b ≤ 10000 := by
    intro b
    unfold wkB
    by_cases c : b < A 0 2
    · rw [if_pos c]
      exact (hP.2 b c).2.1
    · rw [if_neg c]
      exact Nat.zero_le _
  have h2 : ∀ b w, cpK A k b w ≤ 10000 := by
    intro b w
    unfold cpK
    by_cases c : b < A 0 2 ∧ A 9 b ≤ w ∧ w < A 10 b ∧ k ≤ 24 * b + w
    · rw [if_pos c]
      have := (hP.2 b c.1).2.2.2.2.2
      omega
    · rw [if_neg c]
      exact Nat.zero_le _
  intro u v
  have h3 := hl (v - 8)
  have h4 := hl (u - 8)
  unfold CG mkR
  by_cases c1 : u = S
  · rw [if_pos c1]
    by_cases c2 : v < 8
    · rw [if_pos c2]
      exact h1 v
    · rw [if_neg c2]
      exact Nat.zero_le _
  · rw [if_neg c1]
    by_cases c2 : u = T
    · rw [if_pos c2]
      by_cases c3 : 8 ≤ v ∧ v < 32
      · rw [if_pos c3]
        omega
      · rw [if_neg c3]
        exact Nat.zero_le _
    · rw [if_neg c2]
      by_cases c3 : u < 8
      · rw [if_pos c3]
        by_cases c4 : v = S
        · rw [if_pos c4]
          exact h1 u
        · rw [if_neg c4]
          by_cases c5 : 8 ≤ v ∧ v < 32
          · rw [if_pos c5]
            exact h2 u (v - 8)
          · rw [if_neg c5]
            exact Nat.zero_le _
      · rw [if_neg c3]
        by_cases c4 : v = T
        · rw [if_pos c4]
          omega
        · rw [if_neg c4]
          by_cases c5 : v < 8
          · rw [if_pos c5]
            exact h2 v (u - 8)
          · rw [if_neg c5]
            exact Nat.zero_le _
theorem s_settleParts {A : Abs} {M : Mem} {lf : Nat → Nat} (hP : PR A) (hl : ∀ w, lf w ≤ 1200) (hPC : PC0 A M) (hC : HC A M) (hZ : PZ A M) {rs : Nat → Nat} {R : Nat → Nat → Nat} (hF : FM M R) (hS : PS A lf 0 32 33 rs R) {post : Mem → Prop}
    (h : ∀ M', PF1 M M' → HC A M' → PZ A M' → M'.1 21 = M.1 21 → (∀ b x, inW A b x → M'.1 (23 + b) x = nI (planK A lf 192 (24 * b + x))) → post M') : qX3_settleParts M post := by
  intro R2 R17 h2 h17
  have h8 := hP.1
  -- what is held along the way
  have batch : ∀ b, b ≤ A 0 2 → ∀ M' rs R, PF1 M M' → HC A M' → PZ A M' → M'.1 21 = M.1 21 → FM M' R → PS A lf (24 * b) 32 33 rs R → DP A lf (24 * b) M' → R2 (nI b) M' := by
    refine up_to (fun M' rs R hX hC' hZ' h21 hF' hS' hD => ?_) (fun b hb ih M' rs R hX hC' hZ' h21 hF' hS' hD => ?_)
    · apply h2
      unfold qX3_settleParts_b2
      rw [h21, hPC.1]
      refine ⟨fun _ => h M' hX hC' hZ' h21 (fun b x hin => ?_), fun c => absurd (nI_le (Nat.le_refl _) (by omega)) c⟩
      have hx := inW_lt hP hin
      have hb := hin.1
      rw [hD b x hin (by omega), planK_st (24 * A 0 2) (by omega), planK_st 192 (by omega)]
    · obtain ⟨q1, q2, q3, q4⟩ := hPC.2.2 b hb
      obtain ⟨r1, r2, r3, r4, r5, r6⟩ := hP.2 b hb
      have hours : ∀ x, x ≤ A 10 b → A 9 b ≤ x → ∀ M' rs R, PF1 M M' → HC A M' → PZ A M' → M'.1 21 = M.1 21 → FM M' R → PS A lf (24 * b + x) 32 33 rs R → DP A lf (24 * b + x) M' → R17 (nI b) (nI x) M' := by
        refine up_to (fun _ M' rs R hX hC' hZ' h21 hF' hS' hD => ?_) (fun x hx ih2 hx9 M' rs R hX hC' hZ' h21 hF' hS' hD => ?_)
        · apply h17
          unfold qX3_settleParts_b17
          rw [nI_clamp (show b < 2 ^ 31 by omega), hX.2.1 33 (by omega), q3]
          refine ⟨vp_in_nI (by omega) (by omega), fun _ => ?_, fun c => absurd (nI_le (Nat.le_refl _) (by omega)) c⟩
          rintro _ rfl
          rw [nI_1]
          have hS2 := plan_outs hP (24 - A 10 b) (24 * b + A 10 b) (by omega) (fun j h1 h2 hin => by
            have := hin.2.2
            rw [show j / 24 = b by omega] at this
            omega) hS'
          rw [show 24 * b + A 10 b + (24 - A 10 b) = 24 * (b + 1) by omega] at hS2
          refine ih M' rs R hX hC' hZ' h21 hF' hS2 (fun b' x' hin hlt => ?_)
          have hx' := inW_lt hP hin
          have hlt2 : 24 * b' + x' < 24 * b + A 10 b := by
            by_cases c : b' = b
            · have := hin.2.2
              rw [c] at this
              omega
            · omega
          rw [hD b' x' hin hlt2, planK_st _ hlt2, planK_st _ hlt]
        · have hin : inW A b x := ⟨hb, hx9, hx⟩
          have hk1 : (24 * b + x) / 24 = b := by omega
          have hk2 : (24 * b + x) % 24 = x := by omega
          apply h17
          unfold qX3_settleParts_b17
          rw [nI_clamp (show b < 2 ^ 31 by omega), hX.2.1 33 (by omega), q3, show (8 : Int32) = nI 8 from rfl, nI_add]
          refine ⟨vp_in_nI (by omega) (by omega), fun c => absurd c (nI_ge hx (by omega)), fun _ => ⟨vp_in_nI (by omega) (by omega), ?_⟩⟩
          have hset := s_settle (k := 24 * b + x) (M := M') hP (CG_CB hP hl _ _ _) (by rw [hX.2.1 35 (by omega)]; exact hPC.2.1) (by rw [hk1, hk2]; exact hin) hF' hS' (post := fun r8 M9 => vp_in (nI x) 24 ∧ ∀ M11 : Mem, M11 = sA M9 (23 + b) (nI x).toNatClampNeg r8 → ∀ v12 : Int32, v12 = nI x + 1 → R17 (nI b) v12 M11) (fun M2 rs2 R2' hX2 hF2 hS2 => ?_)
          · rw [hk1, hk2] at hset
            exact hset
          · refine ⟨vp_in_nI (by omega) (by omega), ?_⟩
            rw [nI_clamp (show x < 2 ^ 31 by omega)]
            rintro _ rfl _ rfl
            rw [nI_1]
            have e23 : ∀ q, q < 8 → M2.1 (23 + q) = M'.1 (23 + q) := fun q hq => hX2.2 (23 + q) (by omega)
            refine ih2 (by omega) _ rs2 R2' ((hX.tr hX2.pf).tr (PF1.p23 _ _ _ (by omega))) ((hX2.hc hC').sh (fun k _ _ => sA_1 k (by omega))) (fun b' x' hb' hx' hn => ?_) ?_ (fun u v hu hv => ?_) hS2 (fun b' x' hin' hlt => ?_)
            · rw [sA_g, if_neg (fun c => hn (by rw [show b' = b by omega, c.2]; exact hin)), e23 b' hb']
              exact hZ' b' x' hb' hx' hn
            · rw [sA_1 21 (by omega), hX2.2 21 (by omega)]
              exact h21
            · rw [sA_1 (37 + u) (by omega)]
              exact hF2 u v hu hv
            · have hb8 := inW_lt hP hin'
              rw [sA_g]
              by_cases c : b' = b ∧ x' = x
              · rw [if_pos (by omega), c.1, c.2]
                rfl
              · rw [if_neg (by omega), e23 b' hb8.1, hD b' x' hin' (by omega), planK_st _ (show 24 * b' + x' < 24 * b + x by omega), planK_st _ hlt]
      apply h2
      unfold qX3_settleParts_b2
      rw [h21, hPC.1, nI_clamp (show b < 2 ^ 31 by omega), hX.2.1 32 (by omega), q2]
      refine ⟨fun c => absurd c (nI_ge hb (by omega)), fun _ => ⟨vp_in_nI (by omega) (by omega), ?_⟩⟩
      rintro _ rfl
      have hS2 := plan_outs hP (A 9 b) (24 * b) (by omega) (fun j h1 h2 hin => by
        have := hin.2.1
        rw [show j / 24 = b by omega] at this
        omega) hS'
      refine hours (A 9 b) (by omega) (Nat.le_refl _) M' rs R hX hC' hZ' h21 hF' hS2 (fun b' x' hin hlt => ?_)
      have hx' := inW_lt hP hin
      have hlt2 : 24 * b' + x' < 24 * b := by
        by_cases c : b' = b
        · have := hin.2.1
          rw [c] at this
          omega
        · omega
      rw [hD b' x' hin hlt2, planK_st _ hlt2, planK_st _ hlt]
  exact batch 0 (Nat.zero_le _) M rs R (PF1.rf M) hC hZ rfl hF hS (fun b x _ hlt => absurd hlt (by omega))

/-! THE REFERENCE SETTLES THE PLAN -/
theorem QR.sh {A : Abs} {lf : Nat → Nat} {k k' : Nat} {N : Mem} {R : Nat → Nat → Nat} (hP : PR A) (hk : k ≤ k') (hn : ∀ j, k ≤ j → j < k' → ¬ inW A (j / 24) (j % 24)) (h : QR A lf k (planK A lf k) N R) : QR A lf k' (planK A lf k') N R := by
  refine ⟨h.1, h.2.1, fun b x hb hx => ?_⟩
  obtain ⟨s1, s2⟩ := h.2.2 b x hb hx
  refine ⟨fun c => ?_, fun c => s2 (fun d => c ⟨d.1, by omega⟩)⟩
  have hlt : 24 * b + x < k := by
    rcases Nat.lt_or_ge (24 * b + x) k with q | q
    · exact q
    · refine absurd ?_ (hn (24 * b + x) q c.2)
      rw [show (24 * b + x) / 24 = b by omega, show (24 * b + x) % 24 = x by omega]
      exact c.1
  rw [planK_st k' c.2, ← planK_st k hlt]
  exact s1 ⟨c.1, hlt⟩
theorem r_partL {A : Abs} {N : Mem} {lf : Nat → Nat} (hP : PR A) (hl : ∀ w, lf w ≤ 1200) (hN : PN A N) {f a2 a3 : Nat} (ha : a2 < A 0 2) (hx3 : a3 < 24) {rs : Nat → Nat} {R : Nat → Nat → Nat} (hQ : QR A lf 0 (fun _ => 0) N R) (hS : PS A lf 0 33 32 rs R) {post : Int32 → Mem → Prop} {R55 : Int32 → Mem → Prop} {R70 : Int32 → Int32 → Mem → Prop} {R100 : Int32 → Int32 → Int32 → Mem → Prop}
    (h55 : ∀ x4 M, qX7_part_b55 (nI f) (nI a2) (nI a3) post R55 R70 R100 x4 M → R55 x4 M) (h70 : ∀ x4 x5 M, qX7_part_b70 (nI f) (nI a2) (nI a3) post R55 R70 R100 x4 x5 M → R70 x4 x5 M) (h100 : ∀ x4 x5 x6 M, qX7_part_b100 (nI f) (nI a2) (nI a3) post R55 R70 R100 x4 x5 x6 M → R100 x4 x5 x6 M)
    (h : ∀ N' v, NX N N' → (inW A a2 a3 → v = nI (planK A lf 192 (24 * a2 + a3))) → (¬ inW A a2 a3 → v = 0) → post v N') : R55 0 N := by
  have h8 := hP.1
  have hB := fun k => CG_CB hP hl k 33 32
  have batch : ∀ b, b ≤ a2 + 1 → ∀ N' rs R, NX N N' → QR A lf (24 * b) (planK A lf (24 * b)) N' R → PS A lf (24 * b) 33 32 rs R → R55 (nI b) N' := by
    refine up_to (fun N' rs R hX hQ' hS' => ?_) (fun b hb ih N' rs R hX hQ' hS' => ?_)
    · apply h55
      unfold qX7_part_b55
      rw [show (24 : Int32) = nI 24 from rfl, pk_mul, nI_add, nI_clamp (show 24 * a2 + a3 < 2 ^ 31 by omega)]
      refine ⟨fun _ => ⟨vp_in_nI (by omega) (by omega), ?_⟩, fun c => absurd (nI_lt (show a2 < a2 + 1 by omega) (by omega)) c⟩
      obtain ⟨s1, s2⟩ := hQ'.2.2 a2 a3 ha hx3
      refine h N' _ hX (fun hin => ?_) (fun hn => ?_)
      · rw [(s1 ⟨hin, by omega⟩).2, planK_st _ (show 24 * a2 + a3 < 24 * (a2 + 1) by omega), planK_st 192 (by omega)]
      · rw [(s2 (fun c => hn c.1)).2]
        have e := MX.pbh ST2 hS'.1.1 (show a2 < 8 by omega) hx3
        rw [cpK_out hn] at e
        rw [show R (8 + a3) a2 = 0 by omega]
        rfl
    · have hb2 : b < A 0 2 := by omega
      obtain ⟨r1, r2, r3, r4, r5, r6⟩ := hP.2 b hb2
      have hours : ∀ x, x ≤ A 10 b → A 9 b ≤ x → ∀ N' rs R, NX N N' → QR A lf (24 * b + x) (planK A lf (24 * b + x)) N' R → PS A lf (24 * b + x) 33 32 rs R → R70 (nI b) (nI x) N' := by
        refine up_to (fun _ N' rs R hX hQ' hS' => ?_) (fun x hx ih2 hx9 N' rs R hX hQ' hS' => ?_)
        · apply h70
          unfold qX7_part_b70
          obtain ⟨q1, q2, q3, q4⟩ := (hN.ne hX.ne).2 b hb2
          rw [nI_clamp (show b < 2 ^ 31 by omega), q3]
          refine ⟨vp_in_nI (by omega) (by omega), fun _ => ?_, fun c => absurd (nI_le (Nat.le_refl _) (by omega)) c⟩
          rintro _ rfl
          rw [nI_1]
          have hno : ∀ j, 24 * b + A 10 b ≤ j → j < 24 * (b + 1) → ¬ inW A (j / 24) (j % 24) := fun j h1 h2 hin => by
            have := hin.2.2
            rw [show j / 24 = b by omega] at this
            omega
          have hS2 := plan_outs hP (24 - A 10 b) (24 * b + A 10 b) (by omega) (fun j h1 h2 => hno j h1 (by omega)) hS'
          rw [show 24 * b + A 10 b + (24 - A 10 b) = 24 * (b + 1) by omega] at hS2
          exact ih N' rs R hX (hQ'.sh hP (by omega) hno) hS2
        · have hin : inW A b x := ⟨hb2, hx9, hx⟩
          have hk1 : (24 * b + x) / 24 = b := by omega
          have hk2 : (24 * b + x) % 24 = x := by omega
          have hx24 : x < 24 := by omega
          obtain ⟨q1, q2, q3, q4⟩ := (hN.ne hX.ne).2 b hb2
          obtain ⟨⟨hM, hST, h0, hT⟩, hY⟩ := hS'
          have hsum := MX.pbh ST2 hM (show b < 8 by omega) hx24
          rw [cpK_in hin (Nat.le_refl _)] at hsum
          obtain ⟨rs1, hM1, g1, g2, g3⟩ := rm_MX ST2 (show b < 8 by omega) hx24 rfl hM
          -- the part is settled at p more than flows
          have next : ∀ p N' rs' R', NX N N' → MX (CG A lf (24 * b + x + 1) 33 32) rs' R' → RW rs1 rs' (8 + x) b p → QR A lf (24 * b + x + 1) (uN (planK A lf (24 * b + x)) (24 * b + x) (R (8 + x) b + p)) N' R' → p ≤ R b (8 + x) → (p = R b (8 + x) ∨ CUT R' (8 + x) b) → R70 (nI b) (nI (x + 1)) N' := by
            intro p N' rs' R' hX hM' hW hQ2 hp hc
            have key := plan_in (k := 24 * b + x) (rs := rs) (rs1 := rs1) (rs2 := rs') (R := R) (R2 := R') (p := p) hP ST2 (by rw [hk1, hk2]; exact hin) ⟨hM, hST, h0, hT⟩ hY (by rw [hk1, hk2]; exact g1) (by rw [hk1, hk2]; exact g2) (fun u hu h1 h2 => by rw [hk1] at h1; rw [hk2] at h2; exact g3 u hu h1 h2) hM' (by rw [hk1, hk2]; exact hW) (by rw [hk1, hk2]; exact hp) (by rw [hk1, hk2]; exact hc)
            obtain ⟨e1, e2, e3⟩ := key
            rw [hk1, hk2] at e1
            have eY : uN (planK A lf (24 * b + x)) (24 * b + x) (R (8 + x) b + p) = planK A lf (24 * b + x + 1) := by
              funext j
              unfold uN
              by_cases c : j = 24 * b + x
              · rw [if_pos c, c, e1]
              · rw [if_neg c, planK_s, if_neg c]
            rw [eY] at hQ2
            exact ih2 (by omega) N' rs' R' hX hQ2 ⟨e2, e3⟩
          have loop : ∀ e p, p + e = R b (8 + x) → ∀ N' rs' R', NX N N' → MX (CG A lf (24 * b + x + 1) 33 32) rs' R' → RW rs1 rs' (8 + x) b p → QR A lf (24 * b + x + 1) (uN (planK A lf (24 * b + x)) (24 * b + x) (R (8 + x) b + p)) N' R' → R100 (nI b) (nI x) (nI (24 * b + x)) N' := by
            intro e
            induction e using Nat.strongRecOn with
            | ind e ihe =>
              intro p hp N' rs' R' hX hM' hW hQ2
              obtain ⟨w1, w2, w3, w4⟩ := (hN.ne hX.ne).2 b hb2
              have hpt : ∀ N', QR A lf (24 * b + x + 1) (uN (planK A lf (24 * b + x)) (24 * b + x) (R (8 + x) b + p)) N' R' → N'.1 18 (24 * b + x) = nI (R (8 + x) b + p) := by
                intro N' hQ2
                rw [((hQ2.2.2 b x hb2 hx24).1 ⟨hin, by omega⟩).2]
                unfold uN
                rw [if_pos rfl]
              have hpt' := hpt N' hQ2
              apply h100
              unfold qX7_part_b100
              rw [nI_clamp (show 24 * b + x < 2 ^ 31 by omega), nI_clamp (show b < 2 ^ 31 by omega), w4, hpt', nI_leI (by omega) (by omega)]
              refine ⟨vp_in_nI (by omega) (by omega), vp_in_nI (by omega) (by omega), fun c => ?_, fun c => ?_⟩
              · rintro _ rfl
                rw [nI_1]
                exact next p N' rs' R' hX hM' hW hQ2 (by omega) (Or.inl (by omega))
              · rw [show (8 : Int32) = nI 8 from rfl, nI_add]
                refine r_isWay hP hl (hN.ne hX.ne) hM' hQ2 (show 8 + x < 34 by omega) (show b < 34 by omega) (by omega) (fun N2 Z hX2 hz hs ht => ⟨fun _ => ?_, fun c => absurd rfl c⟩) (fun N2 n q j hX2 hBS hj ej => ⟨fun c => absurd c (by decide), fun _ => ?_⟩)
                · rintro _ rfl
                  rw [nI_1]
                  have e33 := hW 33 (by omega)
                  rw [if_neg (by omega), if_neg (by omega), g3 33 (by omega) (by omega) (by omega), h0] at e33
                  exact next p N2 rs' R' (hX.tr hX2.qx.nx) hM' hW (hX2.qr hQ2) (by omega) (Or.inr (gR_cut hM' hz hs ht (by omega) (Or.inr (by omega))))
                · obtain ⟨L, pw, hw, hL, _, hc⟩ := hBS.way j hj
                  rw [ej] at hw
                  have hX2' := hX.tr hX2.qx.nx
                  obtain ⟨y1, y2, y3, y4⟩ := (hN.ne hX2'.ne).2 b hb2
                  rw [y4, hpt N2 (hX2.qr hQ2), pk_sub (by omega)]
                  refine ⟨vp_in_nI (by omega) (by omega), vp_in_nI (by omega) (by omega), ?_⟩
                  refine r_goAlong hP hl (hN.ne hX2'.ne) hM' (hX2.qr hQ2) hw hc (by omega) (by omega) (fun N3 d3 z1 z2 z3 hX3 hQ3 => ?_)
                  refine ⟨vp_in_nI (by omega) (by omega), vp_in_nI (by omega) (by omega), ?_⟩
                  have e18 : N3.1 18 (24 * b + x) = nI (R (8 + x) b + p) := by
                    rw [((hQ3.2.2 b x hb2 hx24).1 ⟨hin, by omega⟩).2]
                    unfold uN
                    rw [if_pos rfl]
                  rw [e18, nI_add]
                  rintro _ rfl
                  obtain ⟨rs3, hM3, hW3⟩ := gone_MX hw.g z3 hM'
                  refine ihe (e - d3) (by omega) (p + d3) (by omega) _ rs3 _ ((hX2'.tr hX3.nx).p _ _ (by omega)) hM3 (hW.tr hW3) ⟨fun c hc => ?_, fun y hy => ?_, fun c y hc hy => ?_⟩
                  · rw [sA_1 21 (by omega)]
                    exact hQ3.1 c hc
                  · rw [sA_1 19 (by omega), sA_1 20 (by omega)]
                    exact hQ3.2.1 y hy
                  · rw [sA_1 22 (by omega), sA_g]
                    obtain ⟨s1, s2⟩ := hQ3.2.2 c y hc hy
                    by_cases e : 24 * c + y = 24 * b + x
                    · rw [if_pos ⟨rfl, e⟩]
                      have ec : c = b := by omega
                      have ey : y = x := by omega
                      refine ⟨fun d => ⟨(s1 d).1, ?_⟩, fun d => absurd ⟨by rw [ec, ey]; exact hin, by omega⟩ d⟩
                      unfold uN
                      rw [if_pos e, Nat.add_assoc]
                    · rw [if_neg (fun d => e d.2)]
                      refine ⟨fun d => ⟨(s1 d).1, ?_⟩, s2⟩
                      rw [(s1 d).2]
                      unfold uN
                      rw [if_neg e, if_neg e]
          apply h70
          unfold qX7_part_b70
          rw [nI_clamp (show b < 2 ^ 31 by omega), q3, show (24 : Int32) = nI 24 from rfl, pk_mul, nI_add]
          refine ⟨vp_in_nI (by omega) (by omega), fun c => absurd c (nI_ge hx (by omega)), fun _ => ?_⟩
          rintro _ rfl
          rw [nI_clamp (show 24 * b + x < 2 ^ 31 by omega)]
          refine ⟨vp_in_nI (by omega) (by omega), ?_⟩
          rintro _ rfl
          refine loop (R b (8 + x)) 0 (by omega) _ rs1 (rm R b (8 + x)) (hX.p _ _ (by omega)) hM1 (RW.rf _ _ _) ⟨fun c hc => ?_, fun y hy => ?_, fun c y hc hy => ?_⟩
          · rw [sA_1 21 (by omega), hQ'.1 c hc]
            unfold rm
            rw [if_neg (by omega)]
          · rw [sA_1 19 (by omega), sA_1 20 (by omega)]
            unfold rm
            rw [if_neg (by omega)]
            exact hQ'.2.1 y hy
          · rw [sA_1 18 (by omega), sA_g]
            obtain ⟨s1, s2⟩ := hQ'.2.2 c y hc hy
            unfold uN rm
            by_cases e : 24 * c + y = 24 * b + x
            · have ec : c = b := by omega
              have ey : y = x := by omega
              rw [if_pos ⟨rfl, e⟩, if_pos e, (s2 (fun d => by omega)).2, ec, ey]
              exact ⟨fun _ => ⟨rfl, rfl⟩, fun d => absurd ⟨hin, by omega⟩ d⟩
            · rw [if_neg (fun d => e d.2), if_neg e, if_neg (by omega)]
              exact ⟨fun d => s1 ⟨d.1, by omega⟩, fun d => s2 (fun d2 => d ⟨d2.1, by omega⟩)⟩
      apply h55
      unfold qX7_part_b55
      obtain ⟨q1, q2, q3, q4⟩ := (hN.ne hX.ne).2 b hb2
      rw [nI_clamp (show b < 2 ^ 31 by omega), q2, nI_ltI (by omega) (by omega)]
      refine ⟨fun c => absurd c (by omega), fun _ => ⟨vp_in_nI (by omega) (by omega), ?_⟩⟩
      rintro _ rfl
      have hno : ∀ j, 24 * b ≤ j → j < 24 * b + A 9 b → ¬ inW A (j / 24) (j % 24) := fun j h1 h2 hin => by
        have := hin.2.1
        rw [show j / 24 = b by omega] at this
        omega
      have hS2 := plan_outs hP (A 9 b) (24 * b) (by omega) hno hS'
      exact hours (A 9 b) (by omega) (Nat.le_refl _) N' rs R hX (hQ'.sh hP (by omega) hno) hS2
  exact batch 0 (Nat.zero_le _) N rs R (NX.rf N) hQ hS

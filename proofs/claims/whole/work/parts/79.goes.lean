/-! FLOWS: the reference's graph, told by its rows -/
def gR (R : Nat → Nat → Nat) (u v : Nat) : Nat := if v = 33 then 0 else R u v
def QR (A : Abs) (lf : Nat → Nat) (k : Nat) (Y : Nat → Nat) (N : Mem) (R : Nat → Nat → Nat) : Prop := (∀ b, b < A 0 2 → N.1 21 b = nI (R b 33)) ∧ (∀ h, h < 24 → N.1 19 h = nI (lf h) ∧ N.1 20 h = nI (R 32 (8 + h))) ∧ ∀ b h, b < A 0 2 → h < 24 → (inW A b h ∧ 24 * b + h < k → N.1 22 (24 * b + h) = 1 ∧ N.1 18 (24 * b + h) = nI (Y (24 * b + h))) ∧ (¬ (inW A b h ∧ 24 * b + h < k) → N.1 22 (24 * b + h) = 0 ∧ N.1 18 (24 * b + h) = nI (R (8 + h) b))
theorem pix {b h : Nat} : (24 : Int32) * nI b + nI (8 + h) - (8 : Int32) = nI (24 * b + h) := by
  rw [show (24 : Int32) = nI 24 from rfl, show (8 : Int32) = nI 8 from rfl, pk_mul, nI_add, pk_sub (by omega), show 24 * b + (8 + h) - 8 = 24 * b + h by omega]
theorem hix {h : Nat} : nI (8 + h) - (8 : Int32) = nI h := by
  rw [show (8 : Int32) = nI 8 from rfl, pk_sub (by omega), show 8 + h - 8 = h by omega]
theorem r_isIn {A : Abs} {N : Mem} (hP : PR A) (hN : PN A N) {b h : Nat} (hb : b < A 0 2) (hh : h < 24) {post : Int32 → Mem → Prop} (h1 : inW A b h → post 1 N) (h0 : ¬ inW A b h → post 0 N) : qX7_isIn (nI b) (nI h) N post := by
  obtain ⟨n1, n2, n3, n4⟩ := hN.2 b hb
  obtain ⟨r1, r2, r3, r4, r5, r6⟩ := hP.2 b hb
  have h8 := hP.1
  unfold qX7_isIn
  rw [nI_clamp (show b < 2 ^ 31 by omega), n2, n3, nI_ltI (by omega) (by omega), nI_leI (by omega) (by omega)]
  refine ⟨vp_in_nI (by omega) (by omega), fun c => h0 (fun d => by have := d.2.1; omega), fun c => ⟨vp_in_nI (by omega) (by omega), fun d => h0 (fun e => by have := e.2.2; omega), fun d => h1 ⟨hb, by omega, by omega⟩⟩⟩
theorem r_goes {A : Abs} {lf : Nat → Nat} {k : Nat} {Y : Nat → Nat} {N : Mem} {R : Nat → Nat → Nat} {rs : Nat → Nat} (hP : PR A) (hl : ∀ w, lf w ≤ 1200) (hN : PN A N) (hM : MX (CG A lf k 33 32) rs R) (hQ : QR A lf k Y N R) {u v : Nat} (hu : u < 34) (hv : v < 34) {post : Int32 → Mem → Prop} (h : post (nI (gR R u v)) N) : qX7_goes (nI u) (nI v) N post := by
  intro R121 R183 R221 h121 h183 h221
  have h8 := hP.1
  have c8 : (8 : Int32) = nI 8 := rfl
  have c32 : (32 : Int32) = nI 32 := rfl
  have c33 : (33 : Int32) = nI 33 := rfl
  have cz : (0 : Int32) = nI 0 := rfl
  have zero : gR R u v = 0 → post 0 N := fun e => by rw [e] at h; exact h
  have Cz : CG A lf k 33 32 u v = 0 → post 0 N := fun e => zero (by
    unfold gR
    by_cases c : v = 33
    · rw [if_pos c]
    · rw [if_neg c]
      exact hM.z hu hv e)
  have fall221 : u ≠ 32 → post 0 N → R221 N := by
    intro hne hp
    apply h221
    refine ⟨fun _ => hp, fun e => absurd (nI_is (k := 32) (by omega) (by omega) e) hne⟩
  have g : v ≠ 33 → post (nI (R u v)) N := by
    intro hne
    unfold gR at h
    rw [if_neg hne] at h
    exact h
  by_cases e33 : u = 33
  · subst e33
    refine ⟨fun c => absurd rfl c, fun _ => ?_⟩
    rw [hN.1, nI_leI (by omega) (by omega)]
    refine ⟨fun c => Cz ?_, fun c => ⟨vp_in_nI (by omega) (by omega), vp_in_nI (by omega) (by omega), ?_⟩⟩
    · unfold CG
      by_cases c2 : v < 8
      · rw [mk_Sb c2]
        exact if_neg (by omega)
      · exact mk_So (by omega)
    · have e := MX.psb ST2 hM (show v < 8 by omega)
      rw [show wkB A v = A 8 v from if_pos (by omega)] at e
      rw [nI_clamp (show v < 2 ^ 31 by omega), (hN.2 v (by omega)).1, hQ.1 v (by omega), pk_sub (by omega), show A 8 v - R v 33 = R 33 v by omega]
      exact g (by omega)
  · refine ⟨fun _ => ⟨fun hv33 => ?_, fun e => zero ?_⟩, fun e => absurd (nI_is (k := 33) (by omega) (by omega) e) e33⟩
    · have hv33' : v ≠ 33 := fun e => hv33 (by rw [e]; rfl)
      rw [c8, c32, nI_leI (by omega) (by omega)]
      refine ⟨fun hu8 => ?_, fun hu8 => ?_⟩
      · -- from an hour, or from the end
        apply h121
        unfold qX7_goes_b121
        rw [c8, c32, nI_ltI (by omega) (by omega), nI_leI (by omega) (by omega), nI_leI (by omega) (by omega)]
        refine ⟨fun c => absurd c (by omega), fun _ => ⟨fun c32u => ?_, fun c32u => ?_⟩⟩
        · have eu : u = 32 := by omega
          subst eu
          apply h183
          unfold qX7_goes_b183
          rw [c8, c32, nI_ltI (by omega) (by omega), nI_leI (by omega) (by omega)]
          refine ⟨fun c => absurd c (by omega), fun _ => ⟨fun _ => ?_, fun c => absurd (Nat.le_refl _) c⟩⟩
          apply h221
          unfold qX7_goes_b221
          rw [c8, c32, nI_ltI (by omega) (by omega), nI_leI (by omega) (by omega)]
          refine ⟨fun c => absurd rfl c, fun _ => ⟨fun c => Cz (mk_To ST2 (by omega)), fun c => ⟨fun c2 => Cz (mk_To ST2 (by omega)), fun c2 => ?_⟩⟩⟩
          obtain ⟨x, rfl⟩ : ∃ x, v = 8 + x := ⟨v - 8, by omega⟩
          rw [show nI (8 + x) - nI 8 = nI x from hix, nI_clamp (show x < 2 ^ 31 by omega), (hQ.2.1 x (by omega)).2]
          exact ⟨vp_in_nI (by omega) (by omega), g hv33'⟩
        · obtain ⟨x, rfl⟩ : ∃ x, u = 8 + x := ⟨u - 8, by omega⟩
          refine ⟨fun c => ?_, fun c => ?_⟩
          · -- not to a batch
            apply h183
            unfold qX7_goes_b183
            rw [c8, c32, nI_ltI (by omega) (by omega), nI_leI (by omega) (by omega)]
            refine ⟨fun c2 => absurd c2 (by omega), fun _ => ⟨fun c2 => absurd c2 (by omega), fun _ => ⟨fun c2 => fall221 (by omega) (Cz (mk_ho ST2 (by omega) (by omega) (fun e => c2 (by rw [e])))), fun c2 => ?_⟩⟩⟩
            have ev := nI_is (by omega) (by omega) c2
            subst ev
            have e := MX.pht ST2 hM (show x < 24 by omega)
            have hlx := hl x
            rw [show nI (8 + x) - nI 8 = nI x from hix, nI_clamp (show x < 2 ^ 31 by omega), (hQ.2.1 x (by omega)).1, (hQ.2.1 x (by omega)).2, pk_sub (by omega), show lf x - R 32 (8 + x) = R (8 + x) 32 by omega]
            exact ⟨vp_in_nI (by omega) (by omega), vp_in_nI (by omega) (by omega), g hv33'⟩
          · rw [hN.1, nI_leI (by omega) (by omega)]
            refine ⟨fun c2 => Cz ?_, fun c2 => ?_⟩
            · unfold CG
              rw [mk_hb ST2 (by omega) (by omega)]
              exact cpK_out (fun d => by have := d.1; omega)
            · rw [show (24 : Int32) * nI v + nI (8 + x) - nI 8 = nI (24 * v + x) from pix, nI_clamp (show 24 * v + x < 2 ^ 31 by omega)]
              obtain ⟨q1, q2⟩ := hQ.2.2 v x (by omega) (by omega)
              refine ⟨vp_in_nI (by omega) (by omega), fun c3 => Cz ?_, fun c3 => ⟨vp_in_nI (by omega) (by omega), ?_⟩⟩
              · unfold CG
                rw [mk_hb ST2 (by omega) (by omega)]
                by_cases c4 : inW A v x ∧ 24 * v + x < k
                · exact cpK_lt c4.2
                · exact absurd (q2 c4).1 c3
              · by_cases c4 : inW A v x ∧ 24 * v + x < k
                · rw [(q1 c4).1] at c3
                  exact absurd c3 (by decide)
                · rw [(q2 c4).2]
                  exact g hv33'
      · -- from a batch
        have fall : post 0 N → R121 N := by
          intro hp
          apply h121
          unfold qX7_goes_b121
          rw [c8, nI_ltI (by omega) (by omega)]
          refine ⟨fun _ => ?_, fun c => absurd hu8 (by omega)⟩
          apply h183
          unfold qX7_goes_b183
          rw [c8, nI_ltI (by omega) (by omega)]
          exact ⟨fun _ => fall221 (by omega) hp, fun c => absurd hu8 (by omega)⟩
        rw [nI_ltI (by omega) (by omega), nI_leI (by omega) (by omega)]
        refine ⟨fun c => fall (Cz (mk_bo ST2 (by omega) (by omega))), fun c => ⟨fun c2 => fall (Cz (mk_bo ST2 (by omega) (by omega))), fun c2 => ?_⟩⟩
        obtain ⟨x, rfl⟩ : ∃ x, v = 8 + x := ⟨v - 8, by omega⟩
        have Cb : cpK A k u x = 0 → post 0 N := fun e => Cz (by
          unfold CG
          rw [mk_bh ST2 (by omega) (by omega)]
          exact e)
        rw [hN.1, nI_leI (by omega) (by omega)]
        refine ⟨fun c3 => Cb (cpK_out (fun d => by have := d.1; omega)), fun c3 => ?_⟩
        rw [show nI (8 + x) - nI 8 = nI x from hix]
        refine r_isIn hP hN (show u < A 0 2 by omega) (show x < 24 by omega) (fun hin => b1_e ?_) (fun hin => b0_e (Cb (cpK_out hin)))
        rw [show (24 : Int32) * nI u + nI (8 + x) - nI 8 = nI (24 * u + x) from pix, nI_clamp (show 24 * u + x < 2 ^ 31 by omega)]
        obtain ⟨q1, q2⟩ := hQ.2.2 u x (by omega) (by omega)
        refine ⟨vp_in_nI (by omega) (by omega), fun c4 => Cb ?_, fun c4 => ⟨vp_in_nI (by omega) (by omega), vp_in_nI (by omega) (by omega), ?_⟩⟩
        · by_cases c5 : inW A u x ∧ 24 * u + x < k
          · exact cpK_lt c5.2
          · exact absurd (q2 c5).1 c4
        · by_cases c5 : inW A u x ∧ 24 * u + x < k
          · rw [(q1 c5).1] at c4
            exact absurd c4 (by decide)
          · have e := MX.pbh ST2 hM (show u < 8 by omega) (show x < 24 by omega)
            rw [cpK_in hin (by have : ¬ 24 * u + x < k := fun d => c5 ⟨hin, d⟩; omega)] at e
            have hmo := (hP.2 u (by omega)).2.2.2.2.2
            rw [(q2 c5).2, nI_clamp (show u < 2 ^ 31 by omega), (hN.2 u (by omega)).2.2.2, pk_sub (by omega), show A 11 u - R (8 + x) u = R u (8 + x) by omega]
            exact g hv33'
    · have e := nI_is (k := 33) (by omega) (by omega) e
      unfold gR
      rw [if_pos e]
/-- the reference's flow rows alone -/
def QX (N N' : Mem) : Prop := N'.2 = N.2 ∧ ∀ k, (k < 18 ∨ 25 < k) → N'.1 k = N.1 k
theorem QX.rf (N : Mem) : QX N N := ⟨rfl, fun _ _ => rfl⟩
theorem QX.tr {M M' M2 : Mem} (h : QX M M') (k : QX M' M2) : QX M M2 := ⟨k.1.trans h.1, fun a b => (k.2 a b).trans (h.2 a b)⟩
theorem QX.p (N : Mem) {k : Nat} (j : Nat) (v : Int32) (h : 18 ≤ k ∧ k ≤ 25) : QX N (sA N k j v) := ⟨rfl, fun x hx => sA_1 x (by omega)⟩
theorem QX.pn {A : Abs} {N N' : Mem} (h : QX N N') (hN : PN A N) : PN A N' := hN.fr (PE.rf A) (by rw [h.2 0 (by omega)]) (fun k _ _ => h.2 k (by omega))
theorem r_moves {A : Abs} {lf : Nat → Nat} {k : Nat} {Y : Nat → Nat} {N : Mem} {R : Nat → Nat → Nat} {rs : Nat → Nat} (hP : PR A) (hM : MX (CG A lf k 33 32) rs R) (hQ : QR A lf k Y N R) {u v d : Nat} (hu : u < 34) (hv : v < 34) (hg : 0 < gR R u v) (hd : d ≤ R u v) (hd2 : d < 2 ^ 31) {post : Mem → Prop} (h : ∀ N', QX N N' → N'.1 23 = N.1 23 → QR A lf k Y N' (up2 R u v d) → post N') : qX7_moves (nI u) (nI v) (nI d) N post := by
  have h8 := hP.1
  have c8 : (8 : Int32) = nI 8 := rfl
  have hne : v ≠ 33 := by
    intro e
    unfold gR at hg
    rw [if_pos e] at hg
    omega
  have hgR : 0 < R u v := by
    unfold gR at hg
    rw [if_neg hne] at hg
    exact hg
  have hC : 0 < CG A lf k 33 32 u v := by
    have := hM.1 u v hu hv
    omega
  obtain ⟨p1, p2, p3⟩ := hQ
  by_cases e33 : u = 33
  · subst e33
    refine ⟨fun c => absurd rfl c, fun _ => ?_⟩
    have hv8 : v < 8 := by
      rcases Nat.lt_or_ge v 8 with c | c
      · exact c
      · unfold CG at hC
        rw [mk_So (by omega)] at hC
        omega
    have hvn : v < A 0 2 := by
      rcases Nat.lt_or_ge v (A 0 2) with c | c
      · exact c
      · unfold CG at hC
        rw [mk_Sb hv8, show wkB A v = 0 from if_neg (by omega)] at hC
        omega
    rw [nI_clamp (show v < 2 ^ 31 by omega), p1 v hvn, nI_add]
    refine ⟨vp_in_nI (by omega) (by omega), vp_in_nI (by omega) (by omega), ?_⟩
    rintro _ rfl
    refine h _ (QX.p N v _ (by omega)) (sA_1 23 (by omega)) ⟨fun b hb => ?_, fun x hx => ?_, fun b x hb hx => ?_⟩
    · rw [sA_g]
      unfold up2
      by_cases c : b = v
      · rw [if_pos ⟨rfl, c⟩, if_neg (by omega), if_pos ⟨c, rfl⟩]
      · rw [if_neg (by omega), if_neg (by omega), if_neg (by omega)]
        exact p1 b hb
    · rw [sA_1 19 (by omega), sA_1 20 (by omega)]
      unfold up2
      rw [if_neg (by omega), if_neg (by omega)]
      exact p2 x hx
    · rw [sA_1 22 (by omega), sA_1 18 (by omega)]
      unfold up2
      rw [if_neg (by omega), if_neg (by omega)]
      exact p3 b x hb hx
  · refine ⟨fun _ => ?_, fun e => absurd (nI_is (k := 33) (by omega) (by omega) e) e33⟩
    rw [c8, nI_leI (by omega) (by omega), nI_leI (by omega) (by omega)]
    refine ⟨fun hu8 => ⟨fun hv8 => ⟨fun hv32 => ?_, fun hv32 => ?_⟩, fun hv8 => ?_⟩, fun hu8 => ?_⟩
    · -- from the end to an hour
      have hv32' : v ≠ 32 := fun e => hv32 (by rw [e]; rfl)
      have eu : u = 32 := by
        by_cases c : u = 32
        · exact c
        · obtain ⟨x, rfl⟩ : ∃ x, u = 8 + x := ⟨u - 8, by omega⟩
          unfold CG at hC
          rw [mk_ho ST2 (by omega) (by omega) hv32'] at hC
          omega
      subst eu
      obtain ⟨x, rfl⟩ : ∃ x, v = 8 + x := ⟨v - 8, by omega⟩
      rw [show nI (8 + x) - nI 8 = nI x from hix, nI_clamp (show x < 2 ^ 31 by omega), (p2 x (by omega)).2, pk_sub hd]
      refine ⟨vp_in_nI (by omega) (by omega), vp_in_nI (by omega) (by omega), ?_⟩
      rintro _ rfl
      refine h _ (QX.p N x _ (by omega)) (sA_1 23 (by omega)) ⟨fun b hb => ?_, fun y hy => ?_, fun b y hb hy => ?_⟩
      · rw [sA_1 21 (by omega)]
        unfold up2
        rw [if_neg (by omega), if_neg (by omega)]
        exact p1 b hb
      · rw [sA_1 19 (by omega), sA_g]
        unfold up2
        by_cases c : y = x
        · rw [if_pos ⟨rfl, c⟩, if_pos ⟨rfl, by omega⟩, c]
          exact ⟨(p2 x (by omega)).1, rfl⟩
        · rw [if_neg (by omega), if_neg (by omega), if_neg (by omega)]
          exact p2 y hy
      · rw [sA_1 22 (by omega), sA_1 18 (by omega)]
        unfold up2
        rw [if_neg (by omega), if_neg (by omega)]
        exact p3 b y hb hy
    · -- from an hour to the end
      have ev := nI_is (k := 32) (by omega) (by omega) hv32
      subst ev
      have hu32 : u < 32 := by
        rcases Nat.lt_or_ge u 32 with c | c
        · exact c
        · rw [show u = 32 by omega] at hC
          unfold CG at hC
          rw [mk_To ST2 (by omega)] at hC
          omega
      obtain ⟨x, rfl⟩ : ∃ x, u = 8 + x := ⟨u - 8, by omega⟩
      rw [show nI (8 + x) - nI 8 = nI x from hix, nI_clamp (show x < 2 ^ 31 by omega), (p2 x (by omega)).2, nI_add]
      refine ⟨vp_in_nI (by omega) (by omega), vp_in_nI (by omega) (by omega), ?_⟩
      rintro _ rfl
      refine h _ (QX.p N x _ (by omega)) (sA_1 23 (by omega)) ⟨fun b hb => ?_, fun y hy => ?_, fun b y hb hy => ?_⟩
      · rw [sA_1 21 (by omega)]
        unfold up2
        rw [if_neg (by omega), if_neg (by omega)]
        exact p1 b hb
      · rw [sA_1 19 (by omega), sA_g]
        unfold up2
        by_cases c : y = x
        · rw [if_pos ⟨rfl, c⟩, if_neg (by omega), if_pos ⟨rfl, by omega⟩, c]
          exact ⟨(p2 x (by omega)).1, rfl⟩
        · rw [if_neg (by omega), if_neg (by omega), if_neg (by omega)]
          exact p2 y hy
      · rw [sA_1 22 (by omega), sA_1 18 (by omega)]
        unfold up2
        rw [if_neg (by omega), if_neg (by omega)]
        exact p3 b y hb hy
    · -- from an hour to a batch
      have hu32 : u < 32 := by
        rcases Nat.lt_or_ge u 32 with c | c
        · exact c
        · rw [show u = 32 by omega] at hC
          unfold CG at hC
          rw [mk_To ST2 (by omega)] at hC
          omega
      obtain ⟨x, rfl⟩ : ∃ x, u = 8 + x := ⟨u - 8, by omega⟩
      have hcp : 0 < cpK A k v x := by
        unfold CG at hC
        rw [mk_hb ST2 (by omega) (by omega)] at hC
        exact hC
      have hk : inW A v x ∧ k ≤ 24 * v + x := by
        unfold cpK at hcp
        by_cases c : v < A 0 2 ∧ A 9 v ≤ x ∧ x < A 10 v ∧ k ≤ 24 * v + x
        · exact ⟨⟨c.1, c.2.1, c.2.2.1⟩, c.2.2.2⟩
        · rw [if_neg c] at hcp
          omega
      have q := (p3 v x hk.1.1 (by omega)).2 (by omega)
      rw [show (24 : Int32) * nI v + nI (8 + x) - nI 8 = nI (24 * v + x) from pix, nI_clamp (show 24 * v + x < 2 ^ 31 by omega), q.2, pk_sub hd]
      refine ⟨vp_in_nI (by omega) (by omega), vp_in_nI (by omega) (by omega), ?_⟩
      rintro _ rfl
      refine h _ (QX.p N _ _ (by omega)) (sA_1 23 (by omega)) ⟨fun b hb => ?_, fun y hy => ?_, fun b y hb hy => ?_⟩
      · rw [sA_1 21 (by omega)]
        unfold up2
        rw [if_neg (by omega), if_neg (by omega)]
        exact p1 b hb
      · rw [sA_1 19 (by omega), sA_1 20 (by omega)]
        unfold up2
        rw [if_neg (by omega), if_neg (by omega)]
        exact p2 y hy
      · rw [sA_1 22 (by omega), sA_g]
        obtain ⟨s1, s2⟩ := p3 b y hb hy
        refine ⟨fun c => ?_, fun c => ?_⟩
        · rw [if_neg (by omega)]
          exact s1 c
        · unfold up2
          by_cases c2 : 24 * b + y = 24 * v + x
          · rw [if_pos ⟨rfl, c2⟩, if_pos ⟨by omega, by omega⟩]
            exact ⟨(s2 c).1, rfl⟩
          · rw [if_neg (by omega), if_neg (by omega), if_neg (by omega)]
            exact s2 c
    · -- from a batch to an hour
      have hv8 : 8 ≤ v ∧ v < 32 := by
        by_cases c : v < 8 ∨ v = 32
        · unfold CG at hC
          rw [mk_bo ST2 (by omega) c] at hC
          omega
        · omega
      obtain ⟨x, rfl⟩ : ∃ x, v = 8 + x := ⟨v - 8, by omega⟩
      have hcp : 0 < cpK A k u x := by
        unfold CG at hC
        rw [mk_bh ST2 (by omega) (by omega)] at hC
        exact hC
      have hk : inW A u x ∧ k ≤ 24 * u + x := by
        unfold cpK at hcp
        by_cases c : u < A 0 2 ∧ A 9 u ≤ x ∧ x < A 10 u ∧ k ≤ 24 * u + x
        · exact ⟨⟨c.1, c.2.1, c.2.2.1⟩, c.2.2.2⟩
        · rw [if_neg c] at hcp
          omega
      have q := (p3 u x hk.1.1 (by omega)).2 (by omega)
      rw [show (24 : Int32) * nI u + nI (8 + x) - nI 8 = nI (24 * u + x) from pix, nI_clamp (show 24 * u + x < 2 ^ 31 by omega), q.2, nI_add]
      refine ⟨vp_in_nI (by omega) (by omega), vp_in_nI (by omega) (by omega), ?_⟩
      rintro _ rfl
      refine h _ (QX.p N _ _ (by omega)) (sA_1 23 (by omega)) ⟨fun b hb => ?_, fun y hy => ?_, fun b y hb hy => ?_⟩
      · rw [sA_1 21 (by omega)]
        unfold up2
        rw [if_neg (by omega), if_neg (by omega)]
        exact p1 b hb
      · rw [sA_1 19 (by omega), sA_1 20 (by omega)]
        unfold up2
        rw [if_neg (by omega), if_neg (by omega)]
        exact p2 y hy
      · rw [sA_1 22 (by omega), sA_g]
        obtain ⟨s1, s2⟩ := p3 b y hb hy
        refine ⟨fun c => ?_, fun c => ?_⟩
        · rw [if_neg (by omega)]
          exact s1 c
        · unfold up2
          by_cases c2 : 24 * b + y = 24 * u + x
          · rw [if_pos ⟨rfl, c2⟩, if_neg (by omega), if_pos ⟨by omega, by omega⟩]
            exact ⟨(s2 c).1, rfl⟩
          · rw [if_neg (by omega), if_neg (by omega), if_neg (by omega)]
            exact s2 c

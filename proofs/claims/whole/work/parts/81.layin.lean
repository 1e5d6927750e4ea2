/-! THE REFERENCE LAYS BATCHES IN; what can not be laid in: both sides -/
def NX (N N' : Mem) : Prop := N'.2 = N.2 ∧ ∀ k, ¬ (11 ≤ k ∧ k ≤ 13) → ¬ (18 ≤ k ∧ k ≤ 25) → N'.1 k = N.1 k
theorem NX.rf (N : Mem) : NX N N := ⟨rfl, fun _ _ _ => rfl⟩
theorem NX.tr {M M' M2 : Mem} (h : NX M M') (k : NX M' M2) : NX M M2 := ⟨k.1.trans h.1, fun a b c => (k.2 a b c).trans (h.2 a b c)⟩
theorem QX.nx {N N' : Mem} (h : QX N N') : NX N N' := ⟨h.1, fun k _ c => h.2 k (by omega)⟩
theorem EqN.nx {N N' : Mem} (h : EqN N N') : NX N N' := ⟨h.1, fun k c _ => h.2 k (by omega) (by omega) (by omega)⟩
theorem NX.ne {N N' : Mem} (h : NX N N') : NE N N' := ⟨h.1, fun j _ _ => by rw [h.2 0 (by omega) (by omega)], fun k _ b c _ => h.2 k b c⟩
theorem NX.p {N N' : Mem} (h : NX N N') {k : Nat} (j : Nat) (v : Int32) (hk : 18 ≤ k ∧ k ≤ 25) : NX N (sA N' k j v) := h.tr (QX.p N' j v hk).nx
theorem r_layIn {A : Abs} {N : Mem} {f : Nat} (hR : HR A) (hH : HN A N) (hP : PR A) (hN : PN A N) (hf : f ≤ 16) {post : Int32 → Mem → Prop} (h : ∀ N' rs R, NX N N' → QR A (lfA A (stA A f)) 0 (fun _ => 0) N' R → (restA A (stA A f) = 0 → PS A (lfA A (stA A f)) 0 33 32 rs R) → post (nI (restA A (stA A f))) N') : qX7_layIn (nI f) N post := by
  intro R9 R42 R73 R103 h9 h42 h73 h103
  have h8 := hP.1
  have hl : ∀ x, lfA A (stA A f) x ≤ 1200 := fun x => lfA_le hR _ x
  have hwk := wkA_le hP
  obtain ⟨rs0, hM0, hS0, hr0, ht0⟩ := R0_ok hP (lfA A (stA A f)) ST2
  -- ways while there are
  have loop : ∀ e d N' rs R, d + e = wkA A → NX N N' → QR A (lfA A (stA A f)) 0 (fun _ => 0) N' R → MX (CG A (lfA A (stA A f)) 0 33 32) rs R → RW rs0 rs 33 32 d → R103 (nI e) N' := by
    intro e
    induction e using Nat.strongRecOn with
    | ind e ih =>
      intro d N' rs R hd hX hQ hM hW
      have e33 := hW 33 (by omega)
      rw [if_pos rfl, if_neg (by decide)] at e33
      apply h103
      refine r_isWay (s := 33) (t := 32) hP hl (hN.ne hX.ne) hM hQ (by omega) (by omega) (by omega) (fun N2 Z hX2 hz hs ht => b0_e ?_) (fun N2 n q j hX2 hS hj ej => b1_e ?_)
      · obtain ⟨g1, g2⟩ := rest_is hP ST2 hM hS0 hr0 ht0 hW (Or.inr (gR_cut hM hz hs ht (by omega) (Or.inl rfl)))
        rw [show e = restA A (stA A f) by omega]
        exact h N2 rs R (hX.tr hX2.qx.nx) (hX2.qr hQ) g2
      · obtain ⟨L, p, hw, hL, _, hc⟩ := hS.way j hj
        rw [ej] at hw
        refine r_goAlong (s := 33) (t := 32) (most := 10000) hP hl ((hN.ne hX.ne).ne hX2.qx.nx.ne) hM (hX2.qr hQ) hw hc (by omega) (by omega) (fun N3 d3 g1 g2 g3 hX3 hQ3 => ?_)
        rintro _ rfl
        obtain ⟨rs3, hM3, hW3⟩ := gone_MX hw.g g3 hM
        have e3 := hW3 33 (by omega)
        rw [if_pos rfl, if_neg (by decide)] at e3
        rw [pk_sub (by omega)]
        exact ih (e - d3) (by omega) (d + d3) N3 rs3 _ (by omega) ((hX.tr hX2.qx.nx).tr hX3.nx) hQ3 hM3 (hW.tr hW3)
  have works : ∀ b, b ≤ A 0 2 → ∀ N', NX N N' → (∀ x, x < 24 → N'.1 19 x = nI (lfA A (stA A f) x) ∧ N'.1 20 x = 0) → (∀ k, k < 192 → N'.1 18 k = 0 ∧ N'.1 22 k = 0) → (∀ c, c < b → N'.1 21 c = 0) → R73 (nI (sm (fun b => A 8 b) b)) (nI b) N' := by
    refine up_to (fun N' hX hh hp hd => ?_) (fun b hb ih N' hX hh hp hd => ?_)
    · apply h73
      unfold qX7_layIn_b73
      rw [(hN.ne hX.ne).1]
      refine ⟨fun _ => ?_, fun c => absurd (nI_le (Nat.le_refl _) (by omega)) c⟩
      refine loop (wkA A) 0 N' rs0 (R0 A (lfA A (stA A f)) 33 32) (by omega) hX ⟨fun b hb => ?_, fun x hx => ?_, fun b x hb hx => ⟨fun c => absurd c.2 (by omega), fun _ => ?_⟩⟩ hM0 (RW.rf _ _ _)
      · unfold R0
        rw [hd b hb, mk_bS ST2 (by omega)]
        rfl
      · unfold R0
        rw [(hh x hx).1, (hh x hx).2, mk_Th ST2 hx]
        exact ⟨rfl, rfl⟩
      · unfold R0
        rw [(hp (24 * b + x) (by omega)).1, (hp (24 * b + x) (by omega)).2, mk_hb ST2 hx (by omega)]
        exact ⟨rfl, rfl⟩
    · have hN' := hN.ne hX.ne
      have hwk' : sm (fun b => A 8 b) (b + 1) = sm (fun b => A 8 b) b + A 8 b := rfl
      apply h73
      unfold qX7_layIn_b73
      rw [hN'.1, nI_clamp (show b < 2 ^ 31 by omega)]
      refine ⟨fun c => absurd c (nI_ge hb (by omega)), fun _ => ⟨vp_in_nI (by omega) (by omega), ?_⟩⟩
      rintro _ rfl
      refine ⟨vp_in_nI (by omega) (by omega), ?_⟩
      rw [sA_1 14 (by omega), (hN'.2 b hb).1, nI_add, ← hwk']
      rintro _ rfl _ rfl
      rw [nI_1]
      refine ih _ (hX.p _ _ (by omega)) (fun x hx => by rw [sA_1 19 (by omega), sA_1 20 (by omega)]; exact hh x hx) (fun k hk => by rw [sA_1 18 (by omega), sA_1 22 (by omega)]; exact hp k hk) (fun c hc => ?_)
      rw [sA_g]
      by_cases e : c = b
      · rw [if_pos ⟨rfl, e⟩]
      · rw [if_neg (fun d => e d.2)]
        exact hd c (by omega)
  have clear : ∀ k, k ≤ 192 → ∀ N', NX N N' → (∀ x, x < 24 → N'.1 19 x = nI (lfA A (stA A f) x) ∧ N'.1 20 x = 0) → (∀ j, j < k → N'.1 18 j = 0 ∧ N'.1 22 j = 0) → R42 0 (nI k) N' := by
    refine up_to (fun N' hX hh hp => ?_) (fun k hk ih N' hX hh hp => ?_)
    · apply h42
      exact ⟨fun _ => works 0 (Nat.zero_le _) N' hX hh hp (fun c hc => absurd hc (by omega)), fun c => absurd (nI_le (Nat.le_refl _) (by omega)) c⟩
    · apply h42
      unfold qX7_layIn_b42
      rw [nI_clamp (show k < 2 ^ 31 by omega)]
      refine ⟨fun c => absurd c (nI_ge hk (by omega)), fun _ => ⟨vp_in_nI hk (by omega), ?_⟩⟩
      rintro _ rfl
      refine ⟨vp_in_nI hk (by omega), ?_⟩
      rintro _ rfl _ rfl
      rw [nI_1]
      refine ih _ ((hX.p _ _ (by omega)).p _ _ (by omega)) (fun x hx => by rw [sA_1 19 (by omega), sA_1 20 (by omega), sA_1 19 (by omega), sA_1 20 (by omega)]; exact hh x hx) (fun j hj => ?_)
      rw [sA_1 18 (by omega), sA_g, sA_g, sA_1 22 (by omega)]
      by_cases e : j = k
      · rw [if_pos ⟨rfl, e⟩, if_pos ⟨rfl, e⟩]
        exact ⟨rfl, rfl⟩
      · rw [if_neg (fun d => e d.2), if_neg (fun d => e d.2)]
        exact hp j (by omega)
  have hours : ∀ x, x ≤ 24 → ∀ N', NX N N' → LK A f N' → (∀ y, y < x → N'.1 19 y = nI (lfA A (stA A f) y) ∧ N'.1 20 y = 0) → R9 0 (nI x) N' := by
    refine up_to (fun N' hX hL hh => ?_) (fun x hx ih N' hX hL hh => ?_)
    · apply h9
      exact ⟨fun _ => clear 0 (Nat.zero_le _) N' hX hh (fun j hj => absurd hj (by omega)), fun c => absurd (by decide) c⟩
    · apply h9
      unfold qX7_layIn_b9
      rw [show (24 : Int32) = nI 24 from rfl, nI_leI (by omega) (by omega)]
      refine ⟨fun c => absurd hx (by omega), fun _ => r_leftOf hR (hH.ne hX.ne) hL hf hx ⟨vp_in_nI hx (by omega), ?_⟩⟩
      rw [nI_clamp (show x < 2 ^ 31 by omega)]
      rintro _ rfl
      refine ⟨vp_in_nI hx (by omega), ?_⟩
      rintro _ rfl _ rfl
      rw [nI_1]
      refine ih _ ((hX.p _ _ (by omega)).p _ _ (by omega)) (hL.eq rfl rfl rfl) (fun y hy => ?_)
      rw [sA_1 19 (by omega), sA_g, sA_g, sA_1 20 (by omega)]
      by_cases e : y = x
      · rw [if_pos ⟨rfl, e⟩, if_pos ⟨rfl, e⟩, e]
        exact ⟨rfl, rfl⟩
      · rw [if_neg (fun d => e d.2), if_neg (fun d => e d.2)]
        exact hh y (by omega)
  exact r_look hR hH hf (fun N1 hE hL => hours 0 (Nat.zero_le _) N1 hE.nx hL (fun y hy => absurd hy (by omega)))
/-- both sides after batches were laid in -/
theorem RelA.ly {A : Abs} {M N M' N' : Mem} (h : RelA A M N) (hX : PF1 M M') (hC : HC A M') (hPC : PC A M') (f : NE N N') : RelA A M' N' := by
  obtain ⟨h1, h2, h3, h4, h5, h6, h7, h8, h9, h10⟩ := h
  refine ⟨h1.fr hX.1 (hX.2.1 9 (by omega)) (hX.2.1 10 (by omega)) f.1 (f.2.2 1 (by decide) (by decide) (by decide) (by decide)) (f.2.2 2 (by decide) (by decide) (by decide) (by decide)), h2, hC, h4.ne f, h5, hPC, h7.ne f, h8, h9.fr (KE.rf A) (fun k hk => hX.2.1 k (by omega)), h10.ne f⟩
theorem Rel.ly {A : Abs} {M N M' N' : Mem} (h : RelA A M N) (hX : PF1 M M') (hC : HC A M') (hPC : PC A M') (f : NE N N') {v : Int32} (hv : N'.1 0 0 = v) : Rel (sA M' 0 5 v) N' := Rel.q (h.ly hX hC hPC f) (hC.st v) (CE.st M' v) (NE.rf N') (by rw [sA_g, if_pos ⟨rfl, rfl⟩, hv])
theorem hk_rest (M N : Mem) (h : Rel M N) (a : Int32) : qX6_rest a M (fun r M => qX7_rest a N (fun r2 N => r = r2 ∧ Rel M N)) := by
  obtain ⟨_, A, hA⟩ := h
  have hR := hA.2.1
  have hC := hA.2.2.1
  have hN := hA.2.2.2.1
  have hP := hA.2.2.2.2.1
  have hPC := hA.2.2.2.2.2.1
  have hPN := hA.2.2.2.2.2.2.1
  refine s_isFall (fun f hf ea => b1_n ?_) (fun hx => b0_n ?_)
  · subst ea
    refine s_standing hR hC.1 hf (s_lay hR hC hP hPC (stA_lt A f) (fun M' hX hC' hPC' hL => ?_))
    rintro _ rfl
    refine r_isFall (fun f' hf' e => b1_n ?_) (fun hx => absurd hx (nI_off (n := 16) (by omega) (by omega)))
    rintro _ rfl
    refine r_layIn hR (hN.ne (NE.st N 0)) hP (hPN.ne (NE.st N 0)) hf (fun N' rs R hX2 _ _ => ⟨hL.1, ?_⟩)
    refine Rel.ly hA hX hC' hPC' ((NE.st N 0).tr hX2.ne) ?_
    rw [hX2.2 0 (by omega) (by omega), sA_g, if_pos ⟨rfl, rfl⟩]
  · rintro _ rfl
    refine r_isFall (fun f hf e => ?_) (fun _ => b0_n ?_)
    · rw [e] at hx
      exact absurd hx (nI_off (n := 16) (by omega) (by omega))
    · rintro _ rfl
      exact ⟨rfl, Rel.no hA 1⟩

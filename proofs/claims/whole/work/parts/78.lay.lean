/-! THE CLASS LAYS BATCHES IN -/
def LY (A : Abs) (w : Nat) (M : Mem) : Prop := M.1 21 1 = nI (restA A w) ∧ (restA A w = 0 → ∀ b h, inW A b h → M.1 (23 + b) h = nI (planA A w b h))
theorem wkA_le {A : Abs} (hP : PR A) : wkA A ≤ 80000 := wk_le hP (A 0 2) (Nat.le_refl _)
/-- what flowed from S to T, if no more could -/
theorem rest_is {A : Abs} (hP : PR A) {w S T : Nat} (h : ST S T) {rs0 rs : Nat → Nat} {R : Nat → Nat → Nat} {d : Nat} (hM : MX (CG A (lfA A w) 0 S T) rs R) (hS0 : STG A (lfA A w) 0 (fun _ => 0) rs0) (hr : rs0 S = wkA A) (ht : rs0 T = 0) (hW : RW rs0 rs S T d) (hc : d = wkA A ∨ CUT R S T) : restA A w + d = wkA A ∧ (restA A w = 0 → PS A (lfA A w) 0 S T rs R) := by
  have hst := h
  unfold ST at hst
  have e1 := hW S (by omega)
  have e2 := hW T (by omega)
  rw [if_pos rfl, if_neg (by omega)] at e1
  rw [if_neg (by omega), if_pos rfl] at e2
  have hS : STG A (lfA A w) 0 (fun _ => 0) rs := by
    refine ⟨fun b hb => ?_, fun x hx => ?_⟩
    · have e3 := hW b (by omega)
      rw [if_neg (by omega), if_neg (by omega)] at e3
      have e4 := hS0.1 b hb
      omega
    · have e3 := hW (8 + x) (by omega)
      rw [if_neg (by omega), if_neg (by omega)] at e3
      have e4 := hS0.2 x hx
      omega
  have e5 := laid_is hP h hM hS (by
    rcases hc with c | c
    · exact Or.inl (by omega)
    · exact Or.inr c)
  have e6 : restA A w = rs S := by
    unfold restA
    omega
  refine ⟨by omega, fun h0 => ⟨⟨hM, hS, by omega, by omega⟩, Y0K A⟩⟩
theorem s_lay {A : Abs} {M : Mem} {w : Nat} (hR : HR A) (hC : HC A M) (hP : PR A) (hPC : PC A M) (hw : w < 2 ^ A 0 0) {post : Mem → Prop} (h : ∀ M', PF1 M M' → HC A M' → PC A M' → LY A w M' → post M') : qX3_lay (nI w) M post := by
  have hw2 : w < 4096 := Nat.lt_of_lt_of_le hw (pw12 hR)
  have hl : ∀ x, lfA A w x ≤ 1200 := fun x => lfA_le hR w x
  have hwk := wkA_le hP
  refine ⟨fun hne => ?_, fun he => ?_⟩
  · rintro _ rfl
    have hX0 : PF1 M (sA M 21 8 (nI w)) := PF1.p21 M (nI w) (by decide)
    refine s_layPipes hR (hC.sh (M' := sA M 21 8 (nI w)) (fun k _ _ => sA_1 k (by omega))) hP (hX0.pc0 hPC.1) hw (fun M4 hX4 hC4 hk4 hF4 => ?_)
    rintro _ rfl
    obtain ⟨rs0, hM0, hS0, hr0, ht0⟩ := R0_ok hP (lfA A w) ST1
    have e1 : (sA M4 21 1 (nI (wkA A))).1 21 1 = nI (wkA A) := by rw [sA_g, if_pos ⟨rfl, rfl⟩]
    have hX5 : PF1 M (sA M4 21 1 (nI (wkA A))) := (hX0.tr hX4).tr (PF1.p21 _ _ (by decide))
    have h35 : (sA M4 21 1 (nI (wkA A))).1 35 0 = 34 := by
      rw [hX5.2.1 35 (by omega)]
      exact hPC.1.2.1
    rw [e1]
    refine s_push (rs := rs0) (R := R0 A (lfA A w) 32 33) hM0 (CG_CB hP hl 0 32 33) (fun u v hu hv => by rw [sA_1 (37 + u) (by omega)]; exact hF4 u v hu hv) h35 (by decide) (by decide) (by decide) (by omega) (fun M7 R7 rs7 d hX7 hF7 hM7 hW7 hd hc => ?_)
    rintro _ rfl
    obtain ⟨g1, g2⟩ := rest_is hP ST1 hM7 hS0 hr0 ht0 hW7 hc
    have e2 : restA A w = wkA A - d := by omega
    rw [pk_sub hd, ← e2]
    have hX8 : PF1 M (sA M7 21 1 (nI (restA A w))) := (hX5.tr hX7.pf).tr (PF1.p21 _ _ (by decide))
    have hC8 : HC A (sA M7 21 1 (nI (restA A w))) := (hX7.hc (hC4.sh (M' := sA M4 21 1 (nI (wkA A))) (fun k _ _ => sA_1 k (by omega)))).sh (fun k _ _ => sA_1 k (by omega))
    have e3 : (sA M7 21 1 (nI (restA A w))).1 21 1 = nI (restA A w) := by rw [sA_g, if_pos ⟨rfl, rfl⟩]
    have e8 : (sA M7 21 1 (nI (restA A w))).1 21 8 = nI w := by
      rw [sA_g, if_neg (by decide), hX7.2 21 (by omega), sA_g, if_neg (by decide), hk4 21 (by omega), sA_g, if_pos ⟨rfl, rfl⟩]
    have eZ : PZ A (sA M7 21 1 (nI (restA A w))) := by
      intro b x hb hx hn
      rw [sA_1 (23 + b) (by omega), hX7.2 (23 + b) (by omega), sA_1 (23 + b) (by omega), hk4 (23 + b) (by omega), sA_1 (23 + b) (by omega)]
      exact hPC.2.1 b x hb hx hn
    have ePC0 := hX8.pc0 hPC.1
    rw [e3]
    have fin : ∀ M', PF1 M M' → HC A M' → PZ A M' → M'.1 21 8 = nI w → LY A w M' → post M' := by
      intro M' a b c d e
      exact h M' a b ⟨a.pc0 hPC.1, c, Or.inr ⟨w, hw, d, e.1, e.2⟩⟩ e
    refine ⟨fun hne2 => fin _ hX8 hC8 eZ e8 ⟨e3, fun e => absurd (by rw [e]; rfl) hne2⟩, fun h0 => ?_⟩
    have hr0' : restA A w = 0 := nI_is (by omega) (by decide) h0
    refine s_settleParts hP hl ePC0 hC8 eZ (R := R7) (rs := rs7) (fun u v hu hv => by rw [sA_1 (37 + u) (by omega)]; exact hF7 u v hu hv) (g2 hr0') (fun M' hX hC' hZ' h21 hD => ?_)
    refine fin M' (hX8.tr hX) hC' hZ' (by rw [h21]; exact e8) ⟨by rw [h21]; exact e3, fun _ b x hin => ?_⟩
    exact hD b x hin
  · refine h M (PF1.rf M) hC hPC ?_
    rcases hPC.2.2 with q | ⟨w', h1, h2, h3, h4⟩
    · rw [q] at he
      exact absurd he.symm (nI_nm1 (by omega))
    · have hw' : w' < 4096 := Nat.lt_of_lt_of_le h1 (pw12 hR)
      rw [h2] at he
      have e := nI_is (by omega) (by omega) he
      subst e
      exact ⟨h3, h4⟩

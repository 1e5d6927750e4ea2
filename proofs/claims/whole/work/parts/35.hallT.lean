/-! THE CLASS'S TABLE OF SETS -/
theorem sumS_le {st : Nat → Bool} {sz : Nat → Nat} (h : ∀ k, st k = true → sz k ≤ 100) : ∀ j, sumS st sz j ≤ 100 * j
  | 0 => Nat.le_refl _
  | j + 1 => by
    have ih := sumS_le h j
    show sumS st sz j + (if st (11 - j) = true then sz (11 - j) else 0) ≤ 100 * (j + 1)
    by_cases hs : st (11 - j) = true
    · rw [if_pos hs]
      have := h _ hs
      omega
    · rw [if_neg hs]
      omega
theorem wSt_lt {w n k : Nat} (hw : w < 2 ^ n) (h : wSt w k = true) : k < n := by
  rcases Nat.lt_or_ge k n with h1 | h1
  · exact h1
  · have := bit_lt hw h1
    unfold wSt at h
    rw [this] at h
    exact absurd h (by decide)
theorem s_findWith {A : Abs} {M : Mem} {w m : Nat} (hR : HR A) (hw : w < 2 ^ A 0 0) (hm : m < A 0 0) (hst : wSt w m = true) (hsz : M.1 12 m = nI (A 1 m)) (hna : M.1 11 1 = nI (A 0 1)) (hT : HT A M) (hAK : AK A (M.1 19)) {post : Mem → Prop}
    (h0 : ∀ s, s < 2 ^ A 0 1 → (s = 0 ∨ ¬ M.1 19 s = 0) → Lt (wSt w) (okA A) (11 - m) s (M.1 20 s))
    (h : ∀ f : Nat → Int32, (∀ s, s < 2 ^ A 0 1 → (s = 0 ∨ ¬ M.1 19 s = 0) → Lt (wSt w) (okA A) (12 - m) s (f s)) → post (sAr M 20 f)) : qX1_findWith (nI m) (nI (sumS (wSt w) (A 1) (12 - m))) M post := by
  have h10 := pw10 hR
  have hn12 := hR.1
  have hpos := Nat.two_pow_pos (A 0 1)
  have ej : 12 - m = (11 - m) + 1 := by omega
  have em : 11 - (11 - m) = m := by omega
  have hsum : sumS (wSt w) (A 1) (12 - m) < 2 ^ 31 := by
    have h3 := sumS_le (st := wSt w) (sz := A 1) (fun k hk => (hR.2.2.1 k (wSt_lt hw hk)).2.1) (12 - m)
    omega
  intro R2 h2
  have key : ∀ i, i ≤ 2 ^ A 0 1 → 1 ≤ i → ∀ f : Nat → Int32, (∀ s, s < 2 ^ A 0 1 → (s = 0 ∨ ¬ M.1 19 s = 0) → (s < i → Lt (wSt w) (okA A) (12 - m) s (f s)) ∧ (i ≤ s → Lt (wSt w) (okA A) (11 - m) s (f s))) → R2 (nI i) (sAr M 20 f) := by
    refine up_to (fun _ f hf => ?_) (fun i hi hp hi1 f hf => ?_)
    · apply h2
      unfold qX1_findWith_b2
      rw [show (sAr M 20 f).1 11 1 = nI (A 0 1) from hna, bx_shl (by have := hR.2.1; omega)]
      exact ⟨fun _ => h f (fun s hs ha => (hf s hs ha).1 hs), fun h3 => absurd (nI_le (Nat.le_refl _) (by omega)) h3⟩
    · -- going on with the same table
      have same : ((i = 0 ∨ ¬ M.1 19 i = 0) → Lt (wSt w) (okA A) (12 - m) i (f i)) → R2 (nI (i + 1)) (sAr M 20 f) := fun hl =>
        hp (by omega) f (fun s hs ha => ⟨fun h3 => by
          by_cases e : s = i
          · subst e; exact hl ha
          · exact (hf s hs ha).1 (by omega), fun h3 => (hf s hs ha).2 (by omega)⟩)
      apply h2
      unfold qX1_findWith_b2
      rw [show (sAr M 20 f).1 11 1 = nI (A 0 1) from hna, bx_shl (by have := hR.2.1; omega), nI_clamp (show i < 2 ^ 31 by omega), show (sAr M 20 f).1 20 i = f i from rfl, show (sAr M 20 f).1 19 i = M.1 19 i from rfl, show (sAr M 20 f).1 17 i = nI (ldA A i) from (hT i hi).1, nI_ltI hsum (by have := ldA_le hR i; omega)]
      refine ⟨fun h3 => absurd h3 (nI_ge hi (by omega)), fun _ => ⟨vp_in_nI (by omega) (by omega), fun h3 => ?_, fun h3 => ⟨vp_in_nI (by omega) (by omega), fun h4 => ?_, fun h4 => ⟨vp_in_nI (by omega) (by omega), fun h5 => ?_, fun h5 => ?_⟩⟩⟩⟩
      · rintro _ rfl
        rw [nI_1]
        refine same (fun ha => ?_)
        rw [ej]
        exact Lt_keep ((hf i hi ha).2 (Nat.le_refl _)) h3
      · rintro _ rfl
        rw [nI_1]
        refine same (fun ha => ?_)
        rcases ha with ha | ha
        · omega
        · exact absurd h4 ha
      · rintro _ rfl
        rw [nI_1]
        refine same (fun ha => Or.inl ⟨fun hc => ?_, h3⟩)
        have := can_ld (A := A) hc
        omega
      · have hnc : ¬ can (wSt w) (okA A) (11 - m) i := (Lt_neg ((hf i hi (Or.inr h4)).2 (Nat.le_refl _)) (by omega)).mp h3
        refine s_greatest (M := sAr M 20 f) (w := w) hR hm hi hsz (fun s hs => hT s hs) (fun x hx => ?_) ?_
        · have hxi := sb_le hx
          have hak : x = 0 ∨ ¬ M.1 19 x = 0 := by
            by_cases e : x = 0
            · exact Or.inl e
            · exact Or.inr (hAK.2 i x h4 e hx)
          show ¬ f x ≤ nI m ↔ _
          have hb := hf x (by omega) hak
          by_cases hlt : x < i
          · have h7 := Lt_gt (hb.1 hlt) (by omega) (i := 11 - m) (by omega) (by omega)
            rw [em] at h7
            exact h7
          · have h7 := Lt_gt (hb.2 (by omega)) (by omega) (i := 11 - m) (by omega) (by omega)
            rw [em] at h7
            exact h7
        refine ⟨fun h6 => ?_, fun h6 => ?_⟩
        · rintro _ rfl
          rw [nI_1]
          refine same (fun ha => Or.inl ⟨fun hc => ?_, h3⟩)
          have hg : grA A w m i = 0 := by
            have h8 : nI (grA A w m i) ≤ nI 0 := h6
            have h9 : grA A w m i ≤ i := gs_le _ _
            rw [nI_leI (by omega) (by omega)] at h8
            omega
          rcases (grA_can (by omega) hst (by omega)).mp hc with h7 | h7
          · exact hnc h7
          · omega
        · refine ⟨vp_in_nI (by omega) (by omega), ?_⟩
          rintro _ rfl _ rfl
          rw [nI_1, sAr_up]
          have hg : 0 < grA A w m i := by
            rcases Nat.eq_zero_or_pos (grA A w m i) with e | e
            · rw [e] at h6; exact absurd (show nI 0 ≤ 0 by decide) h6
            · exact e
          have hc : can (wSt w) (okA A) (12 - m) i := (grA_can (by omega) hst (by omega)).mpr (Or.inr hg)
          refine hp (by omega) _ (fun s hs ha => ?_)
          unfold upd
          by_cases e : s = i
          · subst e
            refine ⟨fun _ => ?_, fun h7 => by omega⟩
            rw [if_pos rfl]
            refine Or.inr (Or.inr ⟨by omega, 11 - m, by omega, hnc, ?_, by rw [em]⟩)
            rw [← ej]
            exact hc
          · rw [if_neg e]
            exact ⟨fun h7 => (hf s hs ha).1 (by omega), fun h7 => (hf s hs ha).2 (by omega)⟩
  have h1 := key 1 (by omega) (Nat.le_refl _) (M.1 20) (fun s hs ha => ⟨fun h3 => ?_, fun _ => h0 s hs ha⟩)
  · rw [sAr_id] at h1
    exact h1
  · have e : s = 0 := by omega
    subst e
    have h4 := h0 0 hs (Or.inl rfl)
    rw [ej]
    rcases h4 with ⟨h5, _⟩ | h5 | ⟨h5, _⟩
    · exact absurd (can_0 _) h5
    · exact Or.inr (Or.inl h5)
    · exact absurd rfl h5

/-- two memories that differ in the class's table and its key alone -/
def EqT (M M' : Mem) : Prop := M'.2 = M.2 ∧ ∀ k j, k ≠ 20 → ¬ (k = 11 ∧ j = 12) → M'.1 k j = M.1 k j
theorem EqT.rf (M : Mem) : EqT M M := ⟨rfl, fun _ _ _ _ => rfl⟩
theorem EqT.tr {M M' M2 : Mem} (h : EqT M M') (k : EqT M' M2) : EqT M M2 := ⟨k.1.trans h.1, fun a b c d => (k.2 a b c d).trans (h.2 a b c d)⟩
theorem EqT.row {M M' : Mem} (h : EqT M M') (k : Nat) (h1 : k ≠ 20) (h2 : k ≠ 11) : M'.1 k = M.1 k := funext fun j => h.2 k j h1 (fun e => h2 e.1)
theorem upT_eq (M : Mem) (w : Nat) (f : Nat → Int32) : EqT M (upT M w f) := by
  refine ⟨rfl, fun k j h1 h2 => ?_⟩
  unfold upT
  rw [sAr_g, if_neg h1, sA_g, if_neg h2]
theorem sAr_sAr {M : Mem} {k : Nat} {f g : Nat → Int32} : sAr (sAr M k f) k g = sAr M k g := by
  refine Prod.ext (funext fun j => ?_) rfl
  show (if j = k then g else if j = k then f else M.1 j) = if j = k then g else M.1 j
  by_cases h : j = k
  · rw [if_pos h, if_pos h]
  · rw [if_neg h, if_neg h, if_neg h]
theorem HC_upT {A : Abs} {M : Mem} {w : Nat} {f : Nat → Int32} (h : HC A M) (hw : w < 2 ^ A 0 0) (ht : Tab A (M.1 19) w f) : HC A (upT M w f) := ⟨h.1, h.2.1, Or.inr ⟨w, hw, rfl, ht⟩⟩
theorem s_findLatest {A : Abs} {M : Mem} {w : Nat} (hR : HR A) (hC : HC A M) (hw : w < 2 ^ A 0 0) {post : Mem → Prop} (h : ∀ M', HC A M' → EqT M M' → Tab A (M'.1 19) w (M'.1 20) → post M') : qX1_findLatest (nI w) M post := by
  have h12 := pw12 hR
  have h10 := pw10 hR
  have hn12 := hR.1
  obtain ⟨h0, hT, hL⟩ := hC
  intro R39 h39
  refine ⟨fun hne => ?_, fun he => ?_⟩
  · rintro _ rfl
    refine s_fill (by decide) ⟨by unfold vp_in; decide, ?_⟩
    rintro _ rfl _ rfl
    have key : ∀ c, c ≤ A 0 0 → ∀ f : Nat → Int32, (∀ s, s < 2 ^ A 0 1 → (s = 0 ∨ ¬ M.1 19 s = 0) → Lt (wSt w) (okA A) (12 - c) s (f s)) → R39 (nI (sumS (wSt w) (A 1) (12 - c))) (nI c - 1) (upT M w f) := by
      intro c
      induction c with
      | zero =>
        intro _ f hf
        apply h39
        exact ⟨fun _ => h _ (HC_upT ⟨h0, hT, hL⟩ hw hf) (upT_eq M w f) hf, fun h3 => absurd (show nI 0 - 1 < 0 by decide) h3⟩
      | succ c ih =>
        intro hc f hf
        have ej : 12 - c = (11 - c) + 1 := by omega
        have ec : 11 - (11 - c) = c := by omega
        have es : 12 - (c + 1) = 11 - c := by omega
        rw [es] at hf ⊢
        rw [nI_pred]
        have hm1 : nI c + (-1) = nI c - 1 := (Int32.sub_eq_add_neg (nI c) 1).symm
        apply h39
        refine ⟨fun h3 => absurd h3 (nI_pos (by omega)), fun _ => s_has (by omega) (by omega) (fun hb => b1_e ⟨vp_in_nI (by omega) (by omega), ?_⟩) (fun hb => b0_e ?_)⟩
        · rintro _ rfl
          rw [nI_clamp (show c < 2 ^ 31 by omega), show (upT M w f).1 12 c = nI (A 1 c) from h0.2.2.2.1 c (by omega), nI_add]
          have e : sumS (wSt w) (A 1) (11 - c) + A 1 c = sumS (wSt w) (A 1) (12 - c) := by
            rw [ej]
            show _ = sumS (wSt w) (A 1) (11 - c) + _
            rw [ec, if_pos (show wSt w c = true from hb)]
          rw [e]
          refine s_findWith (M := upT M w f) hR hw (by omega) hb (h0.2.2.2.1 c (by omega)) h0.2.1 (fun s hs => hT s hs) h0.2.2.2.2.2.2.2.2 hf (fun f' hf' => ?_)
          rintro _ rfl
          rw [hm1, show sAr (upT M w f) 20 f' = upT M w f' from sAr_sAr]
          exact ih (by omega) f' hf'
        · rintro _ rfl
          rw [hm1]
          have e : sumS (wSt w) (A 1) (12 - c) = sumS (wSt w) (A 1) (11 - c) := by
            rw [ej]
            show sumS (wSt w) (A 1) (11 - c) + _ = _
            rw [ec, if_neg (show ¬ wSt w c = true by rw [show wSt w c = false from hb]; decide)]
            rfl
          rw [← e]
          refine ih (by omega) f (fun s hs ha => ?_)
          rw [ej]
          exact Lt_idle (hf s hs ha) (by rw [ec]; exact hb)
    have hf0 : ∀ s, s < 2 ^ A 0 1 → (s = 0 ∨ ¬ M.1 19 s = 0) → Lt (wSt w) (okA A) (12 - A 0 0) s (upd (fun j => if j < 1024 then (-1 : Int32) else (sA M 11 12 (nI w)).1 20 j) 0 12 s) := by
      intro s hs _
      have e : upd (fun j => if j < 1024 then (-1 : Int32) else (sA M 11 12 (nI w)).1 20 j) 0 12 s = if s = 0 then 12 else -1 := by
        unfold upd
        by_cases e0 : s = 0
        · rw [if_pos e0, if_pos e0]
        · rw [if_neg e0, if_neg e0]
          exact if_pos (by omega)
      rw [e]
      exact Lt_start (fun k hk => bit_lt hw (by omega))
    have h5 := key (A 0 0) (Nat.le_refl _) _ hf0
    have e1 : sumS (wSt w) (A 1) (12 - A 0 0) = 0 := by
      have hz : ∀ j, j ≤ 12 - A 0 0 → sumS (wSt w) (A 1) j = 0 := by
        intro j
        induction j with
        | zero => intro _; rfl
        | succ j ihj =>
          intro hj
          show sumS (wSt w) (A 1) j + _ = 0
          rw [ihj (by omega), if_neg (show ¬ wSt w (11 - j) = true by rw [show wSt w (11 - j) = false from bit_lt hw (by omega)]; decide)]
      exact hz _ (Nat.le_refl _)
    rw [e1] at h5
    have e2 : sA (sAr (sA M 11 12 (nI w)) 20 (fun j => if j < 1024 then -1 else (sA M 11 12 (nI w)).1 20 j)) 20 (0 : Int32).toNatClampNeg 12 = upT M w (upd (fun j => if j < 1024 then (-1 : Int32) else (sA M 11 12 (nI w)).1 20 j) 0 12) := sAr_up
    rw [e2]
    have e3 : (upT M w (upd (fun j => if j < 1024 then (-1 : Int32) else (sA M 11 12 (nI w)).1 20 j) 0 12)).1 11 0 = nI (A 0 0) := h0.1
    rw [e3]
    exact h5
  · rcases hL with hL | ⟨w', hw', he', ht⟩
    · rw [hL] at he
      have e : (nI w).toInt = -1 := by rw [← he]; rfl
      rw [nI_toInt (by omega)] at e
      omega
    · rw [he', nI_eq (by omega) (by omega)] at he
      subst he
      exact h M ⟨h0, hT, Or.inr ⟨w', hw', he', ht⟩⟩ (EqT.rf M) ht
/-- whether an hour fits -/
theorem s_holds {A : Abs} {M : Mem} {w h : Nat} (hR : HR A) (hC : HC A M) (hw : w < 2 ^ A 0 0) (hh : h < 24) {post : Int32 → Mem → Prop} (h1 : canA A w 12 (soA A h) → ∀ M', HC A M' → EqT M M' → post 1 M') (h0 : ¬ canA A w 12 (soA A h) → ∀ M', HC A M' → EqT M M' → post 0 M') : qX1_holds (nI h) (nI w) M post := by
  have h10 := pw10 hR
  have hso := soA_lt A h
  refine s_findLatest hR hC hw (fun M' hC' hE ht => ?_)
  have hv : M'.1 16 h = nI (soA A h) := hC'.1.2.2.2.2.2.2.2.1 h hh
  have hak : soA A h = 0 ∨ ¬ M'.1 19 (soA A h) = 0 := by
    by_cases e : soA A h = 0
    · exact Or.inl e
    · exact Or.inr (hC'.1.2.2.2.2.2.2.2.2.1 h _ hh e (sb_rf _))
  have hl := Lt_neg (ht _ hso hak) (Nat.le_refl _)
  rw [nI_clamp (show h < 2 ^ 31 by omega), hv, nI_clamp (show soA A h < 2 ^ 31 by omega)]
  refine ⟨vp_in_nI hh (by omega), vp_in_nI (by omega) (by omega), fun e => h0 (hl.mp e) M' hC' hE, fun e => h1 (Classical.byContradiction fun hc => e (hl.mpr hc)) M' hC' hE⟩

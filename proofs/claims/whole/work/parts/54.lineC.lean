/-! A LINE: the class serves it, and so does the reference -/
/-- the class's line after s -/
def LC (M0 : Mem) (s : LnS) (M : Mem) : Prop := M.2 = M0.2 ∧ (∀ k, k ≠ 73 → k ≠ 74 → M.1 k = M0.1 k) ∧ (∀ i, i < 4 → M.1 73 i = s.2.2.2 i) ∧ M.1 73 4 = nI s.2.2.1 ∧ ∀ k, k < 20 → M.1 74 k = nI (s.1 k)
theorem s_note {w : Nat} {M : Mem} (hw : w < 2 ^ 31) {post : Mem → Prop} (h : ∀ M', M'.2 = M.2 → (∀ k, k ≠ 73 → M'.1 k = M.1 k) → (∀ i, i < 4 → M'.1 73 i = accU (M.1 73) w i) → M'.1 73 4 = M.1 73 4 → post M') : qX5_note (nI w) M post := by
  rintro _ rfl _ rfl _ rfl
  refine ⟨fun hle => ?_, fun hle => ?_⟩
  · rintro _ rfl
    rw [show (0 : Int32) = nI 0 from rfl, nI_leI hw (by omega)] at hle
    have e : w = 0 := by omega
    refine h _ rfl (fun k hk => ?_) (fun i hi => ?_) ?_
    · rw [sA_1 k hk, sA_1 k hk, sA_1 k hk, sA_1 k hk]
    · match i, hi with
      | 0, _ => rfl
      | 1, _ => rfl
      | 2, _ => rfl
      | 3, _ =>
        show _ = M.1 73 3 + (if w = 0 then 0 else 1)
        rw [if_pos e]
        rfl
    · rfl
  · rintro _ rfl
    have e : ¬ w = 0 := by
      intro e
      subst e
      exact hle (Int32.le_refl _)
    refine h _ rfl (fun k hk => ?_) (fun i hi => ?_) ?_
    · rw [sA_1 k hk, sA_1 k hk, sA_1 k hk, sA_1 k hk]
    · match i, hi with
      | 0, _ => rfl
      | 1, _ => rfl
      | 2, _ => rfl
      | 3, _ =>
        show _ = M.1 73 3 + (if w = 0 then 0 else 1)
        rw [if_neg e]
        rfl
    · rfl
theorem accU_c {a b : Nat → Int32} {w : Nat} (h : ∀ i, i < 4 → a i = b i) (i : Nat) : accU a w i = accU b w i := by
  unfold accU
  rw [h 0 (by omega), h 1 (by omega), h 2 (by omega), h 3 (by omega)]
theorem s_serve {s m H K : Nat} {M : Mem} {c : Nat → Nat} (hs : s < 6) (hm : m ≤ 64) (hH : 1 ≤ H) (hH2 : H ≤ 20) (hK : K ≤ 100) (hc : ∀ j, j < m → c j ≤ 100 ∧ M.2 (3 + s) j = lN (c j)) {post : Mem → Prop} (h : ∀ M', LC M (lnA H K c m) M' → post M') : qX5_serve (nI s) (nI m) (nI H) (nI K) M post := by
  intro R39 R57 h39 h57
  have turn : ∀ t, t < m → ∀ j st, lnI H t (10001 * t + K * j) K st → j < c t → (∀ M', LC M (lnS H K t st) M' → R57 (nI (lnS H K t st).2.1) (nI t) (lN (c t)) (nI (j + 1)) M') → ∀ M', LC M st M' → R57 (nI st.2.1) (nI t) (lN (c t)) (nI j) M' := by
    intro t ht j st hI hj hp M' hL
    have hct := (hc t ht).1
    have hkj := mul100 hK (show j ≤ 100 by omega)
    have hfb := hI.2.2.2.2.1 st.2.1 hI.1
    apply h57
    unfold qX5_serve_b57
    rw [lg_cmp_ge, nI_l (show j < 2 ^ 31 by omega), lN_le (by omega) (by omega)]
    refine ⟨fun h => absurd h (by omega), fun _ => ⟨vp_in_nI (by have := hI.1; omega) (by omega), ?_⟩⟩
    rintro _ rfl
    rw [nI_clamp (show st.2.1 < 2 ^ 31 by have := hI.1; omega), hL.2.2.2.2 _ (by have := hI.1; omega), jmax_nI (by omega) (by omega), pk_sub (by omega)]
    refine s_note (by omega) (fun M2 g2 g1 ga ge => ?_)
    rintro _ rfl
    refine ⟨vp_in_nI (by have := hI.1; omega) (by omega), ?_⟩
    rintro _ rfl
    have hL' : LC M (lnS H K t st) (sA (sA M2 73 4 (nI (max t (st.1 st.2.1)) + nI K)) 74 st.2.1 ((sA M2 73 4 (nI (max t (st.1 st.2.1)) + nI K)).1 73 4)) := by
      refine ⟨g2.trans hL.1, fun k h1 h2 => ?_, fun i hi => ?_, ?_, fun k hk => ?_⟩
      · rw [sA_1 k h2, sA_1 k h1, g1 k h1]
        exact hL.2.1 k h1 h2
      · rw [sA_1 73 (by decide), sA_g, if_neg (by omega), ga i hi]
        exact accU_c hL.2.2.1 i
      · rw [sA_1 73 (by decide), sA_g, if_pos ⟨rfl, rfl⟩, nI_add]
        rfl
      · rw [sA_s, sA_1 74 (by decide), g1 74 (by decide), sA_g, if_pos ⟨rfl, rfl⟩, nI_add]
        show _ = nI (if k = st.2.1 then max t (st.1 st.2.1) + K else st.1 k)
        by_cases e : k = st.2.1
        · subst e
          rw [pk_us, if_pos rfl]
        · rw [pk_un e, if_neg e]
          exact hL.2.2.2.2 k hk
    have hp' := hp _ hL'
    rw [nI_1, nI_leI (by omega) (by have := hI.1; omega)]
    have ep : (lnS H K t st).2.1 = if st.2.1 + 1 < H then st.2.1 + 1 else 0 := rfl
    rw [ep] at hp'
    refine ⟨fun hx => ?_, fun hx => ?_⟩
    · rintro _ rfl
      rw [nI_1]
      rw [if_neg (by omega)] at hp'
      exact hp'
    · rintro _ rfl _ rfl
      rw [nI_1]
      rw [if_pos (by omega)] at hp'
      exact hp'
  have key : ∀ t, t ≤ m → ∀ M', LC M (lnA H K c t) M' → R39 (nI (lnA H K c t).2.1) (nI t) M' := by
    refine up_to (fun M' hL => ?_) (fun t ht ih M' hL => ?_)
    · apply h39
      exact ⟨fun _ => h M' hL, fun hx => absurd (nI_le (Nat.le_refl _) (by omega)) hx⟩
    · apply h39
      refine ⟨fun hx => absurd hx (nI_ge ht (by omega)), fun _ => ?_⟩
      unfold qX4_at
      rw [nI_clamp (show s < 2 ^ 31 by omega), nI_clamp (show t < 2 ^ 31 by omega)]
      refine ⟨vp_in_nI hs (by omega), vp_in_nI (by omega) (by omega), ?_⟩
      rw [hL.1, (hc t ht).2]
      have hA := lnI_A (c := c) (show 0 < H by omega) hK t (fun j hj => (hc j (by omega)).1)
      have hct := (hc t ht).1
      have key2 : ∀ j, j ≤ c t → ∀ M', LC M (lnT H K t j (lnA H K c t)) M' → R57 (nI (lnT H K t j (lnA H K c t)).2.1) (nI t) (lN (c t)) (nI j) M' := by
        refine up_to (fun M' hL => ?_) (fun j hj ih2 M' hL => ?_)
        · apply h57
          unfold qX5_serve_b57
          rw [lg_cmp_ge, nI_l (show c t < 2 ^ 31 by omega), lN_le (by omega) (by omega)]
          refine ⟨fun _ => ?_, fun hx => absurd (Nat.le_refl _) hx⟩
          rintro _ rfl
          rw [nI_1]
          exact ih M' hL
        · exact turn t ht j _ (lnI_T hA (by omega) j) hj ih2 M' hL
      exact key2 0 (Nat.zero_le _) M' hL
  rintro _ rfl _ rfl _ rfl _ rfl _ rfl
  refine s_fill (by decide) (key 0 (Nat.zero_le _) _ ⟨rfl, fun k h1 h2 => ?_, fun i hi => ?_, rfl, fun k hk => ?_⟩)
  · rw [sAr_g, if_neg h2, sA_1 k h1, sA_1 k h1, sA_1 k h1, sA_1 k h1, sA_1 k h1]
  · match i, hi with
    | 0, _ => rfl
    | 1, _ => rfl
    | 2, _ => rfl
    | 3, _ => rfl
  · rw [sAr_g, if_pos rfl, if_pos hk]
    rfl
/-- the reference's line after s -/
def LR (N0 : Mem) (H : Nat) (s : LnS) (N : Mem) : Prop := N.2 = N0.2 ∧ (∀ j, ¬ (30 ≤ j ∧ j ≤ 34) → N.1 0 j = N0.1 0 j) ∧ (∀ k, k ≠ 0 → k ≠ 25 → N.1 k = N0.1 k) ∧ (∀ i, i < 4 → N.1 0 (30 + i) = s.2.2.2 i) ∧ N.1 0 34 = nI s.2.2.1 ∧ ∃ fr : Nat → Nat, (∀ k, k < H → N.1 25 k = nI (fr k)) ∧ ∀ x, cnt fr x H = cnt s.1 x H
theorem r_step {s m H K : Nat} {N : Mem} {c : Nat → Nat} (hs : s < 6) (hm : m ≤ 64) (hH : 1 ≤ H) (hH2 : H ≤ 20) (hK : K ≤ 100) (hc : ∀ j, j < m → c j ≤ 100 ∧ N.2 3 (64 * s + j) = lN (c j)) {post : Mem → Prop} (h : ∀ N', LR N H (lnA H K c m) N' → post N') : qX7_step (nI s) (nI m) (nI H) (nI K) N post := by
  intro R28 R51 R60 R84 R184 h28 h51 h60 h84 h184
  have note : ∀ t, t < m → ∀ j st a (fr : Nat → Nat), lnI H t (10001 * t + K * j) K st → j < c t → a < H → fr a = st.1 st.2.1 → (∀ N', LR N H (lnS H K t st) N' → R60 (nI t) (nI (j + 1)) N') → ∀ N', LR N H st N' → (∀ k, k < H → N'.1 25 k = nI (fr k)) → (∀ x, cnt fr x H = cnt st.1 x H) → R84 (nI t) (nI j) (nI a) (nI H) N' := by
    intro t ht j st a fr hI hj ha hfa hp N' hL hfr hcn
    have hct := (hc t ht).1
    have hkj := mul100 hK (show j ≤ 100 by omega)
    have hfb := hI.2.2.2.2.1 st.2.1 hI.1
    have heb := hI.2.2.2.1
    apply h84
    refine ⟨fun _ => ?_, fun hx => absurd (nI_le (Nat.le_refl _) (by omega)) hx⟩
    rw [nI_clamp (show a < 2 ^ 31 by omega), hfr a ha, hfa, jmax_nI (by omega) (by omega)]
    refine ⟨vp_in_nI (by omega) (by omega), ?_⟩
    rintro _ rfl
    refine ⟨vp_in_nI (by omega) (by omega), ?_⟩
    rintro _ rfl _ rfl _ rfl
    rw [pk_sub (by omega), nI_add, nI_leI (by omega) (by omega)]
    have go : ∀ z : Int32, z = (if max t (st.1 st.2.1) - t = 0 then (0 : Int32) else 1) → R184 (nI t) (nI j) (nI a) (nI (max t (st.1 st.2.1))) z ((sA (sA (sA N' 25 a (nI (max t (st.1 st.2.1) + K))) 0 32 ((sA N' 25 a (nI (max t (st.1 st.2.1) + K))).1 0 32 + 1)) 0 31 ((sA (sA N' 25 a (nI (max t (st.1 st.2.1) + K))) 0 32 ((sA N' 25 a (nI (max t (st.1 st.2.1) + K))).1 0 32 + 1)).1 0 31 + nI (max t (st.1 st.2.1) - t))).1 0 33) (sA (sA (sA N' 25 a (nI (max t (st.1 st.2.1) + K))) 0 32 ((sA N' 25 a (nI (max t (st.1 st.2.1) + K))).1 0 32 + 1)) 0 31 ((sA (sA N' 25 a (nI (max t (st.1 st.2.1) + K))) 0 32 ((sA N' 25 a (nI (max t (st.1 st.2.1) + K))).1 0 32 + 1)).1 0 31 + nI (max t (st.1 st.2.1) - t))) := by
      intro z ez
      apply h184
      rintro _ rfl _ rfl
      refine ⟨vp_in_nI (by omega) (by omega), ?_⟩
      rw [nI_clamp (show a < 2 ^ 31 by omega)]
      rintro _ rfl _ rfl
      rw [nI_1, pk_sub (by omega)]
      refine hp _ ⟨hL.1, fun q hq => ?_, fun k h1 h2 => ?_, fun i hi => ?_, ?_, uN fr a (max t (st.1 st.2.1) + K), fun k hk => ?_, fun x => cnt_step hI.1 ha hcn hfa x⟩
      · rw [sA_g, if_neg (by omega), sA_g, if_neg (by omega), sA_g, if_neg (by omega), sA_g, if_neg (by omega), sA_g, if_neg (by omega), sA_1 0 (by decide)]
        exact hL.2.1 q hq
      · rw [sA_1 k h1, sA_1 k h1, sA_1 k h1, sA_1 k h1, sA_1 k h1, sA_1 k h2]
        exact hL.2.2.1 k h1 h2
      · have e0 := hL.2.2.2.1 0 (by omega)
        have e1 := hL.2.2.2.1 1 (by omega)
        have e2 := hL.2.2.2.1 2 (by omega)
        have e3 := hL.2.2.2.1 3 (by omega)
        match i, hi with
        | 0, _ =>
          show jmax (N'.1 0 30) (nI (max t (st.1 st.2.1) - t)) = jmax (st.2.2.2 0) (nI (max t (st.1 st.2.1) - t))
          rw [← e0]
        | 1, _ =>
          show N'.1 0 31 + nI (max t (st.1 st.2.1) - t) = st.2.2.2 1 + nI (max t (st.1 st.2.1) - t)
          rw [← e1]
        | 2, _ =>
          show N'.1 0 32 + 1 = st.2.2.2 2 + 1
          rw [← e2]
        | 3, _ =>
          show N'.1 0 33 + z = st.2.2.2 3 + _
          rw [← e3, ez]
      · show jmax (N'.1 0 34) ((upd (N'.1 25) a (nI (max t (st.1 st.2.1) + K))) a) = nI (max t (st.1 st.2.1) + K)
        rw [pk_us, hL.2.2.2.2.1, jmax_nI (by omega) (by omega), Nat.max_eq_right heb]
      · show upd (N'.1 25) a (nI (max t (st.1 st.2.1) + K)) k = nI (if k = a then _ else fr k)
        by_cases e : k = a
        · subst e
          rw [pk_us, if_pos rfl]
        · rw [pk_un e, if_neg e]
          exact hfr k hk
    exact ⟨fun hx => go 0 (by rw [if_pos (by omega)]), fun hx => go 1 (by rw [if_neg (by omega)])⟩
  have key : ∀ t, t ≤ m → ∀ N', LR N H (lnA H K c t) N' → R51 (nI t) N' := by
    refine up_to (fun N' hL => ?_) (fun t ht ih N' hL => ?_)
    · apply h51
      exact ⟨fun _ => h N' hL, fun hx => absurd (nI_le (Nat.le_refl _) (by omega)) hx⟩
    · apply h51
      refine ⟨fun hx => absurd hx (nI_ge ht (by omega)), fun _ => ?_⟩
      have hA := lnI_A (c := c) (show 0 < H by omega) hK t (fun j hj => (hc j (by omega)).1)
      have hct := (hc t ht).1
      have key2 : ∀ j, j ≤ c t → ∀ N', LR N H (lnT H K t j (lnA H K c t)) N' → R60 (nI t) (nI j) N' := by
        refine up_to (fun N' hL => ?_) (fun j hj ih2 N' hL => ?_)
        · apply h60
          unfold qX7_step_b60
          rw [ix64, nI_clamp (show 64 * s + t < 2 ^ 31 by omega), hL.1, (hc t ht).2, lN_i]
          refine ⟨vp_in_nI (by omega) (by omega), fun _ => ?_, fun hx => absurd (nI_le (Nat.le_refl _) (by omega)) hx⟩
          rintro _ rfl
          rw [nI_1]
          exact ih N' hL
        · apply h60
          unfold qX7_step_b60
          rw [ix64, nI_clamp (show 64 * s + t < 2 ^ 31 by omega), hL.1, (hc t ht).2, lN_i]
          refine ⟨vp_in_nI (by omega) (by omega), fun hx => absurd hx (nI_ge hj (by omega)), fun _ => ?_⟩
          have hI := lnI_T hA (by omega) j
          obtain ⟨fr, hfr, hcn⟩ := hL.2.2.2.2.2
          have hkj := mul100 hK (show j ≤ 100 by omega)
          have hfb : ∀ k, k < H → fr k ≤ 10001 * t + K * j := by
            intro k hk
            have p1 := cnt_pos (rfl : fr k = fr k) H hk
            rw [hcn] at p1
            obtain ⟨k', hk', e'⟩ := cnt_in H p1
            rw [← e']
            exact hI.2.2.2.2.1 k' hk'
          have key3 : ∀ k, k ≤ H → 1 ≤ k → ∀ a, a < k → (∀ i, i < k → fr a ≤ fr i) → R84 (nI t) (nI j) (nI a) (nI k) N' := by
            refine up_to (fun _ a ha hmin => ?_) (fun k hk ih3 h1 a ha hmin => ?_)
            · exact note t ht j _ a fr hI hj ha (cnt_min hI.1 ha (fun i hi => hI.min hi) hmin hcn) ih2 N' hL hfr hcn
            · apply h84
              refine ⟨fun hx => absurd hx (nI_ge hk (by omega)), fun _ => ⟨vp_in_nI (by omega) (by omega), vp_in_nI (by omega) (by omega), ?_⟩⟩
              have b1 := hfb a (by omega)
              have b2 := hfb k hk
              rw [nI_clamp (show a < 2 ^ 31 by omega), nI_clamp (show k < 2 ^ 31 by omega), hfr a (by omega), hfr k hk, nI_leI (by omega) (by omega)]
              refine ⟨fun hx => ?_, fun hx => ?_⟩
              · rintro _ rfl
                rw [nI_1]
                refine ih3 (by omega) a (by omega) (fun i hi => ?_)
                by_cases e : i = k
                · subst e; exact hx
                · exact hmin i (by omega)
              · rintro _ rfl
                rw [nI_1]
                refine ih3 (by omega) k (by omega) (fun i hi => ?_)
                by_cases e : i = k
                · subst e; exact Nat.le_refl _
                · have := hmin i (by omega)
                  omega
          exact key3 1 hH (Nat.le_refl _) 0 (by omega) (fun i hi => by rw [show i = 0 by omega]; exact Nat.le_refl _)
      exact key2 0 (Nat.zero_le _) N' hL
  rintro _ rfl _ rfl _ rfl _ rfl _ rfl
  have fill : ∀ i, i ≤ H → R28 (nI i) (sAr (sA (sA (sA (sA (sA N 0 30 0) 0 31 0) 0 32 0) 0 33 0) 0 34 0) 25 (fun j => if 0 ≤ j ∧ j < i then 0 else N.1 25 j)) := by
    refine up_to ?_ (fun i hi ih => ?_)
    · apply h28
      refine ⟨fun _ => ?_, fun hx => absurd (nI_le (Nat.le_refl _) (by omega)) hx⟩
      refine key 0 (Nat.zero_le _) _ ⟨rfl, fun q hq => ?_, fun k h1 h2 => ?_, fun i hi => ?_, rfl, fun _ => 0, fun k hk => ?_, fun x => rfl⟩
      · rw [sAr_g, if_neg (by decide), sA_g, if_neg (by omega), sA_g, if_neg (by omega), sA_g, if_neg (by omega), sA_g, if_neg (by omega), sA_g, if_neg (by omega)]
      · rw [sAr_g, if_neg h2, sA_1 k h1, sA_1 k h1, sA_1 k h1, sA_1 k h1, sA_1 k h1]
      · match i, hi with
        | 0, _ => rfl
        | 1, _ => rfl
        | 2, _ => rfl
        | 3, _ => rfl
      · rw [sAr_g, if_pos rfl, if_pos (by omega)]
        rfl
    · apply h28
      refine ⟨fun hx => absurd hx (nI_ge hi (by omega)), fun _ => ⟨vp_in_nI (by omega) (by omega), ?_⟩⟩
      rintro _ rfl _ rfl
      rw [nI_1, nI_clamp (show i < 2 ^ 31 by omega), sAr_up, upd_below (by omega)]
      exact ih
  have h0 := fill 0 (Nat.zero_le _)
  rw [fill_nil] at h0
  have e : sAr (sA (sA (sA (sA (sA N 0 30 0) 0 31 0) 0 32 0) 0 33 0) 0 34 0) 25 (N.1 25) = sA (sA (sA (sA (sA N 0 30 0) 0 31 0) 0 32 0) 0 33 0) 0 34 0 := sAr_id (M := sA (sA (sA (sA (sA N 0 30 0) 0 31 0) 0 32 0) 0 33 0) 0 34 0) (k := 25)
  rw [e] at h0
  exact h0

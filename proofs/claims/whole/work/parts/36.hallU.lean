/-! THE CLASS: LAYING, LACK, LEFT, ENOUGH -/
def oI : Option Nat → Int32
  | none => -1
  | some m => nI m
/-- the machine of an ask in the laying, from machine m on, d machines being left -/
def layF (g : Nat → Nat → Nat) (st : Nat → Bool) (ask : Nat) : Nat → Nat → Nat → Option Nat
  | 0, _, _ => none
  | d + 1, m, s => if st m = true then (if (g m s).testBit ask = true then some m else layF g st ask d (m + 1) (s ^^^ g m s)) else layF g st ask d (m + 1) s
noncomputable def layA (A : Abs) (w ask h : Nat) : Option Nat := layF (grA A w) (wSt w) ask (A 0 0) 0 (soA A h)
theorem grA_sb {A : Abs} {w m s : Nat} : sb (grA A w m s) s := by
  rcases gs_in (goodT A w m s) s with h | h
  · unfold grA
    rw [h]
    exact sb_0 s
  · exact h.1
theorem ak_sub {A : Abs} {ak : Nat → Int32} (hK : AK A ak) {h s : Nat} (hh : h < 24) (hs : sb s (soA A h)) : s = 0 ∨ ¬ ak s = 0 := by
  by_cases e : s = 0
  · exact Or.inl e
  · exact Or.inr (hK.1 h s hh e hs)
theorem s_laying {A : Abs} {M : Mem} {w h ask : Nat} (hR : HR A) (hC : HC A M) (hw : w < 2 ^ A 0 0) (hh : h < 24) (hask : ask < A 0 1) {post : Int32 → Mem → Prop} (hp : ∀ M', HC A M' → EqT M M' → post (oI (layA A w ask h)) M') : qX1_layingOf (nI h) (nI w) (nI ask) M post := by
  have h10 := pw10 hR
  have h12 := pw12 hR
  have hn12 := hR.1
  have hna := hR.2.1
  have hso := soA_lt A h
  intro R16 h16
  refine s_findLatest hR hC hw (fun M' hC' hE ht => ?_)
  have hv : M'.1 16 h = nI (soA A h) := hC'.1.2.2.2.2.2.2.2.1 h hh
  have hAK : AK A (M'.1 19) := hC'.1.2.2.2.2.2.2.2.2
  have hn : M'.1 11 0 = nI (A 0 0) := hC'.1.1
  rw [nI_clamp (show h < 2 ^ 31 by omega), hv]
  refine ⟨vp_in_nI hh (by omega), ?_⟩
  rintro _ rfl
  have key : ∀ (d m s : Nat), m + d = A 0 0 → sb s (soA A h) → post (oI (layF (grA A w) (wSt w) ask d m s)) M' → R16 (nI s) (nI m) M' := by
    intro d
    induction d with
    | zero =>
      intro m s hm hs hpost
      apply h16
      unfold qX1_layingOf_b16
      rw [hn]
      exact ⟨fun _ => hpost, fun h3 => absurd (nI_le (show A 0 0 ≤ m by omega) (by omega)) h3⟩
    | succ d ih =>
      intro m s hm hs hpost
      have hs2 := sb_le hs
      have hg := sb_le (grA_sb (A := A) (w := w) (m := m) (s := s))
      apply h16
      unfold qX1_layingOf_b16
      rw [hn]
      refine ⟨fun h3 => absurd h3 (nI_ge (show m < A 0 0 by omega) (by omega)), fun _ => s_has (by omega) (by omega) (fun hb => b1_e ?_) (fun hb => b0_e ?_)⟩
      · refine s_greatest (w := w) hR (by omega) (by omega) (hC'.1.2.2.2.1 m (by omega)) hC'.2.1 (fun x hx => ?_) ?_
        · have hx2 := sb_le hx
          have h7 := Lt_gt (ht x (by omega) (ak_sub hAK hh (sb_tr hx hs))) (Nat.le_refl _) (i := 11 - m) (by omega) (by omega)
          rw [show 11 - (11 - m) = m by omega] at h7
          exact h7
        · refine s_has (by omega) (by omega) (fun hb2 => b1_e ?_) (fun hb2 => b0_e ?_)
          · have e : layF (grA A w) (wSt w) ask (d + 1) m s = some m := by
              show (if wSt w m = true then _ else _) = _
              rw [if_pos (show wSt w m = true from hb), if_pos hb2]
            rw [e] at hpost
            exact hpost
          · rintro _ rfl _ rfl
            rw [bx_xor, nI_1]
            have e : layF (grA A w) (wSt w) ask (d + 1) m s = layF (grA A w) (wSt w) ask d (m + 1) (s ^^^ grA A w m s) := by
              show (if wSt w m = true then _ else _) = _
              rw [if_pos (show wSt w m = true from hb), if_neg (by rw [hb2]; decide)]
            rw [e] at hpost
            exact ih (m + 1) _ (by omega) (sb_tr (sb_xor grA_sb) hs) hpost
      · rintro _ rfl
        rw [nI_1]
        have e : layF (grA A w) (wSt w) ask (d + 1) m s = layF (grA A w) (wSt w) ask d (m + 1) s := by
          show (if wSt w m = true then _ else _) = _
          rw [if_neg (show ¬ wSt w m = true by rw [show wSt w m = false from hb]; decide)]
        rw [e] at hpost
        exact ih (m + 1) s (by omega) hs hpost
  exact key (A 0 0) 0 (soA A h) (by omega) (sb_rf _) (hp M' hC' hE)
/-- the most of f over those below n that have P, and 0 -/
noncomputable def mxs (P : Nat → Prop) (f : Nat → Nat) : Nat → Nat
  | 0 => 0
  | n + 1 => max (mxs P f n) (cI (P n) (f n) 0)
theorem mxs_skip {P : Nat → Prop} {f : Nat → Nat} {u t : Nat} (hu : u ≤ t) (h : ∀ x, u ≤ x → x < t → ¬ P x) : mxs P f t = mxs P f u := by
  obtain ⟨d, rfl⟩ : ∃ d, t = u + d := ⟨t - u, by omega⟩
  induction d with
  | zero => rfl
  | succ d ih =>
    show max (mxs P f (u + d)) (cI (P (u + d)) (f (u + d)) 0) = _
    rw [cI_f (h (u + d) (by omega) (by omega)), ih (by omega) (fun x h1 h2 => h x h1 (by omega))]
    omega
noncomputable def mxA (A : Abs) (w s : Nat) : Nat := mxs (fun t => sb t s ∧ canA A w 12 t) (ldA A) (s + 1)
theorem jmax_nI {a b : Nat} (ha : a < 2 ^ 31) (hb : b < 2 ^ 31) : jmax (nI a) (nI b) = nI (max a b) := by
  unfold jmax
  by_cases h : a < b
  · rw [if_pos (nI_lt h hb), Nat.max_eq_right (by omega)]
  · rw [if_neg (nI_nlt (by omega) ha), Nat.max_eq_left (by omega)]
theorem jmin_nI {a b : Nat} (ha : a < 2 ^ 31) (hb : b < 2 ^ 31) : jmin (nI a) (nI b) = nI (min a b) := by
  unfold jmin
  by_cases h : b < a
  · rw [if_pos (nI_lt h ha), Nat.min_eq_right (by omega)]
  · rw [if_neg (nI_nlt (by omega) hb), Nat.min_eq_left (by omega)]
theorem s_lacking {A : Abs} {M : Mem} {w h : Nat} (hR : HR A) (hC : HC A M) (hw : w < 2 ^ A 0 0) (hh : h < 24) {post : Int32 → Mem → Prop} (hp : ∀ M', HC A M' → EqT M M' → post (nI (ldA A (soA A h)) - nI (mxA A w (soA A h))) M') : qX1_lacking (nI h) (nI w) M post := by
  have h10 := pw10 hR
  have hso := soA_lt A h
  intro R18 h18
  refine s_findLatest hR hC hw (fun M' hC' hE ht => ?_)
  have hv : M'.1 16 h = nI (soA A h) := hC'.1.2.2.2.2.2.2.2.1 h hh
  have hAK : AK A (M'.1 19) := hC'.1.2.2.2.2.2.2.2.2
  have hT : HT A M' := hC'.2.1
  rw [nI_clamp (show h < 2 ^ 31 by omega), hv]
  refine ⟨vp_in_nI hh (by omega), ?_⟩
  rintro _ rfl
  have key : ∀ t, sb t (soA A h) → ∀ acc, acc ≤ 1000 → post (nI (ldA A (soA A h)) - nI (max acc (mxs (fun t => sb t (soA A h) ∧ canA A w 12 t) (ldA A) (t + 1)))) M' → R18 (nI (soA A h)) (nI acc) (nI t) M' := by
    intro t
    induction t using Nat.strongRecOn with
    | ind t ih =>
      intro hts acc hacc hpost
      have hle := sb_le hts
      have hld := ldA_le hR t
      apply h18
      unfold qX1_lacking_b18
      rw [nI_clamp (show soA A h < 2 ^ 31 by omega), nI_clamp (show t < 2 ^ 31 by omega), (hT _ hso).1, (hT t (by omega)).1, jmax_nI (by omega) (by omega), show (1 : Int32) = nI 1 from rfl]
      have hl := Lt_neg (ht t (by omega) (ak_sub hAK hh hts)) (Nat.le_refl _)
      -- what is left below t
      have low : 0 < t → mxs (fun t => sb t (soA A h) ∧ canA A w 12 t) (ldA A) t = mxs (fun t => sb t (soA A h) ∧ canA A w 12 t) (ldA A) (((t - 1) &&& soA A h) + 1) := fun h0 => by
        have hlt : (t - 1) &&& soA A h < t := Nat.lt_of_le_of_lt Nat.and_le_left (by omega)
        refine mxs_skip (by omega) (fun x h1 h2 hx => ?_)
        have := sb_next t (soA A h) x hts hx.1 h2
        omega
      refine ⟨fun h0 => ⟨vp_in_nI (by omega) (by omega), ?_⟩, fun h0 => ⟨vp_in_nI (by omega) (by omega), fun e => ?_, fun e => ⟨vp_in_nI (by omega) (by omega), ?_⟩⟩⟩
      · have hz : t = 0 := by
          have h1 : nI t ≤ nI 0 := h0
          rw [nI_leI (by omega) (by omega)] at h1
          omega
        subst hz
        have e : max acc (mxs (fun t => sb t (soA A h) ∧ canA A w 12 t) (ldA A) (0 + 1)) = acc := by
          show max acc (max 0 (cI _ (ldA A 0) 0)) = acc
          rw [cI_t ⟨sb_0 _, can_0 _⟩, show ldA A 0 = 0 from sumB_0 _]
          omega
        rw [e] at hpost
        exact hpost
      all_goals
        have hpos : 0 < t := by
          rcases Nat.eq_zero_or_pos t with e0 | e0
          · subst e0; exact absurd (show (0 : Int32) ≤ 0 by decide) h0
          · exact e0
        have hlt : (t - 1) &&& soA A h < t := Nat.lt_of_le_of_lt Nat.and_le_left (by omega)
        have hstep : mxs (fun t => sb t (soA A h) ∧ canA A w 12 t) (ldA A) (t + 1) = max (mxs (fun t => sb t (soA A h) ∧ canA A w 12 t) (ldA A) t) (cI (sb t (soA A h) ∧ canA A w 12 t) (ldA A t) 0) := rfl
      · rintro _ rfl
        rw [pk_sub (by omega), bx_and]
        refine ih _ hlt (sb_and _ _) acc hacc ?_
        rw [hstep, cI_f (fun hx => (hl.mp e) hx.2), low hpos, Nat.max_eq_left (Nat.zero_le _)] at hpost
        exact hpost
      · rintro _ rfl _ rfl
        rw [pk_sub (by omega), bx_and]
        refine ih _ hlt (sb_and _ _) (max acc (ldA A t)) (by omega) ?_
        have hcan : canA A w 12 t := Classical.byContradiction fun hc => e (hl.mpr hc)
        rw [hstep, cI_t ⟨hts, hcan⟩, low hpos, Nat.max_comm (mxs _ _ _) (ldA A t), ← Nat.max_assoc] at hpost
        exact hpost
  refine key (soA A h) (sb_rf _) 0 (by omega) ?_
  rw [Nat.max_eq_right (Nat.zero_le _)]
  exact hp M' hC' hE
theorem sumB_cut {f : Nat → Nat} {w n m : Nat} (hw : w < 2 ^ n) (hm : n ≤ m) : sumB f w m = sumB f w n := by
  obtain ⟨d, rfl⟩ : ∃ d, m = n + d := ⟨m - n, by omega⟩
  induction d with
  | zero => rfl
  | succ d ih =>
    show sumB f w (n + d) + (if w.testBit (n + d) = true then f (n + d) else 0) = _
    rw [ih (by omega), if_neg (by rw [bit_lt hw (by omega)]; decide)]
    rfl
theorem sumS_B {w : Nat} {sz : Nat → Nat} : ∀ j, j ≤ 12 → sumS (wSt w) sz j + sumB sz w (12 - j) = sumB sz w 12
  | 0, _ => Nat.zero_add _
  | j + 1, hj => by
    have ih := sumS_B (w := w) (sz := sz) j (by omega)
    have e : 12 - j = (11 - j) + 1 := by omega
    rw [e] at ih
    have ih2 : sumS (wSt w) sz j + (sumB sz w (11 - j) + (if w.testBit (11 - j) = true then sz (11 - j) else 0)) = sumB sz w 12 := ih
    show (sumS (wSt w) sz j + (if wSt w (11 - j) = true then sz (11 - j) else 0)) + sumB sz w (12 - (j + 1)) = _
    rw [show 12 - (j + 1) = 11 - j by omega]
    have e2 : wSt w (11 - j) = w.testBit (11 - j) := rfl
    rw [e2]
    omega
theorem can_left {A : Abs} {w s : Nat} (hR : HR A) (hw : w < 2 ^ A 0 0) (h : canA A w 12 s) : ldA A s ≤ sumB (A 1) w (A 0 0) := by
  have h1 := can_ld h
  have h2 := sumS_B (w := w) (sz := A 1) 12 (Nat.le_refl _)
  rw [sumB_cut hw hR.1] at h2
  have h3 : sumB (A 1) w (12 - 12) = 0 := rfl
  omega
noncomputable def lfA (A : Abs) (w h : Nat) : Nat := cI (canA A w 12 (soA A h)) (sumB (A 1) w (A 0 0) - ldA A (soA A h)) 0
theorem sumB_le2 {A : Abs} (hR : HR A) (w : Nat) : sumB (A 1) w (A 0 0) ≤ 1200 := by
  have h1 := sumB_le (f := A 1) (s := w) (b := 100) (A 0 0) (fun k hk => (hR.2.2.1 k hk).2.1)
  have := hR.1
  omega
theorem lfA_le {A : Abs} (hR : HR A) (w h : Nat) : lfA A w h ≤ 1200 := by
  have h1 := sumB_le2 hR w
  unfold lfA
  by_cases hc : canA A w 12 (soA A h)
  · rw [cI_t hc]; omega
  · rw [cI_f hc]; omega
theorem s_leftOver {A : Abs} {M : Mem} {w h : Nat} (hR : HR A) (hC : HC A M) (hw : w < 2 ^ A 0 0) (hh : h < 24) {post : Int32 → Mem → Prop} (hp : ∀ M', HC A M' → EqT M M' → post (nI (lfA A w h)) M') : qX1_leftOver (nI h) (nI w) M post := by
  have h10 := pw10 hR
  have h12 := pw12 hR
  have hso := soA_lt A h
  refine s_findLatest hR hC hw (fun M' hC' hE ht => ?_)
  have hv : M'.1 16 h = nI (soA A h) := hC'.1.2.2.2.2.2.2.2.1 h hh
  have hAK : AK A (M'.1 19) := hC'.1.2.2.2.2.2.2.2.2
  have hl := Lt_neg (ht _ hso (ak_sub hAK hh (sb_rf _))) (Nat.le_refl _)
  have hpost := hp M' hC' hE
  rw [nI_clamp (show h < 2 ^ 31 by omega), hv]
  refine ⟨vp_in_nI hh (by omega), ?_⟩
  rintro _ rfl
  rw [nI_clamp (show soA A h < 2 ^ 31 by omega)]
  refine ⟨vp_in_nI (by omega) (by omega), fun e => ?_, fun e => ?_⟩
  · unfold lfA at hpost
    have hcn : ¬ canA A w 12 (soA A h) := hl.mp e
    rw [cI_f hcn] at hpost
    exact hpost
  · have hcan : canA A w 12 (soA A h) := Classical.byContradiction fun hc => e (hl.mpr hc)
    refine s_sizeOf hR hC'.1 (by omega) ⟨vp_in_nI (by omega) (by omega), ?_⟩
    rw [(hC'.2.1 _ hso).1, pk_sub (can_left hR hw hcan)]
    unfold lfA at hpost
    rw [cI_t hcan] at hpost
    exact hpost
/-- the first below n that has P; else n -/
noncomputable def fst1 (P : Nat → Prop) : Nat → Nat
  | 0 => 0
  | n + 1 => cI (fst1 P n < n) (fst1 P n) (cI (P n) n (n + 1))
theorem fst1_none {P : Nat → Prop} : ∀ n, (∀ x, x < n → ¬ P x) → fst1 P n = n
  | 0, _ => rfl
  | n + 1, h => by
    show cI (fst1 P n < n) (fst1 P n) (cI (P n) n (n + 1)) = n + 1
    rw [fst1_none n (fun x hx => h x (by omega)), cI_f (Nat.lt_irrefl n), cI_f (h n (by omega))]
theorem fst1_hit {P : Nat → Prop} {i : Nat} (hi : P i) (h : ∀ x, x < i → ¬ P x) : ∀ n, i < n → fst1 P n = i
  | 0, hn => by omega
  | n + 1, hn => by
    show cI (fst1 P n < n) (fst1 P n) (cI (P n) n (n + 1)) = i
    by_cases e : i = n
    · subst e
      rw [fst1_none i h, cI_f (Nat.lt_irrefl i), cI_t hi]
    · rw [fst1_hit hi h n (by omega), cI_t (by omega)]
theorem fst1_le {P : Nat → Prop} : ∀ n, fst1 P n ≤ n
  | 0 => Nat.le_refl _
  | n + 1 => by
    show cI (fst1 P n < n) (fst1 P n) (cI (P n) n (n + 1)) ≤ n + 1
    have := fst1_le (P := P) n
    by_cases h : fst1 P n < n
    · rw [cI_t h]; omega
    · rw [cI_f h]
      by_cases h2 : P n
      · rw [cI_t h2]; omega
      · rw [cI_f h2]; omega
def lookP (A : Abs) (d f : Nat) : Prop := (f = 0 ∨ 1 ≤ d) ∧ (f ≤ A 0 0 ∨ 13 ≤ f) ∧ (f ≤ 12 ∨ d = 2)
def unfit (A : Abs) (f h : Nat) : Prop := ¬ canA A (stA A f) 12 (soA A h)
/-- the first hour and fall, after f falls -/
noncomputable def enF (A : Abs) (d : Nat) : Nat → Nat × Nat
  | 0 => (24, 0)
  | f + 1 => cI (lookP A d f ∧ fst1 (unfit A f) (enF A d f).1 < (enF A d f).1) (fst1 (unfit A f) (enF A d f).1, f) (enF A d f)
noncomputable def enA (A : Abs) (d : Nat) : Int32 := cI ((enF A d 17).1 = 24) (-2) (100 * nI (enF A d 17).1 + nI (enF A d 17).2)
theorem enF_le {A : Abs} {d : Nat} : ∀ f, (enF A d f).1 ≤ 24
  | 0 => Nat.le_refl _
  | f + 1 => by
    show (cI _ _ (enF A d f)).1 ≤ 24
    have := enF_le (A := A) (d := d) f
    by_cases h : lookP A d f ∧ fst1 (unfit A f) (enF A d f).1 < (enF A d f).1
    · rw [cI_t h]
      show fst1 (unfit A f) (enF A d f).1 ≤ 24
      omega
    · rw [cI_f h]; exact this
theorem enF_2 {A : Abs} {d : Nat} : ∀ f, (enF A d f).2 ≤ f
  | 0 => Nat.le_refl _
  | f + 1 => by
    show (cI _ _ (enF A d f)).2 ≤ f + 1
    have := enF_2 (A := A) (d := d) f
    by_cases h : lookP A d f ∧ fst1 (unfit A f) (enF A d f).1 < (enF A d f).1
    · rw [cI_t h]
      show f ≤ f + 1
      omega
    · rw [cI_f h]; omega
theorem enF_0 {A : Abs} {d f : Nat} (h : (enF A d f).1 = 0) : ∀ g, f ≤ g → enF A d g = enF A d f := by
  intro g hg
  obtain ⟨e, rfl⟩ : ∃ e, g = f + e := ⟨g - f, by omega⟩
  induction e with
  | zero => rfl
  | succ e ih =>
    show cI _ _ (enF A d (f + e)) = _
    rw [cI_f (fun hx => by
      have this : fst1 (unfit A (f + e)) (enF A d (f + e)).1 < (enF A d (f + e)).1 := hx.2
      rw [ih (by omega), h] at this
      omega)]
    exact ih (by omega)
theorem s_firstUnfitHour {A : Abs} {M : Mem} {f e : Nat} (hR : HR A) (hC : HC A M) (he : e ≤ 24) {post : Int32 → Mem → Prop} (hp : ∀ M', HC A M' → EqT M M' → post (nI (fst1 (unfit A f) e)) M') : qX1_firstUnfitHour (nI (stA A f)) (nI e) M post := by
  intro R2 h2
  have key : ∀ i, i ≤ e → ∀ M', HC A M' → EqT M M' → (∀ x, x < i → ¬ unfit A f x) → R2 (nI i) M' := by
    refine up_to (fun M' hC' hE hx => ?_) (fun i hi ih M' hC' hE hx => ?_)
    · apply h2
      refine ⟨fun _ => ?_, fun h3 => absurd (nI_le (Nat.le_refl _) (by omega)) h3⟩
      have := hp M' hC' hE
      rw [fst1_none e hx] at this
      exact this
    · apply h2
      refine ⟨fun h3 => absurd h3 (nI_ge hi (by omega)), fun _ => s_holds hR hC' (stA_lt A f) (by omega) (fun hcan M2 hC2 hE2 => b1_n ?_) (fun hcan M2 hC2 hE2 => b0_n ?_)⟩
      · rintro _ rfl
        rw [nI_1]
        refine ih M2 hC2 (hE.tr hE2) (fun x hxi hu => ?_)
        by_cases ex : x = i
        · subst ex; exact hu hcan
        · exact hx x (by omega) hu
      · have := hp M2 hC2 (hE.tr hE2)
        rw [fst1_hit (P := unfit A f) hcan hx e hi] at this
        exact this
  exact key 0 (Nat.zero_le _) M hC (EqT.rf M) (fun x h => by omega)
theorem s_look {A : Abs} {M : Mem} {d f : Nat} (hR : HR A) (hC : HC A M) (hd : d ≤ 2) (hf : f < 17) {post : Int32 → Mem → Prop} (h1 : lookP A d f → post 1 M) (h0 : ¬ lookP A d f → post 0 M) : qX1_isLookedAt (nI f) (nI d) M post := by
  have hn := hC.1.1
  have hn12 := hR.1
  unfold qX1_isLookedAt
  rw [hn, show (12 : Int32) = nI 12 from rfl, show (2 : Int32) = nI 2 from rfl, nI_leI (by omega) (by omega), nI_ltI (by omega) (by omega), nI_eq (by omega) (by omega)]
  refine ⟨fun h3 => ⟨fun e => h1 ?_, fun e => ⟨fun e2 => h0 ?_, fun e2 => ⟨fun e3 => h0 ?_, fun e3 => h1 ?_⟩⟩⟩, fun h3 => ⟨fun e => h0 ?_, fun e => h1 ?_⟩⟩
  all_goals unfold lookP
  · have : f = 0 := by
      have e2 : nI f = nI 0 := e
      rwa [nI_eq (by omega) (by omega)] at e2
    omega
  · have e4 : nI d ≤ nI 0 := e2
    have e5 : ¬ nI f = nI 0 := e
    rw [nI_leI (by omega) (by omega)] at e4
    rw [nI_eq (by omega) (by omega)] at e5
    omega
  · have e5 : ¬ nI f = nI 0 := e
    rw [nI_eq (by omega) (by omega)] at e5
    omega
  · have e4 : ¬ nI d ≤ nI 0 := e2
    rw [nI_leI (by omega) (by omega)] at e4
    omega
  · omega
  · omega
theorem s_firstUnfit {A : Abs} {M : Mem} {d : Nat} (hR : HR A) (hC : HC A M) (hd : d ≤ 2) {post : Int32 → Mem → Prop} (hp : ∀ M', HC A M' → EqT M M' → post (enA A d) M') : qX1_firstUnfit (nI d) M post := by
  intro R8 h8
  -- the answer out of a state
  have fin : ∀ M', HC A M' → EqT M M' → ∀ f, enF A d 17 = enF A d f → (¬ nI (enF A d f).1 = 24 → post (100 * nI (enF A d f).1 + nI (enF A d f).2) M') ∧ (nI (enF A d f).1 = 24 → post (-2) M') := by
    intro M' hC' hE f ef
    have h := hp M' hC' hE
    have hle := enF_le (A := A) (d := d) f
    unfold enA at h
    rw [ef] at h
    refine ⟨fun e => ?_, fun e => ?_⟩
    · rw [cI_f (fun e2 => e (by rw [e2]; rfl))] at h
      exact h
    · have e2 : (enF A d f).1 = 24 := by
        have e3 : nI (enF A d f).1 = nI 24 := e
        rwa [nI_eq (by omega) (by omega)] at e3
      rw [cI_t e2] at h
      exact h
  have key : ∀ f, f ≤ 17 → ∀ M', HC A M' → EqT M M' → R8 (nI (enF A d f).1) (nI (enF A d f).2) (nI f) M' := by
    refine up_to (fun M' hC' hE => ?_) (fun f hf ih M' hC' hE => ?_)
    · apply h8
      exact ⟨fun _ => fin M' hC' hE 17 rfl, fun h3 => absurd (show (17 : Int32) ≤ nI 17 by decide) h3⟩
    · have hle := enF_le (A := A) (d := d) f
      have h17 : ¬ (17 : Int32) ≤ nI f := nI_ge (a := f) (b := 17) (by omega) (by omega)
      apply h8
      refine ⟨fun h3 => absurd h3 h17, fun _ => ⟨fun h3 => ?_, fun h3 => ?_⟩⟩
      · have hz : (enF A d f).1 = 0 := by
          have h4 : nI (enF A d f).1 ≤ nI 0 := h3
          rw [nI_leI (by omega) (by omega)] at h4
          omega
        exact fin M' hC' hE f (enF_0 hz 17 (by omega))
      · refine s_look hR hC' hd hf (fun hl => b1_e ?_) (fun hl => b0_e ?_)
        · refine s_standing hR hC'.1 (by omega) ?_
          refine s_firstUnfitHour hR hC' hle (fun M2 hC2 hE2 => ?_)
          have hfl := fst1_le (P := unfit A f) (enF A d f).1
          rw [nI_leI (by omega) (by omega)]
          refine ⟨fun h4 => ?_, fun h4 => ?_⟩
          · rintro _ rfl
            rw [nI_1]
            have e : enF A d (f + 1) = enF A d f := cI_f (fun hx => by have := hx.2; omega)
            have h5 := ih M2 hC2 (hE.tr hE2)
            rw [e] at h5
            rw [show fst1 (unfit A f) (enF A d f).1 = (enF A d f).1 by omega]
            exact h5
          · rintro _ rfl
            rw [nI_1]
            have e : enF A d (f + 1) = (fst1 (unfit A f) (enF A d f).1, f) := cI_t ⟨hl, by omega⟩
            have h5 := ih M2 hC2 (hE.tr hE2)
            rw [e] at h5
            exact h5
        · rintro _ rfl
          rw [nI_1]
          have e : enF A d (f + 1) = enF A d f := cI_f (fun hx => hl hx.1)
          have h5 := ih M' hC' hE
          rw [e] at h5
          exact h5
  exact key 0 (by omega) M hC (EqT.rf M)

/-! THE REFERENCE: ON, LACK, LEFT, ENOUGH -/
theorem LK.can0 {A : Abs} {f : Nat} {N : Mem} (h : LK A f N) {s : Nat} (hs : s < 2 ^ A 0 1) : N.1 13 s = bI (canA A (stA A f) 12 s) := by
  have := h.2 0 (Nat.zero_le _) s hs
  rw [Nat.mul_zero, Nat.zero_add] at this
  exact this
theorem r_isAsk {A : Abs} {N : Mem} {a : Int32} (hR : HR A) (hN : HN A N) {post : Int32 → Mem → Prop} (h1 : ∀ k, k < A 0 1 → a = nI k → post 1 N) (h0 : (a.toInt < 0 ∨ (A 0 1 : Int) ≤ a.toInt) → post 0 N) : qX7_isAsk a N post := by
  have := hR.2.1
  unfold qX7_isAsk
  rw [hN.2.1, Int32.lt_iff_toInt_lt, Int32.le_iff_toInt_le, Int32.toInt_zero, nI_toInt (by omega)]
  refine ⟨fun h => h0 (Or.inl h), fun h => ⟨fun h2 => h0 (Or.inr h2), fun h2 => ?_⟩⟩
  obtain ⟨k, hk, _, e⟩ := nat_of (a := a) (n := A 0 1 - 1) (by omega) (by omega)
  exact h1 k (by omega) e
/-- the loop over a row of subsets: on -/
theorem r_onloop {A : Abs} {N : Mem} {f h ask : Nat} (hR : HR A) (hN : HN A N) (hL : LK A f N) (hf : f ≤ 16) (hask : ask < A 0 1) {post : Int32 → Mem → Prop} (R77 : Int32 → Int32 → Mem → Prop) (R103 R157 R169 : Int32 → Int32 → Int32 → Mem → Prop)
    (h77 : ∀ x4 x5 M, qX7_on_b77 (nI h) (nI f) (nI ask) post R77 R103 R157 R169 x4 x5 M → R77 x4 x5 M) (h103 : ∀ x4 x5 x6 M, qX7_on_b103 (nI h) (nI f) (nI ask) post R77 R103 R157 R169 x4 x5 x6 M → R103 x4 x5 x6 M)
    (h157 : ∀ x4 x5 x6 M, qX7_on_b157 (nI h) (nI f) (nI ask) post R77 R103 R157 R169 x4 x5 x6 M → R157 x4 x5 x6 M) (h169 : ∀ x4 x5 x6 M, qX7_on_b169 (nI h) (nI f) (nI ask) post R77 R103 R157 R169 x4 x5 x6 M → R169 x4 x5 x6 M) :
    ∀ (d m s : Nat), m + d = A 0 0 → s < 2 ^ A 0 1 → post (oI (layF (grA A (stA A f)) (wSt (stA A f)) ask d m s)) N → R77 (nI s) (nI m) N := by
  have h10 := pw10 hR
  have hn12 := hR.1
  have hna := hR.2.1
  have ad : ∀ m s : Nat, (1024 : Int32) * nI m + nI s = nI (1024 * m + s) := fun m s => by
    rw [show (1024 : Int32) = nI 1024 from rfl, pk_mul, nI_add]
  intro d
  induction d with
  | zero =>
    intro m s hm hs hpost
    apply h77
    unfold qX7_on_b77
    rw [hN.1]
    exact ⟨fun _ => hpost, fun h3 => absurd (nI_le (show A 0 0 ≤ m by omega) (by omega)) h3⟩
  | succ d ih =>
    intro m s hm hs hpost
    -- a set has been chosen
    have chosen : ∀ g, sb g s → (g.testBit ask = true → post (nI m) N) → (g.testBit ask = false → post (oI (layF (grA A (stA A f)) (wSt (stA A f)) ask d (m + 1) (s ^^^ g))) N) → R169 (nI s) (nI m) (nI g) N := by
      intro g hg h1 h0
      have hgs := sb_le hg
      have hxs := sb_le (sb_xor hg)
      apply h169
      unfold qX7_on_b169
      rw [bx_bit (by omega) (by omega), bx_xor, nI_1]
      cases hb : g.testBit ask with
      | true =>
        rw [if_pos rfl]
        exact ⟨fun e => absurd rfl e, fun _ => h1 hb⟩
      | false =>
        rw [if_neg (by decide)]
        refine ⟨fun _ => ?_, fun e => absurd e (by decide)⟩
        rintro _ rfl _ rfl
        exact ih (m + 1) _ (by omega) (by omega) (h0 hb)
    have sets : wSt (stA A f) m = true → ∀ t, sb t s → (∀ x, t < x → x ≤ s → ¬ goodT A (stA A f) m s x) → R103 (nI s) (nI m) (nI t) N := by
      intro hst t
      induction t using Nat.strongRecOn with
      | ind t iht =>
        intro hts hno
        have hle := sb_le hts
        have hx := sb_le (sb_xor hts)
        have fin : grA A (stA A f) m s = t → R169 (nI s) (nI m) (nI t) N := by
          intro eg
          refine chosen t hts (fun hb => ?_) (fun hb => ?_)
          · have e : layF (grA A (stA A f)) (wSt (stA A f)) ask (d + 1) m s = some m := by
              show (if wSt (stA A f) m = true then _ else _) = _
              rw [if_pos hst, eg, if_pos hb]
            rw [e] at hpost
            exact hpost
          · have e : layF (grA A (stA A f)) (wSt (stA A f)) ask (d + 1) m s = layF (grA A (stA A f)) (wSt (stA A f)) ask d (m + 1) (s ^^^ t) := by
              show (if wSt (stA A f) m = true then _ else _) = _
              rw [if_pos hst, eg, if_neg (by rw [hb]; decide)]
            rw [e] at hpost
            exact hpost
        have next : 0 < t → ¬ goodT A (stA A f) m s t → R157 (nI s) (nI m) (nI t) N := by
          intro h0 hng
          apply h157
          rintro _ rfl
          rw [show (1 : Int32) = nI 1 from rfl, pk_sub (by omega), bx_and]
          have hlt : (t - 1) &&& s < t := Nat.lt_of_le_of_lt Nat.and_le_left (by omega)
          refine iht _ hlt (sb_and _ _) (fun x h1 h2 hg => ?_)
          rcases Nat.lt_trichotomy x t with h3 | h3 | h3
          · have := sb_next t s x hts hg.1 h3
            omega
          · subst h3; exact hng hg
          · exact hno x h3 h2 hg
        have hC2 := hL.2 (m + 1) (by omega) (s ^^^ t) (by omega)
        rw [show 12 - (m + 1) = 11 - m by omega] at hC2
        apply h103
        unfold qX7_on_b103
        rw [nI_1, bx_xor, ad, nI_clamp (show t < 2 ^ 31 by omega), nI_clamp (show m < 2 ^ 31 by omega), nI_clamp (show 1024 * (m + 1) + (s ^^^ t) < 2 ^ 31 by omega), (hL.1 t (by omega)).1, (hL.1 t (by omega)).2, (hN.2.2.1 m (by omega)).1, hC2, nI_ltI (by have := (hR.2.2.1 m (by omega)).2.1; omega) (by have := ldA_le hR t; omega), bI_0, bI_0]
        refine ⟨fun h0 => ?_, fun h0 => ⟨vp_in_nI (by omega) (by omega), fun h3 => ?_, fun h3 => ⟨vp_in_nI (by omega) (by omega), vp_in_nI (by omega) (by omega), fun h4 => ?_, fun h4 => ⟨vp_in_nI (by omega) (by omega), fun h5 => ?_, fun h5 => ?_⟩⟩⟩⟩
        · have hz : t = 0 := by
            have h1 : nI t ≤ nI 0 := h0
            rw [nI_leI (by omega) (by omega)] at h1
            omega
          refine fin ?_
          rw [hz] at hno ⊢
          exact gs_skip (Nat.zero_le s) hno
        all_goals
          have hpos : 0 < t := by
            rcases Nat.eq_zero_or_pos t with e | e
            · rw [e] at h0; exact absurd (show nI 0 ≤ 0 by decide) h0
            · exact e
        · exact next hpos (fun hg => h3 hg.2.1.2)
        · exact next hpos (fun hg => by have := hg.2.1.1; unfold ldA at h4; omega)
        · refine fin ?_
          have hg : goodT A (stA A f) m s t := ⟨hts, ⟨by unfold ldA at h4; omega, Classical.byContradiction fun hn => h3 hn⟩, Classical.byContradiction fun hn => h5 hn⟩
          exact (gs_skip hle hno).trans (gs_hit hpos hg)
        · exact next hpos (fun hg => h5 hg.2.2)
    apply h77
    unfold qX7_on_b77
    rw [hN.1]
    refine ⟨fun h3 => absurd h3 (nI_ge (show m < A 0 0 by omega) (by omega)), fun _ => r_stands hR hN (by omega) hf (fun hb => ?_) (fun hb => ?_)⟩
    · have hst : wSt (stA A f) m = true := by
        show (stA A f).testBit m = true
        rw [stA_bit (by omega)]
        exact hb
      exact b1_n (sets hst s (sb_rf s) (fun x h1 h2 => by omega))
    · have hst : ¬ wSt (stA A f) m = true := by
        show ¬ (stA A f).testBit m = true
        rw [stA_bit (by omega), hb]
        decide
      have e : layF (grA A (stA A f)) (wSt (stA A f)) ask (d + 1) m s = layF (grA A (stA A f)) (wSt (stA A f)) ask d (m + 1) s := by
        show (if wSt (stA A f) m = true then _ else _) = _
        rw [if_neg hst]
      rw [e] at hpost
      refine b0_n ?_
      apply h103
      refine ⟨fun _ => ?_, fun h0 => absurd (show (0 : Int32) ≤ 0 by decide) h0⟩
      refine chosen 0 (sb_0 s) (fun hb2 => ?_) (fun _ => ?_)
      · rw [Nat.zero_testBit] at hb2
        exact absurd hb2 (by decide)
      · rw [Nat.xor_zero]
        exact hpost
theorem r_on {A : Abs} {N : Mem} {f h ask : Nat} (hR : HR A) (hN : HN A N) (hf : f ≤ 16) (hh : h < 24) (hask : ask < A 0 1) {post : Int32 → Mem → Prop}
    (h1 : (soA A h).testBit ask = false → post (-1) (sA N 0 0 1)) (h2 : (soA A h).testBit ask = true → ¬ canA A (stA A f) 12 (soA A h) → ∀ N', EqN N N' → post (-1) (sA N' 0 0 6))
    (h3 : (soA A h).testBit ask = true → canA A (stA A f) 12 (soA A h) → ∀ N', EqN N N' → post (oI (layA A (stA A f) ask h)) (sA N' 0 0 0)) : qX7_on (nI h) (nI f) (nI ask) N post := by
  have h10 := pw10 hR
  have hna := hR.2.1
  have hso := soA_lt A h
  intro R77 R103 R157 R169 h77 h103 h157 h169
  refine r_isHour (fun _ _ _ => b1_e ?_) (fun e => by rw [nI_toInt (by omega)] at e; omega)
  refine r_isFall (fun _ _ _ => b1_e ?_) (fun e => by rw [nI_toInt (by omega)] at e; omega)
  refine r_isAsk hR hN (fun _ _ _ => b1_e ?_) (fun e => by rw [nI_toInt (by omega)] at e; omega)
  refine r_setOf hR hN hh ?_
  rw [bx_bit (by omega) (by omega)]
  cases hb : (soA A h).testBit ask with
  | false =>
    rw [if_neg (by decide)]
    refine ⟨fun e => absurd rfl e, fun _ => ?_⟩
    rintro _ rfl
    exact h1 hb
  | true =>
    rw [if_pos rfl]
    refine ⟨fun _ => ?_, fun e => absurd e (by decide)⟩
    refine r_look hR hN hf (fun N' hE hL => ?_)
    have hN' := hN.eq hE
    refine r_setOf hR hN' hh ?_
    rw [nI_clamp (by omega), hL.can0 hso, bI_0]
    refine ⟨vp_in_nI (by omega) (by omega), fun hc => ?_, fun hc => ?_⟩
    · rintro _ rfl
      have hcan : canA A (stA A f) 12 (soA A h) := Classical.byContradiction fun hn => hc hn
      exact r_onloop (N := sA N' 0 0 0) hR (hN'.ne (NE.st N' 0)) (hL.eq rfl rfl rfl) hf hask R77 R103 R157 R169 h77 h103 h157 h169 (A 0 0) 0 (soA A h) (by omega) hso (h3 hb hcan N' hE)
    · rintro _ rfl
      exact h2 hb hc N' hE
theorem r_lack {A : Abs} {N : Mem} {f h : Nat} (hR : HR A) (hN : HN A N) (hf : f ≤ 16) (hh : h < 24) {post : Int32 → Mem → Prop} (hp : ∀ N', EqN N N' → post (nI (ldA A (soA A h)) - nI (mxA A (stA A f) (soA A h))) (sA N' 0 0 0)) : qX7_lack (nI h) (nI f) N post := by
  have h10 := pw10 hR
  have hso := soA_lt A h
  intro R42 h42
  refine r_isHour (fun _ _ _ => b1_e ?_) (fun e => by rw [nI_toInt (by omega)] at e; omega)
  refine r_isFall (fun _ _ _ => b1_n ?_) (fun e => by rw [nI_toInt (by omega)] at e; omega)
  refine r_look hR hN hf (fun N' hE hL => ?_)
  rintro _ rfl
  have hN' : HN A (sA N' 0 0 0) := (hN.eq hE).ne (NE.st N' 0)
  have hL' : LK A f (sA N' 0 0 0) := hL.eq rfl rfl rfl
  refine r_setOf hR hN' hh ?_
  have mle : ∀ t, mxs (fun t => sb t (soA A h) ∧ canA A (stA A f) 12 t) (ldA A) t ≤ 1000 := by
    intro t
    induction t with
    | zero => exact Nat.zero_le _
    | succ t ih =>
      show max _ (cI _ _ _) ≤ 1000
      have := ldA_le hR t
      by_cases hq : sb t (soA A h) ∧ canA A (stA A f) 12 t
      · rw [cI_t hq]; omega
      · rw [cI_f hq]; omega
  have key : ∀ t, t ≤ soA A h + 1 → R42 (nI (soA A h)) (nI (mxs (fun t => sb t (soA A h) ∧ canA A (stA A f) 12 t) (ldA A) t)) (nI t) (sA N' 0 0 0) := by
    refine up_to ?_ (fun t ht ih => ?_)
    · apply h42
      unfold qX7_lack_b42
      rw [nI_clamp (by omega), (hL'.1 _ hso).1]
      exact ⟨fun _ => ⟨vp_in_nI (by omega) (by omega), hp N' hE⟩, fun h3 => absurd (nI_lt (show soA A h < soA A h + 1 by omega) (by omega)) h3⟩
    · have hld := ldA_le hR t
      have hm := mle t
      have hstep : mxs (fun t => sb t (soA A h) ∧ canA A (stA A f) 12 t) (ldA A) (t + 1) = max (mxs (fun t => sb t (soA A h) ∧ canA A (stA A f) 12 t) (ldA A) t) (cI (sb t (soA A h) ∧ canA A (stA A f) 12 t) (ldA A t) 0) := rfl
      have hand : t &&& soA A h ≤ t := Nat.and_le_left
      apply h42
      unfold qX7_lack_b42
      rw [nI_clamp (show t < 2 ^ 31 by omega), (hL'.1 t (by omega)).1, hL'.can0 (show t < 2 ^ A 0 1 by omega), bI_0, bx_and, nI_eq (by omega) (by omega), nI_leI (by omega) (by omega), nI_1]
      refine ⟨fun h3 => absurd h3 (nI_nlt (by omega) (by omega)), fun _ => ⟨fun h3 => ?_, fun h3 => ⟨vp_in_nI (by omega) (by omega), fun h4 => ?_, fun h4 => ⟨vp_in_nI (by omega) (by omega), fun h5 => ?_, fun h5 => ⟨vp_in_nI (by omega) (by omega), ?_⟩⟩⟩⟩⟩
      · rintro _ rfl
        rw [hstep, cI_f (fun hq => h3 hq.1), Nat.max_eq_left (Nat.zero_le _)] at ih
        exact ih
      · rintro _ rfl
        rw [hstep, cI_f (fun hq => h4 hq.2), Nat.max_eq_left (Nat.zero_le _)] at ih
        exact ih
      · rintro _ rfl
        rw [hstep, cI_t ⟨h3, Classical.byContradiction fun hn => h4 hn⟩, Nat.max_eq_left h5] at ih
        exact ih
      · rintro _ rfl _ rfl
        rw [hstep, cI_t ⟨h3, Classical.byContradiction fun hn => h4 hn⟩, Nat.max_eq_right (by omega)] at ih
        exact ih
  exact key 0 (Nat.zero_le _)
theorem r_leftOf {A : Abs} {N : Mem} {f h : Nat} (hR : HR A) (hN : HN A N) (hL : LK A f N) (hf : f ≤ 16) (hh : h < 24) {post : Int32 → Mem → Prop} (hp : post (nI (lfA A (stA A f) h)) N) : qX7_leftOf (nI h) (nI f) N post := by
  have h10 := pw10 hR
  have hso := soA_lt A h
  refine r_setOf hR hN hh ?_
  rw [nI_clamp (by omega), hL.can0 hso, bI_0]
  refine ⟨vp_in_nI (by omega) (by omega), fun hc => ?_, fun hc => ?_⟩
  · unfold lfA at hp
    rw [cI_f hc] at hp
    exact hp
  · have hcan : canA A (stA A f) 12 (soA A h) := Classical.byContradiction fun hn => hc hn
    refine r_sizes hR hN hf (r_setOf hR hN hh ?_)
    rw [nI_clamp (by omega), (hL.1 _ hso).1, pk_sub (can_left hR (stA_lt A f) hcan)]
    unfold lfA at hp
    rw [cI_t hcan] at hp
    exact ⟨vp_in_nI (by omega) (by omega), hp⟩
theorem r_left {A : Abs} {N : Mem} {f h : Nat} (hR : HR A) (hN : HN A N) (hf : f ≤ 16) (hh : h < 24) {post : Int32 → Mem → Prop} (hp : ∀ N', EqN N N' → post (nI (lfA A (stA A f) h)) (sA N' 0 0 0)) : qX7_left (nI h) (nI f) N post := by
  refine r_isHour (fun _ _ _ => b1_e ?_) (fun e => by rw [nI_toInt (by omega)] at e; omega)
  refine r_isFall (fun _ _ _ => b1_n ?_) (fun e => by rw [nI_toInt (by omega)] at e; omega)
  refine r_look hR hN hf (fun N' hE hL => ?_)
  rintro _ rfl
  exact r_leftOf hR ((hN.eq hE).ne (NE.st N' 0)) (hL.eq rfl rfl rfl) hf hh (hp N' hE)
theorem r_fits {A : Abs} {N : Mem} {f h : Nat} (hR : HR A) (hN : HN A N) (hf : f ≤ 16) (hh : h < 24) {post : Int32 → Mem → Prop} (hp : ∀ N', EqN N N' → post (bI (canA A (stA A f) 12 (soA A h))) (sA N' 0 0 0)) : qX7_fits (nI h) (nI f) N post := by
  have h10 := pw10 hR
  have hso := soA_lt A h
  refine r_isHour (fun _ _ _ => b1_e ?_) (fun e => by rw [nI_toInt (by omega)] at e; omega)
  refine r_isFall (fun _ _ _ => b1_n ?_) (fun e => by rw [nI_toInt (by omega)] at e; omega)
  refine r_look hR hN hf (fun N' hE hL => ?_)
  rintro _ rfl
  have hL' : LK A f (sA N' 0 0 0) := hL.eq rfl rfl rfl
  have hpost := hp N' hE
  refine r_setOf hR ((hN.eq hE).ne (NE.st N' 0)) hh ?_
  rw [nI_clamp (by omega), hL'.can0 hso, bI_0]
  refine ⟨vp_in_nI (by omega) (by omega), fun hc => ?_, fun hc => ?_⟩
  · rw [bI_f hc] at hpost
    exact hpost
  · rw [bI_t (Classical.byContradiction fun hn => hc hn)] at hpost
    exact hpost
theorem r_enough {A : Abs} {N0 : Mem} {d : Nat} (hR : HR A) (hN : HN A N0) (hd : d ≤ 2) {post : Int32 → Mem → Prop} (hp : ∀ N', EqN (sA N0 0 0 0) N' → post (enA A d) N') : qX7_enough (nI d) N0 post := by
  have h10 := pw10 hR
  have hn12 := hR.1
  intro R28 R60 R84 h28 h60 h84
  have hN0 : HN A (sA N0 0 0 0) := hN.ne (NE.st N0 0)
  have key : ∀ f, f ≤ 17 → ∀ N wv, EqN (sA N0 0 0 0) N → ((enF A d f).1 ≠ 24 → wv = nI (enF A d f).2) → R28 (nI (enF A d f).1) wv (nI f) N := by
    refine up_to (fun N wv hE hwv => ?_) (fun f hf ih N wv hE hwv => ?_)
    · have h := hp N hE
      have hle := enF_le (A := A) (d := d) 17
      unfold enA at h
      apply h28
      refine ⟨fun _ => ⟨fun e => ?_, fun e => ?_⟩, fun h3 => absurd (show (17 : Int32) ≤ nI 17 by decide) h3⟩
      · have e2 : (enF A d 17).1 ≠ 24 := fun e3 => e (by rw [e3]; rfl)
        rw [cI_f e2] at h
        rw [hwv e2]
        exact h
      · have e2 : (enF A d 17).1 = 24 := by
          have e3 : nI (enF A d 17).1 = nI 24 := e
          rwa [nI_eq (by omega) (by omega)] at e3
        rw [cI_t e2] at h
        exact h
    · have hle := enF_le (A := A) (d := d) f
      have h17 : ¬ (17 : Int32) ≤ nI f := nI_ge (a := f) (b := 17) (by omega) (by omega)
      have hNN := hN0.eq hE
      have skip : ¬ lookP A d f → R28 (nI (enF A d f).1) wv (nI (f + 1)) N := by
        intro hl
        have e : enF A d (f + 1) = enF A d f := cI_f (fun hx => hl hx.1)
        have h5 := ih N wv hE
        rw [e] at h5
        exact h5 hwv
      have scan : lookP A d f → qX7_look (nI f) N (fun M21 => R84 (nI (enF A d f).1) wv (nI f) 0 M21) := by
        intro hl
        refine r_look hR hNN (by omega) (fun N' hE' hL => ?_)
        have hN' := hNN.eq hE'
        have row : ∀ i, i ≤ (enF A d f).1 → (∀ x, x < i → ¬ unfit A f x) → R84 (nI (enF A d f).1) wv (nI f) (nI i) N' := by
          refine up_to (fun hx => ?_) (fun i hi ihi hx => ?_)
          · apply h84
            refine ⟨fun _ => ?_, fun h3 => absurd (nI_le (Nat.le_refl _) (by omega)) h3⟩
            rintro _ rfl
            rw [nI_1]
            have e : enF A d (f + 1) = enF A d f := cI_f (fun hq => by have := hq.2; rw [fst1_none _ hx] at this; omega)
            have h5 := ih N' wv (hE.tr hE')
            rw [e] at h5
            exact h5 hwv
          · have hso := soA_lt A i
            apply h84
            refine ⟨fun h3 => absurd h3 (nI_ge hi (by omega)), fun _ => r_setOf hR hN' (by omega) ?_⟩
            rw [nI_clamp (by omega), hL.can0 hso, bI_0]
            refine ⟨vp_in_nI (by omega) (by omega), fun hc => ?_, fun hc => ?_⟩
            · rintro _ rfl
              rw [nI_1]
              have ef : fst1 (unfit A f) (enF A d f).1 = i := fst1_hit (P := unfit A f) hc hx _ hi
              have e : enF A d (f + 1) = (i, f) := by
                show cI _ _ _ = _
                rw [ef, cI_t ⟨hl, hi⟩]
              apply h84
              refine ⟨fun _ => ?_, fun h3 => absurd (nI_le (show i ≤ i + 1 by omega) (by omega)) h3⟩
              rintro _ rfl
              rw [nI_1]
              have h5 := ih N' (nI f) (hE.tr hE')
              rw [e] at h5
              exact h5 (fun _ => rfl)
            · rintro _ rfl
              rw [nI_1]
              refine ihi (fun x hxi hu => ?_)
              by_cases ex : x = i
              · subst ex; exact hc hu
              · exact hx x (by omega) hu
        exact row 0 (Nat.zero_le _) (fun x h => by omega)
      have go60 : (f = 0 ∨ 1 ≤ d) → (f ≤ A 0 0 ∨ 13 ≤ f) → R60 (nI (enF A d f).1) wv (nI f) N := by
        intro hq1 hq2
        apply h60
        unfold qX7_enough_b60
        rw [show (12 : Int32) = nI 12 from rfl, show (2 : Int32) = nI 2 from rfl, nI_leI (by omega) (by omega), nI_leI (by omega) (by omega), nI_1]
        refine ⟨fun h3 => scan ⟨hq1, hq2, Or.inl h3⟩, fun h3 => ⟨fun h4 => scan ⟨hq1, hq2, Or.inr (by omega)⟩, fun h4 => ?_⟩⟩
        rintro _ rfl
        exact skip (fun hl => by have := hl.2.2; omega)
      apply h28
      unfold qX7_enough_b28
      rw [hNN.1, show (13 : Int32) = nI 13 from rfl, nI_leI (by omega) (by omega), nI_ltI (by omega) (by omega), nI_1]
      refine ⟨fun h3 => absurd h3 h17, fun _ => ⟨fun h3 => ?_, fun h3 => ?_⟩⟩
      · have hz : f = 0 := by
          have h4 : nI f ≤ nI 0 := h3
          rw [nI_leI (by omega) (by omega)] at h4
          omega
        exact ⟨fun h4 => go60 (Or.inl hz) (Or.inl h4), fun h4 => by omega⟩
      · refine ⟨fun h4 => ?_, fun h4 => ⟨fun h5 => go60 (Or.inr ?_) (Or.inl h5), fun h5 => ⟨fun h6 => ?_, fun h6 => go60 (Or.inr ?_) (Or.inr (by omega))⟩⟩⟩
        · rintro _ rfl
          have hd0 : d = 0 := by
            have h7 : nI d = nI 0 := h4
            rwa [nI_eq (by omega) (by omega)] at h7
          have hf0 : f ≠ 0 := by
            intro e; subst e; exact h3 (by decide)
          exact skip (fun hl => by have := hl.1; omega)
        · rcases Nat.eq_zero_or_pos d with e | e
          · subst e; exact absurd rfl h4
          · exact e
        · rintro _ rfl
          exact skip (fun hl => by have := hl.2.1; omega)
        · rcases Nat.eq_zero_or_pos d with e | e
          · subst e; exact absurd rfl h4
          · exact e
  refine ⟨fun h3 => absurd h3 (nI_pos (by omega)), fun _ => ⟨fun _ => ?_, fun h3 => absurd (nI_le (show d ≤ 2 by omega) (by omega)) h3⟩⟩
  rintro _ rfl
  exact key 0 (by omega) _ _ (EqN.rf _) (fun h => absurd rfl h)

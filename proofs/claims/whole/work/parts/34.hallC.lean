/-! THE CLASS'S SMALL METHODS, AND ITS HALL -/
theorem nat_of {a : Int32} {n : Nat} (h0 : 0 ≤ a.toInt) (h1 : a.toInt ≤ (n : Int)) : ∃ k : Nat, k ≤ n ∧ k < 2 ^ 31 ∧ a = nI k := by
  obtain ⟨j, hj, rfl⟩ := nI_of (x := a) (by rw [Int32.lt_iff_toInt_lt, Int32.toInt_zero]; omega)
  rw [nI_toInt hj] at h1
  exact ⟨j, by omega, hj, rfl⟩
theorem s_within {x : Int64} {lo hi : Int32} {M : Mem} {post : Int32 → Mem → Prop} (h1 : lo.toInt ≤ x.toInt → x.toInt ≤ hi.toInt → post 1 M) (h0 : (x.toInt < lo.toInt ∨ hi.toInt < x.toInt) → post 0 M) : qX6_within x lo hi M post := by
  unfold qX6_within
  rw [lg_cmp_lt, lg_cmp_gt, Int64.lt_iff_toInt_lt, Int64.lt_iff_toInt_lt, Int32.toInt_toInt64, Int32.toInt_toInt64]
  exact ⟨fun h => h0 (Or.inl h), fun h => ⟨fun h2 => h0 (Or.inr h2), fun h2 => h1 (by omega) (by omega)⟩⟩
theorem s_withinI {x lo hi : Int32} {M : Mem} {post : Int32 → Mem → Prop} (h1 : lo.toInt ≤ x.toInt → x.toInt ≤ hi.toInt → post 1 M) (h0 : (x.toInt < lo.toInt ∨ hi.toInt < x.toInt) → post 0 M) : qX6_within x.toInt64 lo hi M post := by
  apply s_within
  · rw [Int32.toInt_toInt64]; exact h1
  · rw [Int32.toInt_toInt64]; exact h0
/-- a call that branches on a 1 or a 0 -/
theorem b1_e {P Q : Prop} (h : Q) : ((1 : Int32) = 0 → P) ∧ (¬ (1 : Int32) = 0 → Q) := ⟨fun e => absurd e (by decide), fun _ => h⟩
theorem b0_e {P Q : Prop} (h : P) : ((0 : Int32) = 0 → P) ∧ (¬ (0 : Int32) = 0 → Q) := ⟨fun _ => h, fun e => absurd rfl e⟩
theorem b1_n {P Q : Prop} (h : P) : (¬ (1 : Int32) = 0 → P) ∧ ((1 : Int32) = 0 → Q) := ⟨fun _ => h, fun e => absurd e (by decide)⟩
theorem b0_n {P Q : Prop} (h : Q) : (¬ (0 : Int32) = 0 → P) ∧ ((0 : Int32) = 0 → Q) := ⟨fun e => absurd rfl e, fun _ => h⟩
theorem s_isHour {a : Int32} {M : Mem} {post : Int32 → Mem → Prop} (h1 : ∀ h, h < 24 → a = nI h → post 1 M) (h0 : (a.toInt < 0 ∨ 23 < a.toInt) → post 0 M) : qX6_isHour a M post := by
  apply s_withinI
  · intro p q
    obtain ⟨k, hk, _, e⟩ := nat_of (n := 23) p q
    exact ⟨rfl, h1 k (by omega) e⟩
  · intro p
    exact ⟨rfl, h0 p⟩
theorem s_isFall {a : Int32} {M : Mem} {post : Int32 → Mem → Prop} (h1 : ∀ f, f ≤ 16 → a = nI f → post 1 M) (h0 : (a.toInt < 0 ∨ 16 < a.toInt) → post 0 M) : qX1_isFall a M post := by
  apply s_withinI
  · intro p q
    obtain ⟨k, hk, _, e⟩ := nat_of (n := 16) p q
    exact ⟨rfl, h1 k hk e⟩
  · intro p
    exact ⟨rfl, h0 p⟩
theorem s_has {w j : Nat} (hw : w < 2 ^ 31) (hj : j < 32) {M : Mem} {post : Int32 → Mem → Prop} (h1 : w.testBit j = true → post 1 M) (h0 : w.testBit j = false → post 0 M) : qX1_has (nI w) (nI j) M post := by
  unfold qX1_has
  rw [bx_bit hw hj]
  cases hb : w.testBit j with
  | true =>
    rw [if_pos rfl]
    exact ⟨fun e => absurd e (by decide), fun _ => h1 hb⟩
  | false =>
    rw [if_neg (by decide)]
    exact ⟨fun _ => h0 hb, fun e => absurd rfl e⟩
theorem bt_m {k : Nat} (hk : k < 32) : (4294967295 : Nat).testBit k = true := by
  have h := @Nat.testBit_two_pow_sub_one 32 k
  rw [show (4294967295 : Nat) = 2 ^ 32 - 1 from rfl, h]
  simp [hk]
theorem st_0 {A : Abs} : stA A 0 = upA A := mk_congr (fun k hk => by unfold stP; simp)
theorem st_m {A : Abs} (hR : HR A) {f : Nat} (h1 : 1 ≤ f) (h2 : f ≤ 12) : upA A &&& (2 ^ (f - 1) ^^^ 4294967295) = stA A f := by
  apply Nat.eq_of_testBit_eq
  intro k
  have hn := hR.1
  unfold upA stA
  rw [Nat.testBit_and, mk_bit, mk_bit, Nat.testBit_xor, Nat.testBit_two_pow]
  by_cases hk : k < A 0 0
  · rw [bt_m (by omega)]
    unfold stP
    have e1 : decide (f < 13 ∨ f - 13 ≠ A 2 k) = true := decide_eq_true (Or.inl (by omega))
    rw [e1]
    by_cases e : f - 1 = k
    · have e2 : decide (f < 1 ∨ 12 < f ∨ f - 1 ≠ k) = false := decide_eq_false (by omega)
      rw [e2]
      simp [e]
    · have e2 : decide (f < 1 ∨ 12 < f ∨ f - 1 ≠ k) = true := decide_eq_true (by omega)
      rw [e2]
      simp [e]
  · simp [hk]
theorem st_r {A : Abs} (hR : HR A) {f : Nat} (h1 : 13 ≤ f) : upA A &&& (roA A (f - 13) ^^^ 4294967295) = stA A f := by
  apply Nat.eq_of_testBit_eq
  intro k
  have hn := hR.1
  unfold upA stA roA
  rw [Nat.testBit_and, mk_bit, mk_bit, Nat.testBit_xor, mk_bit]
  by_cases hk : k < A 0 0
  · rw [bt_m (by omega)]
    unfold stP
    have e1 : decide (f < 1 ∨ 12 < f ∨ f - 1 ≠ k) = true := decide_eq_true (by omega)
    rw [e1]
    by_cases e : A 2 k = f - 13
    · have e2 : decide (f < 13 ∨ f - 13 ≠ A 2 k) = false := decide_eq_false (by omega)
      rw [e2]
      simp [e, hk]
    · have e2 : decide (f < 13 ∨ f - 13 ≠ A 2 k) = true := decide_eq_true (by omega)
      rw [e2]
      simp [e]
  · simp [hk]
theorem s_standing {A : Abs} {M : Mem} {f : Nat} (hR : HR A) (hC : HC0 A M) (hf : f ≤ 16) {post : Int32 → Mem → Prop} (h : post (nI (stA A f)) M) : qX1_standing (nI f) M post := by
  obtain ⟨_, _, hu, _, hro, _, _, _, _⟩ := hC
  unfold qX1_standing
  rw [hu]
  refine ⟨fun h0 => ⟨fun h1 => ?_, fun h1 => ?_⟩, fun h0 => ?_⟩
  · have h13 : 13 ≤ f := by
      have h2 : nI 12 < nI f := h1
      rw [nI_ltI (by omega) (by omega)] at h2
      omega
    have e : nI f - 12 - 1 = nI (f - 13) := by
      rw [show (12 : Int32) = nI 12 from rfl, show (1 : Int32) = nI 1 from rfl, pk_sub (by omega), pk_sub (by omega)]
      rfl
    rw [e, nI_clamp (by omega), hro _ (by omega), bx_not, st_r hR h13]
    exact ⟨vp_in_nI (by omega) (by omega), h⟩
  · have h12 : f ≤ 12 := by
      have h2 : ¬ nI 12 < nI f := h1
      rw [nI_ltI (by omega) (by omega)] at h2
      omega
    have hp : 1 ≤ f := by
      rcases Nat.eq_zero_or_pos f with e | e
      · subst e; exact absurd rfl h0
      · exact e
    have e : nI f - 1 = nI (f - 1) := by rw [show (1 : Int32) = nI 1 from rfl, pk_sub hp]
    rw [e, bx_shl (by omega), bx_not, st_m hR hp h12]
    exact h
  · have hz : f = 0 := by
      have h2 : nI f = nI 0 := h0
      rwa [nI_eq (by omega) (by omega)] at h2
    subst hz
    rw [← st_0]
    exact h
theorem s_sizeOf {A : Abs} {M : Mem} {w : Nat} (hR : HR A) (hC : HC0 A M) (hw : w < 2 ^ 31) {post : Int32 → Mem → Prop} (h : post (nI (sumB (A 1) w (A 0 0))) M) : qX1_sizeOf (nI w) M post := by
  obtain ⟨hn, _, _, hsz, _⟩ := hC
  have hn12 := hR.1
  intro R4 h4
  have key : ∀ k, k ≤ A 0 0 → R4 (nI (sumB (A 1) w k)) (nI k) M := by
    refine up_to ?_ (fun k hk hp => ?_)
    · apply h4
      unfold qX1_sizeOf_b4
      rw [hn]
      exact ⟨fun _ => h, fun h2 => absurd (nI_le (Nat.le_refl _) (by omega)) h2⟩
    · apply h4
      unfold qX1_sizeOf_b4
      rw [hn]
      refine ⟨fun h2 => absurd h2 (nI_ge hk (by omega)), fun _ => s_has hw (by omega) (fun hb => b1_e ⟨vp_in_nI (by omega) (by omega), ?_⟩) (fun hb => b0_e ?_)⟩
      · rintro _ rfl _ rfl
        rw [nI_clamp (by omega), hsz k hk, nI_add, nI_1]
        have e : sumB (A 1) w k + A 1 k = sumB (A 1) w (k + 1) := by
          show _ = sumB (A 1) w k + _
          rw [if_pos hb]
        rw [e]
        exact hp
      · rintro _ rfl _ rfl
        rw [show (0 : Int32) = nI 0 from rfl, nI_add, nI_1]
        have e : sumB (A 1) w k + 0 = sumB (A 1) w (k + 1) := by
          show _ = sumB (A 1) w k + _
          rw [if_neg (by rw [hb]; decide)]
        rw [e]
        exact hp
  exact key 0 (Nat.zero_le _)
theorem s_greatest {A : Abs} {M : Mem} {w m s : Nat} (hR : HR A) (hm : m < A 0 0) (hs : s < 2 ^ A 0 1) (hsz : M.1 12 m = nI (A 1 m)) (hT : HT A M) (hq : ∀ x, sb x s → (¬ M.1 20 x ≤ nI m ↔ canA A w (11 - m) x)) {post : Int32 → Mem → Prop} (h : post (nI (grA A w m s)) M) : qX1_greatestOn (nI m) (nI s) M post := by
  have h10 := pw10 hR
  have hn12 := hR.1
  intro R2 R44 h2 h44
  have key : ∀ t, sb t s → (∀ x, t < x → x ≤ s → ¬ goodT A w m s x) → R2 (nI t) M := by
    intro t
    induction t using Nat.strongRecOn with
    | ind t ih =>
      intro ht hno
      have hts := sb_le ht
      have hx := sb_le (sb_xor ht)
      -- the next one, where t is none
      have next : 0 < t → ¬ goodT A w m s t → R44 (nI t) M := by
        intro h0 hng
        apply h44
        rintro _ rfl
        rw [show (1 : Int32) = nI 1 from rfl, pk_sub (by omega), bx_and]
        have hlt : (t - 1) &&& s < t := Nat.lt_of_le_of_lt Nat.and_le_left (by omega)
        refine ih _ hlt (sb_and _ _) (fun x h1 hxs hg => ?_)
        rcases Nat.lt_trichotomy x t with h3 | h3 | h3
        · have := sb_next t s x ht hg.1 h3
          omega
        · subst h3; exact hng hg
        · exact hno x h3 hxs hg
      apply h2
      unfold qX1_greatestOn_b2
      rw [bx_xor, nI_clamp (show t < 2 ^ 31 by omega), nI_clamp (show m < 2 ^ 31 by omega), nI_clamp (show s ^^^ t < 2 ^ 31 by omega), hsz, (hT t (by omega)).1, nI_ltI (by have := (hR.2.2.1 m hm).2.1; omega) (by have := ldA_le hR t; omega)]
      refine ⟨fun h0 => ?_, fun h0 => ⟨vp_in_nI (by omega) (by omega), vp_in_nI (by omega) (by omega), fun h3 => ?_, fun h3 => ⟨vp_in_nI (by omega) (by omega), fun h4 => ?_, fun h4 => ⟨vp_in_nI (by omega) (by omega), fun h5 => ?_, fun h5 => ?_⟩⟩⟩⟩
      · have hz : t = 0 := by
          have h1 : nI t ≤ nI 0 := h0
          rw [nI_leI (by omega) (by omega)] at h1
          omega
        subst hz
        have e : grA A w m s = 0 := gs_skip (Nat.zero_le s) hno
        rw [e] at h
        exact h
      all_goals
        have hp : 0 < t := by
          rcases Nat.eq_zero_or_pos t with e | e
          · subst e; exact absurd (show (0 : Int32) ≤ 0 by decide) h0
          · exact e
      · exact next hp (fun hg => by have := hg.2.1.1; unfold ldA at h3; omega)
      · exact next hp (fun hg => h4 ((hT t (by omega)).2.mpr hg.2.1.2))
      · exact next hp (fun hg => (hq _ (sb_xor ht)).mpr hg.2.2 h5)
      · have hg : goodT A w m s t := ⟨ht, ⟨by unfold ldA at h3; omega, (hT t (by omega)).2.mp h4⟩, (hq _ (sb_xor ht)).mp h5⟩
        have e : grA A w m s = t := (gs_skip hts hno).trans (gs_hit hp hg)
        rw [e] at h
        exact h
  exact key s (sb_rf s) (fun x h1 h2 => by omega)

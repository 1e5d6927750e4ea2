/-! THE REFERENCE'S HALL -/
def HN (A : Abs) (N : Mem) : Prop := N.1 0 4 = nI (A 0 0) ∧ N.1 0 5 = nI (A 0 1) ∧ (∀ k, k < A 0 0 → N.1 4 k = nI (A 1 k) ∧ N.1 5 k = nI (A 2 k) ∧ N.1 6 k = nI (A 3 k)) ∧ (∀ a, a < A 0 1 → N.1 7 a = nI (A 4 a) ∧ N.1 8 a = nI (A 5 a) ∧ N.1 9 a = nI (A 6 a) ∧ N.1 10 a = nI (A 7 a))
/-- two memories that differ in the reference's tables alone -/
def EqN (N N' : Mem) : Prop := N'.2 = N.2 ∧ ∀ k, k ≠ 11 → k ≠ 12 → k ≠ 13 → N'.1 k = N.1 k
theorem EqN.rf (N : Mem) : EqN N N := ⟨rfl, fun _ _ _ _ => rfl⟩
theorem EqN.tr {N N' N2 : Mem} (h : EqN N N') (k : EqN N' N2) : EqN N N2 := ⟨k.1.trans h.1, fun a b c d => (k.2 a b c d).trans (h.2 a b c d)⟩
theorem HN.eq {A : Abs} {N N' : Mem} (h : HN A N) (e : EqN N N') : HN A N' := by
  have e0 := e.2 0 (by decide) (by decide) (by decide)
  have e4 := e.2 4 (by decide) (by decide) (by decide)
  have e5 := e.2 5 (by decide) (by decide) (by decide)
  have e6 := e.2 6 (by decide) (by decide) (by decide)
  have e7 := e.2 7 (by decide) (by decide) (by decide)
  have e8 := e.2 8 (by decide) (by decide) (by decide)
  have e9 := e.2 9 (by decide) (by decide) (by decide)
  have e10 := e.2 10 (by decide) (by decide) (by decide)
  unfold HN
  rw [e0, e4, e5, e6, e7, e8, e9, e10]
  exact h
theorem r_isHour {a : Int32} {M : Mem} {post : Int32 → Mem → Prop} (h1 : ∀ h, h < 24 → a = nI h → post 1 M) (h0 : (a.toInt < 0 ∨ 23 < a.toInt) → post 0 M) : qX7_isHour a M post := by
  unfold qX7_isHour
  rw [Int32.lt_iff_toInt_lt, Int32.le_iff_toInt_le, Int32.toInt_zero, show (24 : Int32).toInt = 24 from rfl]
  refine ⟨fun h => h0 (Or.inl h), fun h => ⟨fun h2 => h0 (Or.inr (by omega)), fun h2 => ?_⟩⟩
  obtain ⟨k, hk, _, e⟩ := nat_of (a := a) (n := 23) (by omega) (by omega)
  exact h1 k (by omega) e
theorem r_isFall {a : Int32} {M : Mem} {post : Int32 → Mem → Prop} (h1 : ∀ f, f ≤ 16 → a = nI f → post 1 M) (h0 : (a.toInt < 0 ∨ 16 < a.toInt) → post 0 M) : qX7_isFall a M post := by
  unfold qX7_isFall
  rw [Int32.lt_iff_toInt_lt, Int32.le_iff_toInt_le, Int32.toInt_zero, show (17 : Int32).toInt = 17 from rfl]
  refine ⟨fun h => h0 (Or.inl h), fun h => ⟨fun h2 => h0 (Or.inr (by omega)), fun h2 => ?_⟩⟩
  obtain ⟨k, hk, _, e⟩ := nat_of (a := a) (n := 16) (by omega) (by omega)
  exact h1 k hk e
theorem r_stands {A : Abs} {N : Mem} {k f : Nat} (hR : HR A) (hN : HN A N) (hk : k < A 0 0) (hf : f ≤ 16) {post : Int32 → Mem → Prop} (h1 : stP A f k = true → post 1 N) (h0 : stP A f k = false → post 0 N) : qX7_stands (nI k) (nI f) N post := by
  have hn := hR.1
  obtain ⟨hs1, hs2, hro, hup⟩ := hR.2.2.1 k hk
  obtain ⟨_, e5, e6⟩ := hN.2.2.1 k hk
  intro R27 h27
  have hroom : A 3 k = 1 → (f < 1 ∨ 12 < f ∨ f - 1 ≠ k) → R27 N := by
    intro hu hm
    apply h27
    unfold qX7_stands_b27
    rw [nI_clamp (show k < 2 ^ 31 by omega), e5, show (13 : Int32) = nI 13 from rfl, nI_ltI (by omega) (by omega)]
    refine ⟨fun h => h1 ?_, fun h => ⟨vp_in_nI (by omega) (by omega), fun h2 => h0 ?_, fun h2 => h1 ?_⟩⟩
    all_goals unfold stP
    · simp only [Bool.and_eq_true, decide_eq_true_eq]
      exact ⟨hu, hm, Or.inl h⟩
    · rw [pk_sub (by omega), nI_eq (by omega) (by omega)] at h2
      rw [decide_eq_false (show ¬ (f < 13 ∨ f - 13 ≠ A 2 k) by omega), Bool.and_false, Bool.and_false]
    · rw [pk_sub (by omega), nI_eq (by omega) (by omega)] at h2
      simp only [Bool.and_eq_true, decide_eq_true_eq]
      exact ⟨hu, hm, Or.inr h2⟩
  rw [nI_clamp (show k < 2 ^ 31 by omega), e6, show (12 : Int32) = nI 12 from rfl, show (1 : Int32) = nI 1 from rfl, nI_ltI (by omega) (by omega), nI_ltI (by omega) (by omega)]
  refine ⟨vp_in_nI (by omega) (by omega), fun h => h0 ?_, fun h => ⟨fun h2 => ?_, fun h2 => ⟨fun h3 => ?_, fun h3 => ⟨fun h4 => h0 ?_, fun h4 => ?_⟩⟩⟩⟩
  · have h5 : nI (A 3 k) = nI 0 := h
    rw [nI_eq (by omega) (by omega)] at h5
    unfold stP
    rw [decide_eq_false (show ¬ A 3 k = 1 by omega), Bool.false_and]
  all_goals
    have hu : A 3 k = 1 := by
      have h5 : ¬ nI (A 3 k) = nI 0 := h
      rw [nI_eq (by omega) (by omega)] at h5
      omega
  · exact hroom hu (Or.inl h2)
  · exact hroom hu (Or.inr (Or.inl h3))
  · rw [pk_sub (by omega), nI_eq (by omega) (by omega)] at h4
    unfold stP
    rw [decide_eq_false (show ¬ (f < 1 ∨ 12 < f ∨ f - 1 ≠ k) by omega), Bool.false_and, Bool.and_false]
  · rw [pk_sub (by omega), nI_eq (by omega) (by omega)] at h4
    exact hroom hu (Or.inr (Or.inr h4))
theorem stA_bit {A : Abs} {f k : Nat} (hk : k < A 0 0) : (stA A f).testBit k = stP A f k := by
  unfold stA
  rw [mk_bit]
  simp [hk]
theorem r_sizes {A : Abs} {N : Mem} {f : Nat} (hR : HR A) (hN : HN A N) (hf : f ≤ 16) {post : Int32 → Mem → Prop} (h : post (nI (sumB (A 1) (stA A f) (A 0 0))) N) : qX7_sizes (nI f) N post := by
  have hn12 := hR.1
  have hn := hN.1
  intro R4 h4
  have key : ∀ k, k ≤ A 0 0 → R4 (nI (sumB (A 1) (stA A f) k)) (nI k) N := by
    refine up_to ?_ (fun k hk hp => ?_)
    · apply h4
      unfold qX7_sizes_b4
      rw [hn]
      exact ⟨fun _ => h, fun h2 => absurd (nI_le (Nat.le_refl _) (by omega)) h2⟩
    · apply h4
      unfold qX7_sizes_b4
      rw [hn]
      refine ⟨fun h2 => absurd h2 (nI_ge hk (by omega)), fun _ => r_stands hR hN hk hf (fun hb => b1_e ⟨vp_in_nI (by omega) (by omega), ?_⟩) (fun hb => b0_e ?_)⟩
      · rintro _ rfl _ rfl
        rw [nI_clamp (by omega), (hN.2.2.1 k hk).1, nI_add, nI_1]
        have e : sumB (A 1) (stA A f) k + A 1 k = sumB (A 1) (stA A f) (k + 1) := by
          show _ = sumB (A 1) (stA A f) k + _
          rw [if_pos (by rw [stA_bit hk]; exact hb)]
        rw [e]
        exact hp
      · rintro _ rfl _ rfl
        rw [show (0 : Int32) = nI 0 from rfl, nI_add, nI_1]
        have e : sumB (A 1) (stA A f) k + 0 = sumB (A 1) (stA A f) (k + 1) := by
          show _ = sumB (A 1) (stA A f) k + _
          rw [if_neg (by rw [stA_bit hk, hb]; decide)]
        rw [e]
        exact hp
  exact key 0 (Nat.zero_le _)
theorem r_setOf {A : Abs} {N : Mem} {h : Nat} (hR : HR A) (hN : HN A N) (hh : h < 24) {post : Int32 → Mem → Prop} (hp : post (nI (soA A h)) N) : qX7_setOf (nI h) N post := by
  have hna := hR.2.1
  have hn := hN.2.1
  intro R4 h4
  have key : ∀ k, k ≤ A 0 1 → R4 (nI (mk (fun a => decide (A 5 a ≤ h ∧ h ≤ A 6 a)) k)) (nI k) N := by
    refine up_to ?_ (fun k hk ih => ?_)
    · apply h4
      unfold qX7_setOf_b4
      rw [hn]
      exact ⟨fun _ => hp, fun h2 => absurd (nI_le (Nat.le_refl _) (by omega)) h2⟩
    · obtain ⟨_, e8, e9, _⟩ := hN.2.2.2 k hk
      obtain ⟨_, _, h56, h6, _⟩ := hR.2.2.2 k hk
      apply h4
      unfold qX7_setOf_b4
      rw [hn, nI_clamp (by omega), e8, e9, nI_ltI (by omega) (by omega), nI_ltI (by omega) (by omega)]
      have out : ¬ (A 5 k ≤ h ∧ h ≤ A 6 k) → mk (fun a => decide (A 5 a ≤ h ∧ h ≤ A 6 a)) (k + 1) = mk (fun a => decide (A 5 a ≤ h ∧ h ≤ A 6 a)) k := by
        intro hq
        show mk _ k ||| (if decide (A 5 k ≤ h ∧ h ≤ A 6 k) = true then 2 ^ k else 0) = _
        rw [if_neg (by rw [decide_eq_false hq]; decide), Nat.or_zero]
      refine ⟨fun h2 => absurd h2 (nI_ge hk (by omega)), fun _ => ⟨vp_in_nI (by omega) (by omega), fun h2 => ?_, fun h2 => ⟨vp_in_nI (by omega) (by omega), fun h3 => ?_, fun h3 => ?_⟩⟩⟩
      · rintro _ rfl
        rw [nI_1, ← out (by omega)]
        exact ih
      · rintro _ rfl
        rw [nI_1, ← out (by omega)]
        exact ih
      · rintro _ rfl _ rfl
        rw [bx_shl (by omega), bx_or, nI_1]
        have e : mk (fun a => decide (A 5 a ≤ h ∧ h ≤ A 6 a)) k ||| 2 ^ k = mk (fun a => decide (A 5 a ≤ h ∧ h ≤ A 6 a)) (k + 1) := by
          show _ = mk _ k ||| (if decide (A 5 k ≤ h ∧ h ≤ A 6 k) = true then 2 ^ k else 0)
          rw [if_pos (decide_eq_true (by omega))]
        rw [e]
        exact ih
  exact key 0 (Nat.zero_le _)
noncomputable def bI (p : Prop) : Int32 := cI p 1 0
theorem bI_t {p : Prop} (h : p) : bI p = 1 := cI_t h
theorem bI_f {p : Prop} (h : ¬ p) : bI p = 0 := cI_f h
theorem bI_0 {p : Prop} : bI p = 0 ↔ ¬ p := by
  by_cases h : p
  · rw [bI_t h]; exact ⟨fun e => absurd e (by decide), fun e => absurd h e⟩
  · rw [bI_f h]; exact ⟨fun _ => h, fun _ => rfl⟩
theorem bI_nar {p : Prop} : vp_nar .boolean (bI p) = bI p := by
  by_cases h : p
  · rw [bI_t h]; rfl
  · rw [bI_f h]; rfl
theorem bI_iff {p q : Prop} (h : p ↔ q) : bI p = bI q := cI_iff h
/-- needs and may of the sets below i -/
def NM (A : Abs) (i : Nat) (N : Mem) : Prop := ∀ s, s < i → N.1 11 s = nI (ldA A s) ∧ N.1 12 s = bI (¬ clA A s)
/-- can, for the machines from m on -/
def CN (A : Abs) (w m i : Nat) (N : Mem) : Prop := ∀ s, s < i → N.1 13 (1024 * m + s) = bI (canA A w (12 - m) s)
def LK (A : Abs) (f : Nat) (N : Mem) : Prop := NM A (2 ^ A 0 1) N ∧ ∀ m, m ≤ A 0 0 → CN A (stA A f) m (2 ^ A 0 1) N
theorem LK.eq {A : Abs} {f : Nat} {N N' : Mem} (h : LK A f N) (e11 : N'.1 11 = N.1 11) (e12 : N'.1 12 = N.1 12) (e13 : N'.1 13 = N.1 13) : LK A f N' := by
  unfold LK NM CN
  rw [e11, e12, e13]
  exact h

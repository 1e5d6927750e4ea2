/-! THE CLASS'S TALLY AND MARKS -/
/-- two memories that differ in load, clash and latestFor alone -/
def EqL (M M' : Mem) : Prop := M'.2 = M.2 ∧ ∀ k j, k ≠ 17 → k ≠ 18 → ¬ (k = 11 ∧ j = 12) → M'.1 k j = M.1 k j
theorem EqL.rf (M : Mem) : EqL M M := ⟨rfl, fun _ _ _ _ _ => rfl⟩
theorem EqL.tr {M M' M2 : Mem} (h : EqL M M') (k : EqL M' M2) : EqL M M2 := ⟨k.1.trans h.1, fun a b c d e => (k.2 a b c d e).trans (h.2 a b c d e)⟩
theorem EqL.up {M M' : Mem} (h : EqL M M') {k j : Nat} {v : Int32} (hk : k = 17 ∨ k = 18 ∨ (k = 11 ∧ j = 12)) : EqL M (sA M' k j v) :=
  ⟨h.1, fun a b h1 h2 h3 => by rw [sA_g, if_neg (by rcases hk with e | e | e <;> omega)]; exact h.2 a b h1 h2 h3⟩
theorem ld_alone {f : Nat → Nat} {a s n : Nat} (hs : s < 2 ^ a) (ha : a < n) : sumB f (2 ^ a ||| s) n = sumB f s n + f a := by
  rw [sumB_alone hs, if_pos ha]
theorem and_0 {a b : Nat} : a &&& b = 0 ↔ ∀ i, a.testBit i = true → b.testBit i = false := by
  constructor
  · intro h i hi
    have : (a &&& b).testBit i = false := by rw [h, Nat.zero_testBit]
    rw [Nat.testBit_and, hi, Bool.true_and] at this
    exact this
  · intro h
    apply Nat.eq_of_testBit_eq
    intro i
    rw [Nat.testBit_and, Nat.zero_testBit]
    cases ha : a.testBit i with
    | false => rfl
    | true => rw [h i ha]; rfl
theorem and_n0 {a b : Nat} : ¬ a &&& b = 0 ↔ ∃ i, a.testBit i = true ∧ b.testBit i = true := by
  constructor
  · intro h
    refine Classical.byContradiction fun hn => h (and_0.mpr fun i hi => ?_)
    cases hb : b.testBit i with
    | false => rfl
    | true => exact absurd ⟨i, hi, hb⟩ hn
  · rintro ⟨i, h1, h2⟩ h
    have := and_0.mp h i h1
    rw [h2] at this
    exact absurd this (by decide)
theorem cl_alone {fo : Nat → Nat} {na a s : Nat} (hf : ∀ x y, x < na → y < na → (fo x).testBit y = (fo y).testBit x ∧ (fo x).testBit x = false) (hs : s < 2 ^ a) (ha : a < na) : clashP fo na (2 ^ a ||| s) ↔ (clashP fo na s ∨ ¬ fo a &&& s = 0) := by
  have hsa : ∀ i, s.testBit i = true → i < a := fun i hi => by
    rcases Nat.lt_or_ge i a with h | h
    · exact h
    · rw [bit_lt hs h] at hi; exact absurd hi (by decide)
  have hbit : ∀ i, (2 ^ a ||| s).testBit i = true ↔ (i = a ∨ s.testBit i = true) := fun i => by
    rw [Nat.testBit_or, Nat.testBit_two_pow, Bool.or_eq_true, decide_eq_true_iff]
    exact or_congr eq_comm Iff.rfl
  constructor
  · rintro ⟨x, hx, hb, hc⟩
    obtain ⟨y, hy1, hy2⟩ := and_n0.mp hc
    rcases (hbit x).mp hb with e | e
    · subst e
      rcases (hbit y).mp hy1 with e | e
      · subst e
        rw [(hf y y ha ha).2] at hy2
        exact absurd hy2 (by decide)
      · exact Or.inr (and_n0.mpr ⟨y, hy2, e⟩)
    · rcases (hbit y).mp hy1 with e2 | e2
      · subst e2
        refine Or.inr (and_n0.mpr ⟨x, ?_, e⟩)
        rw [(hf y x ha hx).1]
        exact hy2
      · exact Or.inl ⟨x, hx, e, and_n0.mpr ⟨y, e2, hy2⟩⟩
  · rintro (⟨x, hx, hb, hc⟩ | h)
    · obtain ⟨y, hy1, hy2⟩ := and_n0.mp hc
      exact ⟨x, hx, (hbit x).mpr (Or.inr hb), and_n0.mpr ⟨y, (hbit y).mpr (Or.inr hy1), hy2⟩⟩
    · obtain ⟨y, hy1, hy2⟩ := and_n0.mp h
      exact ⟨a, ha, (hbit a).mpr (Or.inl rfl), and_n0.mpr ⟨y, (hbit y).mpr (Or.inr hy2), hy1⟩⟩
def HTk (A : Abs) (M : Mem) (n : Nat) : Prop := ∀ s, s < n → M.1 17 s = nI (ldA A s) ∧ (M.1 18 s = 0 ↔ ¬ clA A s)
theorem s_tally {A : Abs} {M : Mem} (hn : A 0 1 ≤ 10) (hna : M.1 11 1 = nI (A 0 1)) (hnd : ∀ a, a < A 0 1 → M.1 14 a = nI (A 4 a)) (hfo : ∀ a, a < A 0 1 → M.1 15 a = nI (A 7 a)) (hfl : ∀ a, a < A 0 1 → A 7 a < 2 ^ A 0 1) (hF : FS A) (h0 : M.1 17 0 = 0) (h1 : M.1 18 0 = 0) {post : Mem → Prop} (h : ∀ M', EqL M M' → HT A M' → M'.1 11 12 = -1 → post M') : qX1_tally M post := by
  have h10 : 2 ^ A 0 1 ≤ 1024 := Nat.pow_le_pow_right (n := 2) (by decide) hn
  intro R7 R21 h7 h21
  rintro _ rfl
  have key : ∀ a, a ≤ A 0 1 → ∀ M', EqL M M' → M'.1 11 12 = -1 → HTk A M' (2 ^ a) → R7 (nI a) M' := by
    refine up_to (fun M' hE hl hk => ?_) (fun a ha hp M' hE hl hk => ?_)
    · apply h7
      unfold qX1_tally_b7
      rw [hE.2 11 1 (by decide) (by decide) (by decide), hna]
      exact ⟨fun _ => h M' hE hk hl, fun h2 => absurd (nI_le (Nat.le_refl _) (by omega)) h2⟩
    · apply h7
      unfold qX1_tally_b7
      rw [hE.2 11 1 (by decide) (by decide) (by decide), hna]
      refine ⟨fun h2 => absurd h2 (nI_ge ha (by omega)), fun _ => ?_⟩
      rintro _ rfl
      rw [bx_shl (by omega)]
      have hpa : 2 ^ (a + 1) ≤ 2 ^ A 0 1 := Nat.pow_le_pow_right (by decide) ha
      have hpp : 2 ^ (a + 1) = 2 ^ a + 2 ^ a := by omega
      have key2 : ∀ o, o ≤ 2 ^ a → ∀ M', EqL M M' → M'.1 11 12 = -1 → HTk A M' (2 ^ a + o) → R21 (nI a) (nI (2 ^ a)) (nI o) M' := by
        refine up_to (fun M' hE hl hk => ?_) (fun o ho hp2 M' hE hl hk => ?_)
        · apply h21
          refine ⟨fun _ => ?_, fun h2 => absurd (nI_le (Nat.le_refl _) (by omega)) h2⟩
          rintro _ rfl
          rw [nI_1]
          exact hp M' hE hl (by rw [hpp]; exact hk)
        · have eo : 2 ^ a ||| o = 2 ^ a + o := by
            have := Nat.two_pow_add_eq_or_of_lt ho 1
            rw [Nat.mul_one] at this
            exact this.symm
          have hno : 2 ^ a + o < 1024 := by omega
          have e17 : M'.1 17 o = nI (ldA A o) := (hk o (by omega)).1
          have e18 := (hk o (by omega)).2
          have e14 : M'.1 14 a = nI (A 4 a) := (hE.2 14 a (by decide) (by decide) (by omega)).trans (hnd a ha)
          have e15 : M'.1 15 a = nI (A 7 a) := (hE.2 15 a (by decide) (by decide) (by omega)).trans (hfo a ha)
          have hfa := hfl a ha
          apply h21
          unfold qX1_tally_b21
          rw [bx_or, eo, nI_clamp (show o < 2 ^ 31 by omega), nI_clamp (show a < 2 ^ 31 by omega), nI_clamp (show 2 ^ a + o < 2 ^ 31 by omega), e17, e14, nI_add]
          have eld : ldA A o + A 4 a = ldA A (2 ^ a + o) := by
            rw [← eo]
            exact (ld_alone (f := A 4) ho ha).symm
          rw [eld]
          refine ⟨fun h2 => absurd h2 (nI_ge ho (by omega)), fun _ => ⟨vp_in_nI (by omega) (by omega), vp_in_nI (by omega) (by omega), vp_in_nI (by omega) (by omega), ?_⟩⟩
          rintro _ rfl
          have g18 : (sA M' 17 (2 ^ a + o) (nI (ldA A (2 ^ a + o)))).1 18 o = M'.1 18 o := by rw [sA_g, if_neg (by omega)]
          have g15 : (sA M' 17 (2 ^ a + o) (nI (ldA A (2 ^ a + o)))).1 15 a = nI (A 7 a) := by rw [sA_g, if_neg (by omega)]; exact e15
          rw [g18, g15, bx_and]
          have hcl : clA A (2 ^ a + o) ↔ (clA A o ∨ ¬ A 7 a &&& o = 0) := by
            rw [← eo]
            exact cl_alone hF ho ha
          have hle : A 7 a &&& o ≤ o := Nat.and_le_right
          -- what is written
          have put : ∀ v : Int32, (v = 0 ↔ ¬ clA A (2 ^ a + o)) → R21 (nI a) (nI (2 ^ a)) (nI (o + 1)) (sA (sA M' 17 (2 ^ a + o) (nI (ldA A (2 ^ a + o)))) 18 (2 ^ a + o) v) := fun v hv => by
            refine hp2 _ ((hE.up (Or.inl rfl)).up (Or.inr (Or.inl rfl))) ?_ (fun s hs => ?_)
            · rw [sA_g, if_neg (by omega), sA_g, if_neg (by omega)]
              exact hl
            · by_cases e : s = 2 ^ a + o
              · subst e
                refine ⟨?_, ?_⟩
                · rw [sA_g, if_neg (by omega), sA_g, if_pos ⟨rfl, rfl⟩]
                · rw [sA_g, if_pos ⟨rfl, rfl⟩]
                  exact hv
              · have := hk s (by omega)
                rw [sA_g, if_neg (by omega), sA_g, if_neg (by omega), sA_g, if_neg (by omega), sA_g, if_neg (by omega)]
                exact this
          refine ⟨vp_in_nI (by omega) (by omega), fun h3 => ⟨vp_in_nI (by omega) (by omega), ?_⟩, fun h3 => ⟨vp_in_nI (by omega) (by omega), fun h4 => ⟨vp_in_nI (by omega) (by omega), ?_⟩, fun h4 => ⟨vp_in_nI (by omega) (by omega), ?_⟩⟩⟩
          · rintro _ rfl _ rfl
            rw [nI_1]
            refine put _ ⟨fun e => absurd e (by decide), fun e => absurd (hcl.mpr (Or.inl (Classical.byContradiction fun hc => h3 (e18.mpr hc)))) e⟩
          · rintro _ rfl _ rfl
            rw [nI_1]
            have h5 : A 7 a &&& o = 0 := by
              have h6 : nI (A 7 a &&& o) = nI 0 := h4
              rwa [nI_eq (by omega) (by omega)] at h6
            refine put _ ⟨fun _ hc => ?_, fun _ => rfl⟩
            rcases hcl.mp hc with h7 | h7
            · exact e18.mp h3 h7
            · exact h7 h5
          · rintro _ rfl _ rfl
            rw [nI_1]
            refine put _ ⟨fun e => absurd e (by decide), fun e => absurd (hcl.mpr (Or.inr (fun h5 => h4 ?_))) e⟩
            rw [h5]
            rfl
      exact key2 0 (Nat.zero_le _) M' hE hl hk
  refine key 0 (Nat.zero_le _) _ ((EqL.rf M).up (Or.inr (Or.inr ⟨rfl, rfl⟩))) (by rw [sA_g, if_pos ⟨rfl, rfl⟩]) (fun s hs => ?_)
  have e : s = 0 := by
    have : s < 1 := hs
    omega
  subst e
  rw [sA_g, if_neg (by decide), sA_g, if_neg (by decide), h0, h1]
  refine ⟨?_, fun _ => ?_, fun _ => rfl⟩
  · unfold ldA
    rw [sumB_0]
    rfl
  · rintro ⟨a, _, hb, _⟩
    rw [Nat.zero_testBit] at hb
    exact absurd hb (by decide)
/-- marking the subsets of a set -/
theorem s_mark {M : Mem} {all : Nat} (ha : all < 1024) {post : Mem → Prop} (h : ∀ f : Nat → Int32, (∀ s, ¬ f s = 0 ↔ (¬ M.1 19 s = 0 ∨ (s ≠ 0 ∧ sb s all))) → post (sAr M 19 f)) : qX1_markAsked (nI all) M post := by
  intro R2 h2
  have key : ∀ t, sb t all → ∀ f : Nat → Int32, (∀ s, ¬ f s = 0 ↔ (¬ M.1 19 s = 0 ∨ (t < s ∧ sb s all))) → R2 (nI t) (sAr M 19 f) := by
    intro t
    induction t using Nat.strongRecOn with
    | ind t ih =>
      intro ht f hf
      have hta := sb_le ht
      apply h2
      refine ⟨fun h0 => ?_, fun h0 => ?_⟩
      · have hz : t = 0 := by
          have h1 : nI t ≤ nI 0 := h0
          rw [nI_leI (by omega) (by omega)] at h1
          omega
        subst hz
        exact h f (fun s => (hf s).trans (or_congr Iff.rfl (and_congr (by omega) Iff.rfl)))
      · have hp : 0 < t := by
          rcases Nat.eq_zero_or_pos t with e | e
          · subst e; exact absurd (show (0 : Int32) ≤ 0 by decide) h0
          · exact e
        refine ⟨vp_in_nI (by omega) (by omega), ?_⟩
        rintro _ rfl _ rfl
        rw [nI_clamp (by omega), sAr_up, show (1 : Int32) = nI 1 from rfl, pk_sub (by omega), bx_and]
        have hlt : (t - 1) &&& all < t := Nat.lt_of_le_of_lt Nat.and_le_left (by omega)
        refine ih _ hlt (sb_and _ _) _ (fun s => ?_)
        unfold upd
        by_cases e : s = t
        · rw [if_pos e]
          subst e
          exact ⟨fun _ => Or.inr ⟨hlt, ht⟩, fun _ e => absurd e (by decide)⟩
        · rw [if_neg e]
          refine (hf s).trans (or_congr Iff.rfl ⟨fun h3 => ⟨by omega, h3.2⟩, fun h3 => ⟨?_, h3.2⟩⟩)
          rcases Nat.lt_trichotomy s t with h4 | h4 | h4
          · have := sb_next t all s ht h3.2 h4
            omega
          · exact absurd h4 e
          · exact h4
  have h0 := key all (sb_rf _) (M.1 19) (fun s => ⟨fun h3 => Or.inl h3, fun h3 => h3.elim id (fun h4 => by have := sb_le h4.2; omega)⟩)
  rw [sAr_id] at h0
  exact h0

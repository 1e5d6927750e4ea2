/-! AN ASK COMES -/
def badK (a b c : Int32) : Prop := a.toInt < 1 ∨ 100 < a.toInt ∨ b.toInt < 0 ∨ 23 < c.toInt ∨ c.toInt < b.toInt
theorem r_ask {a b c : Int32} {N : Mem} {n : Nat} {post : Int32 → Mem → Prop} (hn : N.1 0 5 = nI n) (h10 : n ≤ 10) (h0 : badK a b c → post (-1) (sA N 0 0 1)) (h4 : n = 10 → ¬ badK a b c → post (-1) (sA N 0 0 4))
    (h1 : n < 10 → ¬ badK a b c → post (nI n) (sA (sA (sA (sA (sA (sA N 7 n a) 8 n b) 9 n c) 10 n 0) 0 5 (nI (n + 1))) 0 0 0)) : qX7_ask a b c N post := by
  intro R26 h26
  have no : badK a b c → R26 N := fun h => h26 N (by rintro _ rfl; exact h0 h)
  rw [hn]
  simp only [Int32.lt_iff_toInt_lt, Int32.le_iff_toInt_le, show (1 : Int32).toInt = 1 from rfl, show (100 : Int32).toInt = 100 from rfl, show (0 : Int32).toInt = 0 from rfl, show (24 : Int32).toInt = 24 from rfl]
  refine ⟨fun h => no (by unfold badK; omega), fun p1 => ⟨fun h => no (by unfold badK; omega), fun p2 => ⟨fun h => no (by unfold badK; omega), fun p3 => ⟨fun h => no (by unfold badK; omega), fun p4 => ⟨fun p5 => ⟨fun h => ?_, fun h => ?_⟩, fun h => no (by unfold badK; omega)⟩⟩⟩⟩⟩
  · have hlt : n < 10 := by
      rcases Nat.lt_or_ge n 10 with e | e
      · exact e
      · have e2 : n = 10 := by omega
        subst e2; exact absurd rfl h
    have g1 : (sA N 7 n a).1 0 5 = nI n := hn
    have g2 : (sA (sA N 7 n a) 8 n b).1 0 5 = nI n := hn
    have g3 : (sA (sA (sA N 7 n a) 8 n b) 9 n c).1 0 5 = nI n := hn
    have g4 : (sA (sA (sA (sA N 7 n a) 8 n b) 9 n c) 10 n 0).1 0 5 = nI n := hn
    refine ⟨vp_in_nI hlt (by omega), ?_⟩
    rintro _ rfl
    rw [nI_clamp (by omega), g1]
    refine ⟨vp_in_nI hlt (by omega), ?_⟩
    rintro _ rfl
    rw [nI_clamp (by omega), g2]
    refine ⟨vp_in_nI hlt (by omega), ?_⟩
    rintro _ rfl
    rw [nI_clamp (by omega), g3]
    refine ⟨vp_in_nI hlt (by omega), ?_⟩
    rintro _ rfl _ rfl _ rfl
    rw [nI_clamp (by omega), g4, show (1 : Int32) = nI 1 from rfl, nI_add]
    have g5 : (sA (sA (sA (sA (sA (sA N 7 n a) 8 n b) 9 n c) 10 n 0) 0 5 (nI (n + 1))) 0 0 0).1 0 5 = nI (n + 1) := rfl
    rw [g5, pk_sub (by omega)]
    exact h1 hlt (by unfold badK; omega)
  · rintro _ rfl
    refine h4 ?_ (by unfold badK; omega)
    have h' : nI n = nI 10 := h
    rwa [nI_eq (by omega) (by omega)] at h'
def asA (A : Abs) (w f l : Nat) : Abs := sR (sR (sR (sR (sR A 4 (A 0 1) w) 5 (A 0 1) f) 6 (A 0 1) l) 7 (A 0 1) 0) 0 1 (A 0 1 + 1)
theorem asA_4 {A : Abs} {w f l : Nat} (k : Nat) : asA A w f l 4 k = if k = A 0 1 then w else A 4 k := by
  show (if (4 : Nat) = 4 ∧ k = A 0 1 then w else A 4 k) = _
  by_cases e : k = A 0 1
  · rw [if_pos ⟨rfl, e⟩, if_pos e]
  · rw [if_neg (fun c => e c.2), if_neg e]
theorem asA_5 {A : Abs} {w f l : Nat} (k : Nat) : asA A w f l 5 k = if k = A 0 1 then f else A 5 k := by
  show (if (5 : Nat) = 5 ∧ k = A 0 1 then f else A 5 k) = _
  by_cases e : k = A 0 1
  · rw [if_pos ⟨rfl, e⟩, if_pos e]
  · rw [if_neg (fun c => e c.2), if_neg e]
theorem asA_6 {A : Abs} {w f l : Nat} (k : Nat) : asA A w f l 6 k = if k = A 0 1 then l else A 6 k := by
  show (if (6 : Nat) = 6 ∧ k = A 0 1 then l else A 6 k) = _
  by_cases e : k = A 0 1
  · rw [if_pos ⟨rfl, e⟩, if_pos e]
  · rw [if_neg (fun c => e c.2), if_neg e]
theorem asA_7 {A : Abs} {w f l : Nat} (k : Nat) : asA A w f l 7 k = if k = A 0 1 then 0 else A 7 k := by
  show (if (7 : Nat) = 7 ∧ k = A 0 1 then 0 else A 7 k) = _
  by_cases e : k = A 0 1
  · rw [if_pos ⟨rfl, e⟩, if_pos e]
  · rw [if_neg (fun c => e c.2), if_neg e]
theorem asA_r {A : Abs} {w f l : Nat} (r : Nat) (h : 8 ≤ r) : asA A w f l r = A r := by
  show sR (sR (sR (sR (sR A 4 (A 0 1) w) 5 (A 0 1) f) 6 (A 0 1) l) 7 (A 0 1) 0) 0 1 (A 0 1 + 1) r = _
  rw [sR_r r (by omega), sR_r r (by omega), sR_r r (by omega), sR_r r (by omega), sR_r r (by omega)]
theorem asA_KE {A : Abs} {w f l : Nat} : KE A (asA A w f l) := ⟨rfl, rfl, fun q hq => asA_r q (by omega)⟩
theorem asA_PE {A : Abs} {w f l : Nat} : PE A (asA A w f l) := ⟨rfl, asA_r 8 (by omega), asA_r 9 (by omega), asA_r 10 (by omega), asA_r 11 (by omega)⟩
theorem asA_so {A : Abs} {w f l h : Nat} : soA (asA A w f l) h = if f ≤ h ∧ h ≤ l then soA A h ||| 2 ^ A 0 1 else soA A h := by
  show mk (fun a => decide (asA A w f l 5 a ≤ h ∧ h ≤ asA A w f l 6 a)) (A 0 1) ||| (if decide (asA A w f l 5 (A 0 1) ≤ h ∧ h ≤ asA A w f l 6 (A 0 1)) = true then 2 ^ A 0 1 else 0) = _
  have e1 : mk (fun a => decide (asA A w f l 5 a ≤ h ∧ h ≤ asA A w f l 6 a)) (A 0 1) = soA A h := by
    apply mk_congr
    intro k hk
    rw [asA_5, asA_6, if_neg (by omega), if_neg (by omega)]
  rw [e1, asA_5, asA_6, if_pos rfl, if_pos rfl]
  by_cases e : f ≤ h ∧ h ≤ l
  · rw [if_pos e, if_pos (by simp [e])]
  · rw [if_neg e, if_neg (by simpa using e), Nat.or_zero]
theorem asA_FS {A : Abs} {w f l : Nat} (hl : ∀ a, a < A 0 1 → A 7 a < 2 ^ A 0 1) (h : FS A) : FS (asA A w f l) := by
  intro x y hx hy
  have hx' : x < A 0 1 + 1 := hx
  have hy' : y < A 0 1 + 1 := hy
  rw [asA_7, asA_7]
  by_cases e : x = A 0 1
  · rw [if_pos e, Nat.zero_testBit, Nat.zero_testBit]
    refine ⟨?_, rfl⟩
    by_cases e2 : y = A 0 1
    · rw [if_pos e2, Nat.zero_testBit]
    · rw [if_neg e2, e, bit_lt (hl y (by omega)) (Nat.le_refl _)]
  · rw [if_neg e]
    by_cases e2 : y = A 0 1
    · rw [if_pos e2, e2, Nat.zero_testBit, bit_lt (hl x (by omega)) (Nat.le_refl _)]
      exact ⟨rfl, (h x x (by omega) (by omega)).2⟩
    · rw [if_neg e2]
      exact h x y (by omega) (by omega)
/-- two memories that differ in the hours' sets and the marks alone -/
def EqS (M M' : Mem) : Prop := M'.2 = M.2 ∧ ∀ k, k ≠ 16 → k ≠ 19 → M'.1 k = M.1 k
theorem s_addAsk {A : Abs} {M : Mem} {w f l : Nat} (hR : HR A) (hC : HC A M) (hFS : FS A) (hn : A 0 1 < 10) (hw : w ≤ 100) (hfl : f ≤ l) (hl : l < 24) {post : Int32 → Mem → Prop}
    (h : ∀ M' M'', EqS (sA (sA M 11 1 (nI (A 0 1 + 1))) 14 (A 0 1) (nI w)) M' → (∀ h, h < 24 → M'.1 16 h = nI (soA (asA A w f l) h)) → AK (asA A w f l) (M'.1 19) → EqL M' M'' → HT (asA A w f l) M'' → M''.1 11 12 = -1 → post (nI (A 0 1)) M'') : qX1_addAsk (nI w) (nI f) (nI l) M post := by
  obtain ⟨⟨k1, k2, k3, k4, k5, k6, k7, k8, k9⟩, hT, hL⟩ := hC
  have h11 : 2 ^ (A 0 1 + 1) ≤ 1024 := Nat.pow_le_pow_right (n := 2) (by decide) hn
  have hpn : 2 ^ A 0 1 < 2 ^ (A 0 1 + 1) := Nat.pow_lt_pow_right (by decide) (by omega)
  intro R24 h24
  rintro _ rfl _ rfl
  rw [k2, nI_1, nI_clamp (show A 0 1 < 2 ^ 31 by omega)]
  refine ⟨vp_in_nI hn (by omega), ?_⟩
  rintro _ rfl
  have key : ∀ i, i ≤ l + 1 → f ≤ i → ∀ M', EqS (sA (sA M 11 1 (nI (A 0 1 + 1))) 14 (A 0 1) (nI w)) M' → (∀ h, h < 24 → M'.1 16 h = nI (if f ≤ h ∧ h < i then soA A h ||| 2 ^ A 0 1 else soA A h)) → (∀ h s, h < 24 → s ≠ 0 → sb s (if f ≤ h ∧ h < i then soA A h ||| 2 ^ A 0 1 else soA A h) → ¬ M'.1 19 s = 0) → (∀ s t, ¬ M'.1 19 s = 0 → t ≠ 0 → sb t s → ¬ M'.1 19 t = 0) → R24 (nI (A 0 1)) (nI i) M' := by
    refine up_to (fun _ M' hE h16 ha1 ha2 => ?_) (fun i hi hp hfi M' hE h16 ha1 ha2 => ?_)
    · apply h24
      refine ⟨fun _ => ?_, fun h2 => absurd (nI_lt (show l < l + 1 by omega) (by omega)) h2⟩
      have eso : ∀ h, (if f ≤ h ∧ h < l + 1 then soA A h ||| 2 ^ A 0 1 else soA A h) = soA (asA A w f l) h := fun h => by
        rw [asA_so]
        by_cases e : f ≤ h ∧ h ≤ l
        · rw [if_pos e, if_pos (by omega)]
        · rw [if_neg e, if_neg (by omega)]
      have hna' : asA A w f l 0 1 = A 0 1 + 1 := rfl
      have r17 : M'.1 17 = M.1 17 := by rw [hE.2 17 (by decide) (by decide), sA_1 17 (by decide), sA_1 17 (by decide)]
      have r18 : M'.1 18 = M.1 18 := by rw [hE.2 18 (by decide) (by decide), sA_1 18 (by decide), sA_1 18 (by decide)]
      refine s_tally (A := asA A w f l) (M := M') (by rw [hna']; omega) ?_ (fun a ha => ?_) (fun a ha => ?_) (fun a ha => ?_) (asA_FS (fun a ha => (hR.2.2.2 a ha).2.2.2.2) hFS) (by rw [r17]; exact (HT0 hT).1) (by rw [r18]; exact (HT0 hT).2) (fun M'' hE' hT' hl' => h M' M'' hE (fun h hh => by rw [h16 h hh, eso]) ⟨fun h s hh hs0 hs => ha1 h s hh hs0 (by rw [eso]; exact hs), ha2⟩ hE' hT' hl')
      · rw [hE.2 11 (by decide) (by decide)]
        rfl
      · have ha' : a < A 0 1 + 1 := ha
        rw [hE.2 14 (by decide) (by decide), sA_g, sA_1 14 (by decide), asA_4]
        by_cases e : a = A 0 1
        · rw [if_pos ⟨rfl, e⟩, if_pos e]
        · rw [if_neg (fun c => e c.2), if_neg e]
          exact k6 a (by omega)
      · have ha' : a < A 0 1 + 1 := ha
        rw [hE.2 15 (by decide) (by decide), sA_1 15 (by decide), sA_1 15 (by decide), asA_7, k7 a (by omega)]
        by_cases e : a = A 0 1
        · rw [if_pos e, if_neg (by omega)]
        · rw [if_neg e, if_pos (by omega)]
      · have ha' : a < A 0 1 + 1 := ha
        rw [asA_7, hna']
        by_cases e : a = A 0 1
        · rw [if_pos e]; exact Nat.two_pow_pos _
        · rw [if_neg e]
          have := (hR.2.2.2 a (by omega)).2.2.2.2
          omega
    · have hi24 : i < 24 := by omega
      have hso := soA_lt A i
      have hor : soA A i ||| 2 ^ A 0 1 < 2 ^ (A 0 1 + 1) := Nat.or_lt_two_pow (by omega) hpn
      have e16 : M'.1 16 i = nI (soA A i) := by rw [h16 i hi24, if_neg (by omega)]
      apply h24
      refine ⟨fun h2 => absurd h2 (nI_nlt (by omega) (by omega)), fun _ => ⟨vp_in_nI hi24 (by omega), vp_in_nI hi24 (by omega), ?_⟩⟩
      rintro _ rfl
      rw [nI_clamp (show i < 2 ^ 31 by omega), e16, bx_shl (by omega), bx_or]
      refine ⟨vp_in_nI hi24 (by omega), ?_⟩
      have g16 : (sA M' 16 i (nI (soA A i ||| 2 ^ A 0 1))).1 16 i = nI (soA A i ||| 2 ^ A 0 1) := by rw [sA_g, if_pos ⟨rfl, rfl⟩]
      rw [g16]
      refine s_mark (by omega) (fun g hg => ?_)
      rintro _ rfl
      rw [nI_1]
      have g19 : ∀ s, ¬ g s = 0 ↔ (¬ M'.1 19 s = 0 ∨ (s ≠ 0 ∧ sb s (soA A i ||| 2 ^ A 0 1))) := fun s => by
        have := hg s
        rw [sA_1 19 (by decide)] at this
        exact this
      have c19 : (sAr (sA M' 16 i (nI (soA A i ||| 2 ^ A 0 1))) 19 g).1 19 = g := by rw [sAr_g, if_pos rfl]
      refine hp (by omega) _ ⟨hE.1, fun k h1 h2 => ?_⟩ (fun h hh => ?_) (fun h s hh hs0 hs => ?_) (fun s t hs ht0 ht => ?_)
      · rw [sAr_g, if_neg h2, sA_1 k h1]
        exact hE.2 k h1 h2
      · rw [sAr_g, if_neg (by decide), sA_g]
        by_cases e : h = i
        · rw [if_pos ⟨rfl, e⟩, if_pos (by omega), e]
        · rw [if_neg (fun c => e c.2), h16 h hh]
          by_cases e2 : f ≤ h ∧ h < i
          · rw [if_pos e2, if_pos (by omega)]
          · rw [if_neg e2, if_neg (by omega)]
      · rw [c19, g19]
        by_cases e : h = i
        · subst e
          rw [if_pos (by omega)] at hs
          exact Or.inr ⟨hs0, hs⟩
        · refine Or.inl (ha1 h s hh hs0 ?_)
          by_cases e2 : f ≤ h ∧ h < i
          · rw [if_pos e2]; rwa [if_pos (by omega)] at hs
          · rw [if_neg e2]; rwa [if_neg (by omega)] at hs
      · rw [c19, g19] at hs ⊢
        rcases hs with hs | ⟨_, hs⟩
        · exact Or.inl (ha2 s t hs ht0 ht)
        · exact Or.inr ⟨ht0, sb_tr ht hs⟩
  refine key f (by omega) (Nat.le_refl _) _ ⟨rfl, fun _ _ _ => rfl⟩ (fun h hh => ?_) (fun h s hh hs0 hs => ?_) (fun s t hs ht0 ht => ?_)
  · rw [if_neg (by omega), sA_1 16 (by decide), sA_1 16 (by decide)]
    exact k8 h hh
  · rw [if_neg (by omega)] at hs
    rw [sA_1 19 (by decide), sA_1 19 (by decide)]
    exact k9.1 h s hh hs0 hs
  · rw [sA_1 19 (by decide), sA_1 19 (by decide)] at hs ⊢
    exact k9.2 s t hs ht0 ht

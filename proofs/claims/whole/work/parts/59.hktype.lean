/-! A TYPE COMES: both sides -/
def badT (a b c d : Int32) : Prop := a.toInt < 1 ∨ 100 < a.toInt ∨ b.toInt < 0 ∨ 11 < b.toInt ∨ c.toInt < 0 ∨ 5 < c.toInt ∨ d.toInt < 0 ∨ 1000 < d.toInt
theorem r_typeB {a b c d : Int32} {N : Mem} (hS : SL (N.1 2)) (hb : badT a b c d) {post : Int32 → Mem → Prop} (h : post (-1) (sA N 0 0 1)) : qX7_type a b c d N post := by
  intro R34 R66 R112 h34 h66 h112
  have n66 : R66 1 N := by
    apply h66
    refine ⟨fun x => absurd x (by decide), fun _ => ?_⟩
    rintro _ rfl
    exact h
  have n34 : R34 N := h34 N ⟨fun _ => n66, fun x => absurd x (by decide)⟩
  rw [Int32.lt_iff_toInt_lt, Int32.lt_iff_toInt_lt, Int32.lt_iff_toInt_lt, Int32.lt_iff_toInt_lt, Int32.lt_iff_toInt_lt, Int32.le_iff_toInt_le, Int32.toInt_zero, show (1 : Int32).toInt = 1 from rfl, show (100 : Int32).toInt = 100 from rfl, show (11 : Int32).toInt = 11 from rfl, show (1000 : Int32).toInt = 1000 from rfl]
  refine ⟨fun _ => n34, fun p1 => ⟨fun _ => n34, fun p2 => ⟨fun _ => n34, fun p3 => ⟨fun _ => n34, fun p4 => ⟨fun _ => n34, fun p5 => ⟨fun p6 => ?_, fun _ => n34⟩⟩⟩⟩⟩⟩
  have hx : ∀ s, s < 6 → ¬ c = nI s := by
    intro s hs e
    unfold badT at hb
    rw [e, nI_toInt (by omega)] at hb
    omega
  exact r_first (m := 12) hS (by decide) (fun _ => ⟨fun _ => n66, fun x => absurd x (by decide)⟩) (fun s hs ea => absurd ea (hx s hs)) (fun s n hs ea => absurd ea (hx s hs)) (fun s n hs ea => absurd ea (hx s hs)) (fun s n hs ea => absurd ea (hx s hs))
theorem r_typeG {s n sz ld pw : Nat} {M N : Mem} (hR : RS M N) (hs : s < 6) (h1 : 1 ≤ sz) (h2 : sz ≤ 100) (h3 : ld ≤ 11) (h4 : pw ≤ 1000) (hn : n ≤ 4) (e : N.1 0 7 = nI n) {r : Int32} (hr : WN M s 12 100000 r) {post : Int32 → Mem → Prop} (g1 : ¬ r = 0 → post (-1) (sA N 0 0 r)) (g4 : r = 0 → n = 4 → post (-1) (sA N 0 0 4))
    (g0 : r = 0 → n < 4 → post (nI n) (sA (sA (sAr (sA (sA (sA N 27 n (nI sz)) 28 n (nI ld)) 29 n (nI pw)) 30 (row48 (N.1 30) n (cmr M s))) 0 7 (nI (n + 1))) 0 0 0)) : qX7_type (nI sz) (nI ld) (nI s) (nI pw) N post := by
  intro R34 R66 R112 h34 h66 h112
  rw [Int32.lt_iff_toInt_lt, Int32.lt_iff_toInt_lt, Int32.lt_iff_toInt_lt, Int32.lt_iff_toInt_lt, Int32.lt_iff_toInt_lt, Int32.le_iff_toInt_le, Int32.toInt_zero, show (1 : Int32).toInt = 1 from rfl, show (100 : Int32).toInt = 100 from rfl, show (11 : Int32).toInt = 11 from rfl, show (1000 : Int32).toInt = 1000 from rfl, nI_toInt (by omega), nI_toInt (by omega), nI_toInt (by omega)]
  refine ⟨fun x => absurd x (by omega), fun _ => ⟨fun x => absurd x (by omega), fun _ => ⟨fun x => absurd x (by omega), fun _ => ⟨fun x => absurd x (by omega), fun _ => ⟨fun x => absurd x (by omega), fun _ => ⟨fun _ => ?_, fun x => absurd x (by omega)⟩⟩⟩⟩⟩⟩
  refine r_firstW (m := 12) (g := 100000) hR hs (by decide) hr ⟨fun hne => ?_, fun e0 => ?_⟩
  · apply h66
    refine ⟨fun x => ?_, fun _ => ?_⟩
    · rcases hr.cases with q | q | q | q
      · exact absurd q hne
      all_goals
        subst q
        exact absurd x (by decide)
    · rintro _ rfl
      exact g1 hne
  · subst e0
    rw [e]
    refine ⟨fun hne => ?_, fun he => ?_⟩
    · have hlt : n < 4 := by
        rcases Nat.lt_or_ge n 4 with q | q
        · exact q
        · rw [show n = 4 by omega] at hne
          exact absurd rfl hne
      exact r_addType hs hlt e (fun j hj => (rs_cmrg hR (g := 100000) (by decide) hs hr hj).2.2) h66 h112 (g0 rfl hlt)
    · apply h66
      refine ⟨fun x => absurd x (by decide), fun _ => ?_⟩
      rintro _ rfl
      exact g4 rfl (nI_is (by omega) (by decide) he)
def tyA (A : Abs) (sz ld pw : Nat) (f : Nat → Nat) : Abs := fun i j => if i = 13 ∧ j = A 0 3 then sz else if i = 14 ∧ j = A 0 3 then ld else if i = 15 ∧ j = A 0 3 then pw else if i = 16 + A 0 3 then f j else if i = 0 ∧ j = 3 then A 0 3 + 1 else A i j
theorem tyA_o {A : Abs} {sz ld pw : Nat} {f : Nat → Nat} (i j : Nat) (h1 : ¬ (i = 13 ∧ j = A 0 3)) (h2 : ¬ (i = 14 ∧ j = A 0 3)) (h3 : ¬ (i = 15 ∧ j = A 0 3)) (h4 : ¬ i = 16 + A 0 3) (h5 : ¬ (i = 0 ∧ j = 3)) : tyA A sz ld pw f i j = A i j := by
  unfold tyA
  rw [if_neg h1, if_neg h2, if_neg h3, if_neg h4, if_neg h5]
theorem tyA_l {A : Abs} {sz ld pw : Nat} {f : Nat → Nat} (i : Nat) (h0 : i ≠ 0) (h : i ≤ 12) : tyA A sz ld pw f i = A i := funext fun j => tyA_o i j (by omega) (by omega) (by omega) (by omega) (by omega)
theorem tyA_0 {A : Abs} {sz ld pw : Nat} {f : Nat → Nat} (j : Nat) (h : j ≠ 3) : tyA A sz ld pw f 0 j = A 0 j := tyA_o 0 j (by omega) (by omega) (by omega) (by omega) (by omega)
theorem tyA_3 {A : Abs} {sz ld pw : Nat} {f : Nat → Nat} : tyA A sz ld pw f 0 3 = A 0 3 + 1 := by
  unfold tyA
  rw [if_neg (by omega), if_neg (by omega), if_neg (by omega), if_neg (by omega), if_pos ⟨rfl, rfl⟩]
theorem tyA_13 {A : Abs} {sz ld pw : Nat} {f : Nat → Nat} (t : Nat) : tyA A sz ld pw f 13 t = if t = A 0 3 then sz else A 13 t := by
  by_cases e : t = A 0 3
  · unfold tyA
    rw [if_pos ⟨rfl, e⟩, if_pos e]
  · rw [if_neg e]
    exact tyA_o 13 t (by omega) (by omega) (by omega) (by omega) (by omega)
theorem tyA_14 {A : Abs} {sz ld pw : Nat} {f : Nat → Nat} (t : Nat) : tyA A sz ld pw f 14 t = if t = A 0 3 then ld else A 14 t := by
  by_cases e : t = A 0 3
  · unfold tyA
    rw [if_neg (by omega), if_pos ⟨rfl, e⟩, if_pos e]
  · rw [if_neg e]
    exact tyA_o 14 t (by omega) (by omega) (by omega) (by omega) (by omega)
theorem tyA_15 {A : Abs} {sz ld pw : Nat} {f : Nat → Nat} (t : Nat) : tyA A sz ld pw f 15 t = if t = A 0 3 then pw else A 15 t := by
  by_cases e : t = A 0 3
  · unfold tyA
    rw [if_neg (by omega), if_neg (by omega), if_pos ⟨rfl, e⟩, if_pos e]
  · rw [if_neg e]
    exact tyA_o 15 t (by omega) (by omega) (by omega) (by omega) (by omega)
theorem tyA_16 {A : Abs} {sz ld pw : Nat} {f : Nat → Nat} (t j : Nat) : tyA A sz ld pw f (16 + t) j = if t = A 0 3 then f j else A (16 + t) j := by
  by_cases e : t = A 0 3
  · unfold tyA
    rw [if_neg (by omega), if_neg (by omega), if_neg (by omega), if_pos (by omega), if_pos e]
  · rw [if_neg e]
    exact tyA_o (16 + t) j (by omega) (by omega) (by omega) (by omega) (by omega)
theorem mt90 {M : Mem} {n : Nat} {v x y z u w : Int32} {g : Nat → Int32} : (sA (sA (sAr (sA (sA (sA (sA M 75 0 v) 90 n x) 91 n y) 92 n z) (94 + n) g) 75 11 u) 0 5 w).1 90 = upd (M.1 90) n x := by
  rw [sA_1 90 (by decide), sA_1 90 (by decide), sAr_g, if_neg (by omega), sA_1 90 (by decide), sA_1 90 (by decide), sA_s, sA_1 90 (by decide)]
theorem mt91 {M : Mem} {n : Nat} {v x y z u w : Int32} {g : Nat → Int32} : (sA (sA (sAr (sA (sA (sA (sA M 75 0 v) 90 n x) 91 n y) 92 n z) (94 + n) g) 75 11 u) 0 5 w).1 91 = upd (M.1 91) n y := by
  rw [sA_1 91 (by decide), sA_1 91 (by decide), sAr_g, if_neg (by omega), sA_1 91 (by decide), sA_s, sA_1 91 (by decide), sA_1 91 (by decide)]
theorem mt92 {M : Mem} {n : Nat} {v x y z u w : Int32} {g : Nat → Int32} : (sA (sA (sAr (sA (sA (sA (sA M 75 0 v) 90 n x) 91 n y) 92 n z) (94 + n) g) 75 11 u) 0 5 w).1 92 = upd (M.1 92) n z := by
  rw [sA_1 92 (by decide), sA_1 92 (by decide), sAr_g, if_neg (by omega), sA_s, sA_1 92 (by decide), sA_1 92 (by decide), sA_1 92 (by decide)]
theorem nt27 {N : Mem} {n : Nat} {x y z u w : Int32} {g : Nat → Int32} : (sA (sA (sAr (sA (sA (sA N 27 n x) 28 n y) 29 n z) 30 g) 0 7 u) 0 0 w).1 27 = upd (N.1 27) n x := by
  rw [sA_1 27 (by decide), sA_1 27 (by decide), sAr_g, if_neg (by decide), sA_1 27 (by decide), sA_1 27 (by decide), sA_s]
theorem nt28 {N : Mem} {n : Nat} {x y z u w : Int32} {g : Nat → Int32} : (sA (sA (sAr (sA (sA (sA N 27 n x) 28 n y) 29 n z) 30 g) 0 7 u) 0 0 w).1 28 = upd (N.1 28) n y := by
  rw [sA_1 28 (by decide), sA_1 28 (by decide), sAr_g, if_neg (by decide), sA_1 28 (by decide), sA_s, sA_1 28 (by decide)]
theorem nt29 {N : Mem} {n : Nat} {x y z u w : Int32} {g : Nat → Int32} : (sA (sA (sAr (sA (sA (sA N 27 n x) 28 n y) 29 n z) 30 g) 0 7 u) 0 0 w).1 29 = upd (N.1 29) n z := by
  rw [sA_1 29 (by decide), sA_1 29 (by decide), sAr_g, if_neg (by decide), sA_s, sA_1 29 (by decide), sA_1 29 (by decide)]
theorem nt30 {N : Mem} {n : Nat} {x y z u w : Int32} {g : Nat → Int32} : (sA (sA (sAr (sA (sA (sA N 27 n x) 28 n y) 29 n z) 30 g) 0 7 u) 0 0 w).1 30 = g := by
  rw [sA_1 30 (by decide), sA_1 30 (by decide), sAr_g, if_pos rfl]
theorem hk_type (M N : Mem) (h : Rel M N) (a b c d : Int32) : qX6_type a b c d M (fun r M => qX7_type a b c d N (fun r2 N => r = r2 ∧ Rel M N)) := by
  obtain ⟨_, A, hA⟩ := h
  have hc := hA.1.c
  have hn := hA.1.n
  have hKR := hA.2.2.2.2.2.2.2.1.2
  have hKC := hA.2.2.2.2.2.2.2.2.1.1
  have hKN := hA.2.2.2.2.2.2.2.2.2
  have no : badT a b c d → qX6_deny 1 M (fun r M => (fun r M => qX7_type a b c d N (fun r2 N => r = r2 ∧ Rel M N)) r M) := by
    intro hb
    rintro _ rfl
    exact r_typeB hn hb ⟨rfl, Rel.no hA 1⟩
  have k0 : (0 : Int32).toInt = 0 := rfl
  have k1 : (1 : Int32).toInt = 1 := rfl
  have k11 : (11 : Int32).toInt = 11 := rfl
  have k100 : (100 : Int32).toInt = 100 := rfl
  have k1000 : (1000 : Int32).toInt = 1000 := rfl
  refine s_withinI (fun p1 q1 => b1_e (s_withinI (fun p2 q2 => ⟨rfl, b1_e (s_isNumber (fun s hs ec => b1_e (s_withinI (fun p4 q4 => b1_n ?_) (fun hx => b0_n (no ?_)))) (fun hx => b0_e (no ?_)))⟩) (fun hx => ⟨rfl, b0_e (no ?_)⟩))) (fun hx => b0_e (no ?_))
  · rw [k1] at p1
    rw [k100] at q1
    rw [k0] at p2 p4
    rw [k11] at q2
    rw [k1000] at q4
    obtain ⟨sz, h2, _, ea⟩ := nat_of (a := a) (n := 100) (by omega) q1
    obtain ⟨ld, h3, _, eb⟩ := nat_of (a := b) (n := 11) p2 q2
    obtain ⟨pw, h4, _, ed⟩ := nat_of (a := d) (n := 1000) p4 q4
    have h1 : 1 ≤ sz := by
      rw [ea, nI_toInt (by omega)] at p1
      omega
    subst ea eb ec ed
    refine s_firstW (m := 12) hc hs (by decide) (fun r hr => ⟨fun e0 => ?_, fun hne => ?_⟩)
    · subst e0
      rw [hKC.1]
      refine ⟨fun hne => ?_, fun he => ?_⟩
      · have hlt : A 0 3 < 4 := by
          rcases Nat.lt_or_ge (A 0 3) 4 with q | q
          · exact q
          · rw [show A 0 3 = 4 by have := hKR.1; omega] at hne
            exact absurd rfl hne
        have hh := fun j hj => rs_cmrg hA.1 (g := 100000) (by decide) hs hr (j := j) hj
        refine s_addType hs hlt hKC.1 (fun j hj => (hh j hj).2.1) ?_
        rintro _ rfl
        refine r_typeG hA.1 hs h1 h2 h3 h4 hKR.1 hKN.1 hr (fun x => absurd rfl x) (fun _ x => absurd hlt (by omega)) (fun _ _ => ⟨rfl, st_eq, tyA A sz ld pw (cmr M s), ?_⟩)
        refine hA.mk ⟨tyA_0 0 (by decide), tyA_0 1 (by decide), tyA_l 1 (by decide) (by decide), tyA_l 2 (by decide) (by decide), tyA_l 3 (by decide) (by decide), tyA_l 4 (by decide) (by decide), tyA_l 5 (by decide) (by decide), tyA_l 6 (by decide) (by decide), tyA_l 7 (by decide) (by decide)⟩ ⟨tyA_0 2 (by decide), tyA_l 8 (by decide) (by decide), tyA_l 9 (by decide) (by decide), tyA_l 10 (by decide) (by decide), tyA_l 11 (by decide) (by decide)⟩ (fun k h1 h2 => ?_) rfl (fun k h1 h2 => ?_) rfl (fun j h1 h2 h3 => ?_) ⟨?_, ?_, fun m hm => ?_, fun t ht => ?_⟩ ⟨⟨?_, ?_, fun m hm => ?_, fun t ht => ?_⟩, Or.inl rfl⟩ ⟨?_, ?_, fun m hm => ?_, fun t ht => ?_⟩
        · rw [sA_1 k h1, sA_1 k (by omega), sAr_g, if_neg (by omega), sA_1 k (by omega), sA_1 k (by omega), sA_1 k (by omega), sA_1 k (by omega)]
        · rw [sA_1 k h1, sA_1 k h1, sAr_g, if_neg (by omega), sA_1 k (by omega), sA_1 k (by omega), sA_1 k (by omega)]
        · rw [sA_g, if_neg (by omega), sA_g, if_neg (by omega)]
          rfl
        · rw [tyA_3]
          omega
        · rw [tyA_0 4 (by decide)]
          exact hKR.2.1
        · rw [tyA_l 12 (by decide) (by decide)]
          exact hKR.2.2.1 m hm
        · rw [tyA_3] at ht
          rw [tyA_13, tyA_14, tyA_15]
          by_cases e : t = A 0 3
          · rw [if_pos e, if_pos e, if_pos e]
            refine ⟨h1, h2, h3, h4, fun m hm => ?_⟩
            rw [tyA_16, if_pos e]
            exact (hh m hm).1
          · rw [if_neg e, if_neg e, if_neg e]
            obtain ⟨g1, g2, g3, g4, g5⟩ := hKR.2.2.2 t (by omega)
            refine ⟨g1, g2, g3, g4, fun m hm => ?_⟩
            rw [tyA_16, if_neg e]
            exact g5 m hm
        · rw [tyA_3]
          rw [sA_1 75 (by decide), sA_g, if_neg (by decide), sAr_g, if_neg (by omega), sA_1 75 (by decide), sA_1 75 (by decide), sA_1 75 (by decide), sA_g, if_pos ⟨rfl, rfl⟩]
        · rw [tyA_0 4 (by decide), sA_1 75 (by decide), sA_g, if_neg (by decide), sAr_g, if_neg (by omega), sA_1 75 (by decide), sA_1 75 (by decide), sA_1 75 (by decide), sA_g, if_neg (by decide)]
          exact hKC.2.1
        · rw [tyA_l 12 (by decide) (by decide), sA_1 89 (by decide), sA_1 89 (by decide), sAr_g, if_neg (by omega), sA_1 89 (by decide), sA_1 89 (by decide), sA_1 89 (by decide), sA_1 89 (by decide)]
          exact hKC.2.2.1 m hm
        · rw [tyA_3] at ht
          rw [tyA_13, tyA_14, tyA_15]
          rw [mt90, mt91, mt92]
          by_cases e : t = A 0 3
          · refine ⟨by rw [if_pos e, e, pk_us], by rw [if_pos e, e, pk_us], by rw [if_pos e, e, pk_us], fun m hm => ?_⟩
            rw [tyA_16, if_pos e, sA_1 (94 + t) (by omega), sA_1 (94 + t) (by omega), sAr_g, if_pos (by omega)]
            unfold rowT
            rw [if_pos hm]
          · obtain ⟨n1, n2, n3, n4⟩ := hKC.2.2.2 t (by omega)
            refine ⟨by rw [if_neg e, pk_un e]; exact n1, by rw [if_neg e, pk_un e]; exact n2, by rw [if_neg e, pk_un e]; exact n3, fun m hm => ?_⟩
            rw [tyA_16, if_neg e, sA_1 (94 + t) (by omega), sA_1 (94 + t) (by omega), sAr_g, if_neg (by omega), sA_1 (94 + t) (by omega), sA_1 (94 + t) (by omega), sA_1 (94 + t) (by omega), sA_1 (94 + t) (by omega)]
            exact n4 m hm
        · rw [tyA_3, sA_g, if_neg (by decide), sA_g, if_pos ⟨rfl, rfl⟩]
        · rw [tyA_0 4 (by decide), sA_g, if_neg (by decide), sA_g, if_neg (by decide), sAr_g, if_neg (by decide), sA_1 0 (by decide), sA_1 0 (by decide), sA_1 0 (by decide)]
          exact hKN.2.1
        · rw [tyA_l 12 (by decide) (by decide), sA_1 26 (by decide), sA_1 26 (by decide), sAr_g, if_neg (by decide), sA_1 26 (by decide), sA_1 26 (by decide), sA_1 26 (by decide)]
          exact hKN.2.2.1 m hm
        · rw [tyA_3] at ht
          rw [tyA_13, tyA_14, tyA_15]
          rw [nt27, nt28, nt29, nt30]
          unfold row48
          by_cases e : t = A 0 3
          · refine ⟨by rw [if_pos e, e, pk_us], by rw [if_pos e, e, pk_us], by rw [if_pos e, e, pk_us], fun m hm => ?_⟩
            rw [tyA_16, if_pos e, if_pos (by omega), show 12 * t + m - 12 * A 0 3 = m by omega]
          · obtain ⟨n1, n2, n3, n4⟩ := hKN.2.2.2 t (by omega)
            refine ⟨by rw [if_neg e, pk_un e]; exact n1, by rw [if_neg e, pk_un e]; exact n2, by rw [if_neg e, pk_un e]; exact n3, fun m hm => ?_⟩
            rw [tyA_16, if_neg e, if_neg (by omega)]
            exact n4 m hm
      · have e4 : A 0 3 = 4 := nI_is (by have := hKR.1; omega) (by decide) he
        rintro _ rfl
        exact r_typeG hA.1 hs h1 h2 h3 h4 hKR.1 hKN.1 hr (fun x => absurd rfl x) (fun _ _ => ⟨rfl, Rel.no hA 4⟩) (fun _ x => absurd e4 (by omega))
    · rintro _ rfl
      exact r_typeG hA.1 hs h1 h2 h3 h4 hKR.1 hKN.1 hr (fun _ => ⟨rfl, Rel.no hA r⟩) (fun x => absurd x hne) (fun x => absurd x hne)
  all_goals
    unfold badT
    try rw [k0, k1000] at hx
    try rw [k0, k11] at hx
    try rw [k1, k100] at hx
    omega

/-! BUYING: what is told to the market -/
def HE (A A' : Abs) : Prop := A' 0 0 = A 0 0 ∧ A' 0 1 = A 0 1 ∧ A' 1 = A 1 ∧ A' 2 = A 2 ∧ A' 3 = A 3 ∧ A' 4 = A 4 ∧ A' 5 = A 5 ∧ A' 6 = A 6 ∧ A' 7 = A 7
theorem HR.he {A A' : Abs} (h : HR A) (e : HE A A') : HR A' := by
  obtain ⟨e1, e2, e3, e4, e5, e6, e7, e8, e9⟩ := e
  unfold HR
  rw [e1, e2, e3, e4, e5, e6, e7, e8, e9]
  exact h
theorem FS.he {A A' : Abs} (h : FS A) (e : HE A A') : FS A' := by
  obtain ⟨e1, e2, e3, e4, e5, e6, e7, e8, e9⟩ := e
  unfold FS
  rw [e2, e9]
  exact h
theorem HN.he {A A' : Abs} {N : Mem} (h : HN A N) (e : HE A A') : HN A' N := by
  obtain ⟨e1, e2, e3, e4, e5, e6, e7, e8, e9⟩ := e
  unfold HN
  rw [e1, e2, e3, e4, e5, e6, e7, e8, e9]
  exact h
theorem soA_he {A A' : Abs} (e : HE A A') : soA A' = soA A := by
  obtain ⟨e1, e2, e3, e4, e5, e6, e7, e8, e9⟩ := e
  funext h
  unfold soA
  rw [e2, e7, e8]
theorem okA_he {A A' : Abs} (e : HE A A') : okA A' = okA A := by
  obtain ⟨e1, e2, e3, e4, e5, e6, e7, e8, e9⟩ := e
  unfold okA
  rw [e2, e3, e6, e9]
theorem ldA_he {A A' : Abs} (e : HE A A') : ldA A' = ldA A := by
  obtain ⟨e1, e2, e3, e4, e5, e6, e7, e8, e9⟩ := e
  funext s
  unfold ldA
  rw [e2, e6]
theorem clA_he {A A' : Abs} (e : HE A A') : clA A' = clA A := by
  obtain ⟨e1, e2, e3, e4, e5, e6, e7, e8, e9⟩ := e
  funext s
  unfold clA
  rw [e2, e9]
theorem HC.he {A A' : Abs} {M : Mem} (h : HC A M) (e : HE A A') : HC A' M := by
  have q1 := soA_he e
  have q2 := okA_he e
  have q3 := ldA_he e
  have q4 := clA_he e
  have q5 : AK A' = AK A := by
    funext f
    unfold AK
    rw [q1]
  obtain ⟨e1, e2, e3, e4, e5, e6, e7, e8, e9⟩ := e
  have q6 : upA A' = upA A := by
    unfold upA
    rw [e1, e5]
  have q7 : roA A' = roA A := by
    funext r
    unfold roA
    rw [e1, e4]
  have q8 : Tab A' = Tab A := by
    funext f w g
    unfold Tab
    rw [e2, q2]
  unfold HC HC0 HT LF
  rw [e1, e2, e3, e6, e9, q1, q3, q4, q5, q6, q7, q8]
  exact h
theorem lfA_he {A A' : Abs} (e : HE A A') (w : Nat) : lfA A' w = lfA A w := by
  have q1 := soA_he e
  have q2 := okA_he e
  have q3 := ldA_he e
  obtain ⟨e1, e2, e3, e4, e5, e6, e7, e8, e9⟩ := e
  funext h
  unfold lfA canA
  rw [e1, e3, q1, q2, q3]
theorem RelA.mk {A A' : Abs} {M N M' N' : Mem} (h : RelA A M N) (e : HE A A') (pe : PE A A') (r : ∀ k, k ≠ 0 → k < 75 → M'.1 k = M.1 k) (r2 : M'.2 = M.2) (q : ∀ k, k ≠ 0 → k < 26 → N'.1 k = N.1 k) (q2 : N'.2 = N.2) (q0 : ∀ j, 1 ≤ j → j ≠ 7 → j ≠ 40 → N'.1 0 j = N.1 0 j) (hKR : KR A') (hKC : KC A' M') (hKN : KN A' N') : RelA A' M' N' := by
  obtain ⟨h1, h2, h3, h4, h5, h6, h7, h8, _, _⟩ := h
  refine ⟨h1.fr r2 (r 9 (by decide) (by decide)) (r 10 (by decide) (by decide)) q2 (q 1 (by decide) (by decide)) (q 2 (by decide) (by decide)), h2.he e, (h3.sh (fun k _ _ => r k (by omega) (by omega))).he e, ?_, h5.fr pe, ⟨h6.1.fr pe (by rw [r 21 (by decide) (by decide)]) (fun k _ _ => r k (by omega) (by omega)), h6.2.1.fr pe (fun k _ _ => r k (by omega) (by omega)), h6.2.2.fr h5 pe (by rw [e.1]; exact Nat.le_refl _) (fun w _ => lfA_he e w) (fun k _ _ => r k (by omega) (by omega))⟩, h7.fr pe (q0 6 (by decide) (by decide) (by decide)) (fun k _ _ => q k (by omega) (by omega)), ⟨h8.1.he e, hKR⟩, hKC, hKN⟩
  have h4' := h4.he e
  unfold HN at h4' ⊢
  rw [q0 4 (by decide) (by decide) (by decide), q0 5 (by decide) (by decide) (by decide), q 4 (by decide) (by decide), q 5 (by decide) (by decide), q 6 (by decide) (by decide), q 7 (by decide) (by decide), q 8 (by decide) (by decide), q 9 (by decide) (by decide), q 10 (by decide) (by decide)]
  exact h4'
/-- the first twelve of a sheet, at most g -/
theorem cmr_g {M : Mem} {s m g : Nat} (hg : g < 2 ^ 31) (h : gd (M.2 (3 + s)) m (g : Int)) {j : Nat} (hj : j < m) : cmr M s j ≤ g ∧ M.2 (3 + s) j = lN (cmr M s j) := by
  obtain ⟨k, hk, e⟩ := gd_lN h hg hj
  have e2 : cmr M s j = k := by
    unfold cmr
    rw [e, lN_toInt (by omega)]
    rfl
  rw [e2]
  exact ⟨hk, e⟩
theorem rs_cmrg {M N : Mem} (hR : RS M N) {s m g : Nat} (hg : g < 2 ^ 31) (hs : s < 6) (hw : WN M s m (g : Int) 0) {j : Nat} (hj : j < m) : cmr M s j ≤ g ∧ M.2 (3 + s) j = lN (cmr M s j) ∧ N.2 3 (64 * s + j) = lN (cmr M s j) := by
  obtain ⟨n, hn, e, hmn, h⟩ := hw.z
  obtain ⟨h1, h2⟩ := cmr_g hg h hj
  refine ⟨h1, h2, ?_⟩
  obtain ⟨_, _, ex⟩ := hR s hs
  rcases ex with q | ⟨k, hk, q1, q2⟩
  · rw [e] at q
    exact absurd q (nI_nm1 (by omega))
  · rw [e, nI_eq (by omega) (by omega)] at q1
    rw [← q2 j (by omega)]
    exact h2
theorem upd_to {f g : Nat → Int32} {i : Nat} {v : Int32} (hv : v = g i) : upd (fun j => if j < i then g j else f j) i v = (fun j => if j < i + 1 then g j else f j) := by
  funext j
  unfold upd
  by_cases h1 : j = i
  · subst h1
    rw [if_pos rfl, if_pos (by omega), hv]
  · rw [if_neg h1]
    show (if j < i then g j else f j) = _
    by_cases h2 : j < i
    · rw [if_pos h2, if_pos (by omega)]
    · rw [if_neg h2, if_neg (by omega)]
theorem to_0 {f g : Nat → Int32} : (fun j => if j < 0 then g j else f j) = f := by
  funext j
  rw [if_neg (by omega)]
def rowT (f : Nat → Int32) (c : Nat → Nat) : Nat → Int32 := fun j => if j < 12 then nI (c j) else f j
theorem s_want {s : Nat} {c : Nat → Nat} {M : Mem} (hs : s < 6) (hc : ∀ j, j < 12 → M.2 (3 + s) j = lN (c j)) {post : Mem → Prop} (h : post (sA (sAr M 89 (rowT (M.1 89) c)) 75 11 0)) : qX2_want (nI s) M post := by
  intro R2 h2
  have key : ∀ i, i ≤ 12 → R2 (nI i) (sAr M 89 (fun j => if j < i then nI (c j) else M.1 89 j)) := by
    refine up_to ?_ (fun i hi ih => ?_)
    · apply h2
      refine ⟨fun _ => ?_, fun x => absurd (by decide) x⟩
      rintro _ rfl
      exact h
    · apply h2
      refine ⟨fun x => ?_, fun _ => ?_⟩
      · rw [show (12 : Int32) = nI 12 from rfl, nI_leI (by omega) (by omega)] at x
        omega
      · unfold qX4_at
        rw [nI_clamp (show s < 2 ^ 31 by omega), nI_clamp (show i < 2 ^ 31 by omega)]
        refine ⟨vp_in_nI hs (by omega), vp_in_nI (by omega) (by omega), vp_in_nI hi (by omega), ?_⟩
        rintro _ rfl _ rfl
        rw [nI_1, sAr_up, upd_to (by rw [sAr_2, hc i hi, lN_i])]
        exact ih
  have h0 := key 0 (Nat.zero_le _)
  rw [to_0, sAr_id] at h0
  exact h0
theorem r_wantL {s : Nat} {c : Nat → Nat} {N : Mem} (hs : s < 6) (hc : ∀ j, j < 12 → N.2 3 (64 * s + j) = lN (c j)) {post : Int32 → Mem → Prop} {R23 : Int32 → Mem → Prop} (h23 : ∀ x3 M, qX7_wanted_b23 (nI s) post R23 x3 M → R23 x3 M) (h : post 1 (sA (sAr N 26 (rowT (N.1 26) c)) 0 0 0)) : R23 0 N := by
  have key : ∀ i, i ≤ 12 → R23 (nI i) (sAr N 26 (fun j => if j < i then nI (c j) else N.1 26 j)) := by
    refine up_to ?_ (fun i hi ih => ?_)
    · apply h23
      exact ⟨fun _ => is_yes h, fun x => absurd (by decide) x⟩
    · apply h23
      refine ⟨fun x => ?_, fun _ => ?_⟩
      · rw [show (12 : Int32) = nI 12 from rfl, nI_leI (by omega) (by omega)] at x
        omega
      · rw [ix64, nI_clamp (show 64 * s + i < 2 ^ 31 by omega), nI_clamp (show i < 2 ^ 31 by omega)]
        refine ⟨vp_in_nI (by omega) (by omega), vp_in_nI hi (by omega), ?_⟩
        rintro _ rfl _ rfl
        rw [nI_1, sAr_up, upd_to (by rw [sAr_2, hc i hi, lN_i])]
        exact ih
  have h0 := key 0 (Nat.zero_le _)
  rw [to_0, sAr_id] at h0
  exact h0
def waA (A : Abs) (f : Nat → Nat) : Abs := fun i j => if i = 12 then f j else A i j
theorem hk_wanted (M N : Mem) (h : Rel M N) (a : Int32) : qX6_wanted a M (fun r M => qX7_wanted a N (fun r2 N => r = r2 ∧ Rel M N)) := by
  obtain ⟨_, A, hA⟩ := h
  have hc := hA.1.c
  have hn := hA.1.n
  refine s_isNumber (fun s hs ea => b1_n ?_) (fun hx => b0_n ?_)
  · subst ea
    refine s_firstW (m := 12) hc hs (by decide) (fun r hr => ⟨fun e0 => ?_, fun hne => ?_⟩)
    · subst e0
      have hh := fun j hj => rs_cmrg hA.1 (g := 500) (by decide) hs hr (j := j) hj
      refine s_want hs (fun j hj => (hh j hj).2.1) ?_
      rintro _ rfl
      refine ⟨rfl, ?_⟩
      intro R23 h23
      refine r_firstW (m := 12) (g := 500) hA.1 hs (by decide) hr ⟨fun _ => ?_, fun x => absurd (by decide) x⟩
      refine r_wantL hs (fun j hj => (hh j hj).2.2) h23 ⟨rfl, st_eq, waA A (cmr M s), ?_⟩
      have hKR := hA.2.2.2.2.2.2.2.1.2
      have hKC := hA.2.2.2.2.2.2.2.2.1.1
      have hKN := hA.2.2.2.2.2.2.2.2.2
      refine hA.mk ⟨rfl, rfl, rfl, rfl, rfl, rfl, rfl, rfl, rfl⟩ ⟨rfl, rfl, rfl, rfl, rfl⟩ (fun k h1 h2 => ?_) rfl (fun k h1 h2 => ?_) rfl (fun j h1 h2 h3 => ?_) ⟨hKR.1, hKR.2.1, fun m hm => (hh m hm).1, fun t ht => ?_⟩ ⟨⟨hKC.1, hKC.2.1, fun m hm => ?_, fun t ht => ?_⟩, Or.inl rfl⟩ ⟨hKN.1, hKN.2.1, fun m hm => ?_, fun t ht => ?_⟩
      · rw [sA_1 k h1, sA_1 k (by omega), sAr_g, if_neg (by omega)]
      · rw [sA_1 k h1, sAr_g, if_neg (by omega)]
      · rw [sA_g, if_neg (by omega)]
        rfl
      · obtain ⟨g1, g2, g3, g4, g5⟩ := hKR.2.2.2 t ht
        refine ⟨g1, g2, g3, g4, fun m hm => ?_⟩
        show (if 16 + t = 12 then _ else A (16 + t) m) ≤ _
        rw [if_neg (by omega)]
        exact g5 m hm
      · show rowT (M.1 89) (cmr M s) m = nI (cmr M s m)
        unfold rowT
        rw [if_pos hm]
      · obtain ⟨g1, g2, g3, g4⟩ := hKC.2.2.2 t ht
        refine ⟨g1, g2, g3, fun m hm => ?_⟩
        rw [sA_1 (94 + t) (by omega), sA_1 (94 + t) (by omega), sAr_g, if_neg (by omega)]
        show _ = nI (if 16 + t = 12 then _ else A (16 + t) m)
        rw [if_neg (by omega)]
        exact g4 m hm
      · show rowT (N.1 26) (cmr M s) m = nI (cmr M s m)
        unfold rowT
        rw [if_pos hm]
      · obtain ⟨g1, g2, g3, g4⟩ := hKN.2.2.2 t ht
        refine ⟨g1, g2, g3, fun m hm => ?_⟩
        show N.1 30 (12 * t + m) = nI (if 16 + t = 12 then _ else A (16 + t) m)
        rw [if_neg (by omega)]
        exact g4 m hm
    · rintro _ rfl
      refine ⟨rfl, ?_⟩
      intro R23 h23
      refine r_firstW (m := 12) (g := 500) hA.1 hs (by decide) hr ⟨fun x => ?_, fun _ => is_no hne ⟨rfl, Rel.no hA r⟩⟩
      rcases hr.cases with e | e | e | e
      · exact absurd e hne
      all_goals
        subst e
        exact absurd x (by decide)
  · rintro _ rfl
    refine ⟨rfl, ?_⟩
    intro R23 h23
    have hx' : ∀ s, s < 6 → ¬ a = nI s := by
      intro s hs e
      rw [e, nI_toInt (by omega)] at hx
      omega
    exact r_first (m := 12) hn (by decide) (fun _ => ⟨fun x => absurd x (by decide), fun _ => is_no (by decide) ⟨rfl, Rel.no hA 1⟩⟩) (fun s hs ea => absurd ea (hx' s hs)) (fun s n hs ea => absurd ea (hx' s hs)) (fun s n hs ea => absurd ea (hx' s hs)) (fun s n hs ea => absurd ea (hx' s hs))

/-! SHEETS: numbers are copied -/
theorem sub_toInt {a b : Nat} (ha : a ≤ 64) (hb : b < 2 ^ 31) : (nI a - nI b).toInt = (a : Int) - b := by
  rw [Int32.toInt_sub, nI_toInt (by omega), nI_toInt hb]
  rw [Int.bmod_eq_of_le] <;> omega
theorem s_spans {s p m : Nat} {n : Nat} {M : Mem} (hs : s < 6) (hp : p < 2 ^ 31) (hm : m < 2 ^ 31) (hn : n ≤ 64) (he : M.1 10 s = nI n) {post : Int32 → Mem → Prop} (h1 : p + m ≤ n → post 1 M) (h0 : n < p + m → post 0 M) : qX4_spans (nI s) (nI p) (nI m) M post := by
  unfold qX4_spans
  rw [nI_clamp (show s < 2 ^ 31 by omega), he, nI_l hp, nI_l hm, nI_l (by omega), lN_add, lg_cmp_gt, pk_lLT (by omega) (by omega)]
  exact ⟨vp_in_nI hs (by omega), fun h => h0 h, fun h => h1 (by omega)⟩
/-- m numbers of f from p on, cut, come to the places of g from q on -/
def cpyV (f g : Nat → Int64) (p q m : Nat) (s : Int32) : Nat → Int64 := fun j => if q ≤ j ∧ j < q + m then cutV (f (p + (j - q))) s else g j
theorem s_carry {f t p q m n n2 : Nat} {M : Mem} (hf : f < 6) (ht : t < 6) (hp : p + m ≤ n) (hq : q + m ≤ n2) (hn : n ≤ 64) (hn2 : n2 ≤ 64) {post : Mem → Prop} (h : post (sBr M (3 + t) (cpyV (M.2 (3 + f)) (M.2 (3 + t)) p q m (M.1 9 t)))) : qX4_carry (nI f) (nI p) (nI t) (nI q) (nI m) M post := by
  intro R24 h24
  rw [nI_clamp (show f < 2 ^ 31 by omega), nI_clamp (show t < 2 ^ 31 by omega), nI_clamp (show p < 2 ^ 31 by omega), nI_clamp (show q < 2 ^ 31 by omega), nI_clamp (show m < 2 ^ 31 by omega)]
  refine ⟨vp_in_nI hf (by omega), vp_in_nI ht (by omega), ⟨nI_pos (by omega), nI_pos (by omega), nI_pos (by omega), by omega, by omega⟩, ?_⟩
  rintro _ rfl
  have key : ∀ i, i ≤ q + m → q ≤ i → R24 (nI i) (sBr M (3 + t) (fun j => if q ≤ j ∧ j < i then cutV (va_cpy (M.2 (3 + f)) (M.2 (3 + t)) p q m j) (M.1 9 t) else va_cpy (M.2 (3 + f)) (M.2 (3 + t)) p q m j)) := by
    refine up_to (fun _ => ?_) (fun i hi hp' hqi => ?_)
    · apply h24
      unfold qX4_carry_b24
      rw [nI_add]
      refine ⟨fun _ => ?_, fun h => absurd (nI_le (Nat.le_refl _) (by omega)) h⟩
      have e : (fun j => if q ≤ j ∧ j < q + m then cutV (va_cpy (M.2 (3 + f)) (M.2 (3 + t)) p q m j) (M.1 9 t) else va_cpy (M.2 (3 + f)) (M.2 (3 + t)) p q m j) = cpyV (M.2 (3 + f)) (M.2 (3 + t)) p q m (M.1 9 t) := by
        funext j
        unfold cpyV
        by_cases e : q ≤ j ∧ j < q + m
        · rw [if_pos e, if_pos e, pk_cpy_in e.1 e.2]
        · rw [if_neg e, if_neg e, pk_cpy_out (by omega)]
      rw [e]
      exact h
    · apply h24
      unfold qX4_carry_b24
      rw [nI_add]
      refine ⟨fun h => absurd h (nI_ge hi (by omega)), fun _ => ?_⟩
      unfold qX4_put
      rw [nI_clamp (show i < 2 ^ 31 by omega), nI_clamp (show t < 2 ^ 31 by omega)]
      refine ⟨vp_in_nI ht (by omega), vp_in_nI (by omega) (by omega), vp_in_nI ht (by omega), vp_in_nI ht (by omega), s_cut ⟨vp_in_nI (by omega) (by omega), ?_⟩⟩
      rintro _ rfl _ rfl
      rw [nI_1, sBr_up, sBr_x, sBr_s]
      have e : vp_updL (fun j => if q ≤ j ∧ j < i then cutV (va_cpy (M.2 (3 + f)) (M.2 (3 + t)) p q m j) (M.1 9 t) else va_cpy (M.2 (3 + f)) (M.2 (3 + t)) p q m j) i (cutV (if q ≤ i ∧ i < i then cutV (va_cpy (M.2 (3 + f)) (M.2 (3 + t)) p q m i) (M.1 9 t) else va_cpy (M.2 (3 + f)) (M.2 (3 + t)) p q m i) (M.1 9 t)) = (fun j => if q ≤ j ∧ j < i + 1 then cutV (va_cpy (M.2 (3 + f)) (M.2 (3 + t)) p q m j) (M.1 9 t) else va_cpy (M.2 (3 + f)) (M.2 (3 + t)) p q m j) := by
        rw [if_neg (by omega)]
        funext j
        unfold vp_updL
        by_cases e : j = i
        · subst e
          rw [if_pos rfl, if_pos (by omega)]
        · rw [if_neg e]
          dsimp only
          by_cases e2 : q ≤ j ∧ j < i
          · rw [if_pos e2, if_pos (by omega)]
          · rw [if_neg e2, if_neg (by omega)]
      rw [e]
      exact hp' (by omega)
  have h0 := key q (by omega) (Nat.le_refl _)
  have e : (fun j => if q ≤ j ∧ j < q then cutV (va_cpy (M.2 (3 + f)) (M.2 (3 + t)) p q m j) (M.1 9 t) else va_cpy (M.2 (3 + f)) (M.2 (3 + t)) p q m j) = va_cpy (M.2 (3 + f)) (M.2 (3 + t)) p q m := by
    funext j
    rw [if_neg (by omega)]
  rw [e] at h0
  exact h0
/-- the reference's sheets with m numbers from place x on at place y on, cut -/
def cpyR (g : Nat → Int64) (x y m : Nat) (s : Int32) : Nat → Int64 := fun j => if y ≤ j ∧ j < y + m then cutV (g (x + (j - y))) s else g j
theorem r_loopc {f t p q m : Nat} {N : Mem} (hf : f < 6) (ht : t < 6) (hp : p + m ≤ 64) (hq : q + m ≤ 64) (post : Int32 → Mem → Prop) (R28 : Mem → Prop) (R96 : Int32 → Mem → Prop) (R121 : Int32 → Int32 → Mem → Prop)
    (h96 : ∀ x6 M, qX7_copy_b96 (nI f) (nI p) (nI t) (nI q) (nI m) post R28 R96 R121 x6 M → R96 x6 M) (h121 : ∀ x6 s0 M, qX7_copy_b121 (nI f) (nI p) (nI t) (nI q) (nI m) post R28 R96 R121 x6 s0 M → R121 x6 s0 M)
    (h : post 1 (sA (sBr N 3 (cpyR (N.2 3) (64 * f + p) (64 * t + q) m (N.1 1 t))) 0 0 0)) : R96 0 N := by
  have st : ∀ (i k : Nat) (g : Nat → Int64), i < m → k < m → g (64 * f + p + k) = N.2 3 (64 * f + p + k) → R96 (nI (i + 1)) (sBr N 3 (vp_updL g (64 * t + q + k) (cutV (N.2 3 (64 * f + p + k)) (N.1 1 t)))) → R121 (nI i) (nI k) (sBr N 3 g) := by
    intro i k g hi hk hg hr
    apply h121
    unfold qX7_copy_b121
    rw [ix64, nI_add, ix64, nI_add, nI_clamp (show 64 * f + p + k < 2 ^ 31 by omega), nI_clamp (show 64 * t + q + k < 2 ^ 31 by omega), nI_clamp (show t < 2 ^ 31 by omega)]
    refine ⟨vp_in_nI (by omega) (by omega), vp_in_nI ht (by omega), r_cut ⟨vp_in_nI (by omega) (by omega), ?_⟩⟩
    rintro _ rfl _ rfl
    rw [nI_1, sBr_up, sBr_x, sBr_s, hg]
    exact hr
  have id : sBr N 3 (N.2 3) = N := sBr_id
  by_cases hpq : q ≤ p
  · have key : ∀ i, i ≤ m → R96 (nI i) (sBr N 3 (cpyR (N.2 3) (64 * f + p) (64 * t + q) i (N.1 1 t))) := by
      refine up_to ?_ (fun i hi hr => ?_)
      · apply h96
        exact ⟨fun _ => is_yes h, fun h => absurd (nI_le (Nat.le_refl _) (by omega)) h⟩
      · apply h96
        refine ⟨fun h => absurd h (nI_ge hi (by omega)), fun _ => ⟨fun _ => ?_, fun h => absurd (nI_le hpq (by omega)) h⟩⟩
        refine st i i _ hi hi ?_ ?_
        · unfold cpyR
          rw [if_neg (by omega)]
        · have e : vp_updL (cpyR (N.2 3) (64 * f + p) (64 * t + q) i (N.1 1 t)) (64 * t + q + i) (cutV (N.2 3 (64 * f + p + i)) (N.1 1 t)) = cpyR (N.2 3) (64 * f + p) (64 * t + q) (i + 1) (N.1 1 t) := by
            funext j
            unfold cpyR vp_updL
            by_cases e : j = 64 * t + q + i
            · subst e
              rw [if_pos rfl, if_pos (by omega), show 64 * f + p + (64 * t + q + i - (64 * t + q)) = 64 * f + p + i by omega]
            · rw [if_neg e]
              dsimp only
              by_cases e2 : 64 * t + q ≤ j ∧ j < 64 * t + q + i
              · rw [if_pos e2, if_pos (by omega)]
              · rw [if_neg e2, if_neg (by omega)]
          rw [e]
          exact hr
    have h0 := key 0 (Nat.zero_le _)
    have e : cpyR (N.2 3) (64 * f + p) (64 * t + q) 0 (N.1 1 t) = N.2 3 := by
      funext j
      unfold cpyR
      rw [if_neg (by omega)]
    rw [e, id] at h0
    exact h0
  · -- from the end back
    have key : ∀ i, i ≤ m → R96 (nI i) (sBr N 3 (fun j => if 64 * t + q + (m - i) ≤ j ∧ j < 64 * t + q + m then cutV (N.2 3 (64 * f + p + (j - (64 * t + q)))) (N.1 1 t) else N.2 3 j)) := by
      refine up_to ?_ (fun i hi hr => ?_)
      · apply h96
        refine ⟨fun _ => is_yes ?_, fun h => absurd (nI_le (Nat.le_refl _) (by omega)) h⟩
        rw [Nat.sub_self, Nat.add_zero]
        exact h
      · apply h96
        refine ⟨fun h => absurd h (nI_ge hi (by omega)), fun _ => ⟨fun h => absurd h (nI_ge (by omega) (by omega)), fun _ => ?_⟩⟩
        rw [show (1 : Int32) = nI 1 from rfl, pk_sub (by omega), pk_sub (by omega)]
        refine st i (m - 1 - i) _ hi (by omega) ?_ ?_
        · show (if 64 * t + q + (m - i) ≤ 64 * f + p + (m - 1 - i) ∧ 64 * f + p + (m - 1 - i) < 64 * t + q + m then _ else _) = _
          rw [if_neg (by omega)]
        · have e : vp_updL (fun j => if 64 * t + q + (m - i) ≤ j ∧ j < 64 * t + q + m then cutV (N.2 3 (64 * f + p + (j - (64 * t + q)))) (N.1 1 t) else N.2 3 j) (64 * t + q + (m - 1 - i)) (cutV (N.2 3 (64 * f + p + (m - 1 - i))) (N.1 1 t)) = (fun j => if 64 * t + q + (m - (i + 1)) ≤ j ∧ j < 64 * t + q + m then cutV (N.2 3 (64 * f + p + (j - (64 * t + q)))) (N.1 1 t) else N.2 3 j) := by
            funext j
            unfold vp_updL
            by_cases e : j = 64 * t + q + (m - 1 - i)
            · subst e
              rw [if_pos rfl, if_pos (by omega), show 64 * f + p + (64 * t + q + (m - 1 - i) - (64 * t + q)) = 64 * f + p + (m - 1 - i) by omega]
            · rw [if_neg e]
              dsimp only
              by_cases e2 : 64 * t + q + (m - i) ≤ j ∧ j < 64 * t + q + m
              · rw [if_pos e2, if_pos (by omega)]
              · rw [if_neg e2, if_neg (by omega)]
          rw [e]
          exact hr
    have h0 := key 0 (Nat.zero_le _)
    have e : (fun j => if 64 * t + q + (m - 0) ≤ j ∧ j < 64 * t + q + m then cutV (N.2 3 (64 * f + p + (j - (64 * t + q)))) (N.1 1 t) else N.2 3 j) = N.2 3 := by
      funext j
      rw [if_neg (by omega)]
    rw [e, id] at h0
    exact h0
def badC (a b c d e : Int32) : Prop := a.toInt < 0 ∨ 5 < a.toInt ∨ c.toInt < 0 ∨ 5 < c.toInt ∨ b.toInt < 0 ∨ d.toInt < 0 ∨ e.toInt < 0
theorem r_copy {a b c d e : Int32} {N : Mem} (hS : SL (N.1 2)) {post : Int32 → Mem → Prop} (h1 : badC a b c d e → post 0 (sA N 0 0 1))
    (h2 : ∀ f t, f < 6 → t < 6 → a = nI f → c = nI t → ¬ badC a b c d e → (N.1 2 f = -1 ∨ N.1 2 t = -1) → post 0 (sA N 0 0 2))
    (h3 : ∀ f t n n2 p q m, f < 6 → t < 6 → a = nI f → c = nI t → n ≤ 64 → n2 ≤ 64 → N.1 2 f = nI n → N.1 2 t = nI n2 → p < 2 ^ 31 → q < 2 ^ 31 → m < 2 ^ 31 → b = nI p → d = nI q → e = nI m → (n < p + m ∨ n2 < q + m) → post 0 (sA N 0 0 3))
    (h0 : ∀ f t n n2 p q m, f < 6 → t < 6 → a = nI f → c = nI t → n ≤ 64 → n2 ≤ 64 → N.1 2 f = nI n → N.1 2 t = nI n2 → p + m ≤ n → q + m ≤ n2 → b = nI p → d = nI q → e = nI m → post 1 (sA (sBr N 3 (cpyR (N.2 3) (64 * f + p) (64 * t + q) m (N.1 1 t))) 0 0 0)) : qX7_copy a b c d e N post := by
  intro R28 R96 R121 h28 h96 h121
  have no : badC a b c d e → R28 N := fun hb => h28 N (is_no (by decide) (h1 hb))
  refine r_isSheet (fun f hf ea => b1_e (r_isSheet (fun t ht ec => b1_e ?_) (fun h => b0_e (no (by unfold badC; omega))))) (fun h => b0_e (no (by unfold badC; omega)))
  refine ⟨fun h => no (by rw [Int32.lt_iff_toInt_lt, Int32.toInt_zero] at h; unfold badC; omega), fun p1 => ⟨fun h => no (by rw [Int32.lt_iff_toInt_lt, Int32.toInt_zero] at h; unfold badC; omega), fun p2 => ⟨fun p3 => ?_, fun h => no (by rw [Int32.le_iff_toInt_le, Int32.toInt_zero] at h; unfold badC; omega)⟩⟩⟩
  obtain ⟨p, hp, eb⟩ := nI_of p1
  obtain ⟨q, hq, ed⟩ := nI_of p2
  obtain ⟨m, hm, ee⟩ := nI_of (x := e) (by rw [Int32.lt_iff_toInt_lt, Int32.toInt_zero]; rw [Int32.le_iff_toInt_le, Int32.toInt_zero] at p3; omega)
  have ok : ¬ badC a b c d e := by
    unfold badC
    rw [ea, eb, ec, ed, ee, nI_toInt (by omega), nI_toInt (by omega), nI_toInt (by omega), nI_toInt (by omega), nI_toInt (by omega)]
    omega
  subst ea eb ec ed ee
  rw [nI_clamp (show f < 2 ^ 31 by omega), nI_clamp (show t < 2 ^ 31 by omega)]
  refine ⟨vp_in_nI hf (by omega), fun he => is_no (by decide) (h2 f t hf ht rfl rfl ok (Or.inl he)), fun hne => ⟨vp_in_nI ht (by omega), fun hne2 => ?_, fun he => is_no (by decide) (h2 f t hf ht rfl rfl ok (Or.inr he))⟩⟩
  rcases hS f hf with e1 | ⟨n, hn, e1⟩
  · exact absurd e1 hne
  rcases hS t ht with e2 | ⟨n2, hn2, e2⟩
  · exact absurd e2 hne2
  rw [e1, e2, Int32.lt_iff_toInt_lt, Int32.le_iff_toInt_le, sub_toInt hn hp, sub_toInt hn2 hq, nI_toInt hm]
  refine ⟨vp_in_nI hf (by omega), fun h => is_no (by decide) (h3 f t n n2 p q m hf ht rfl rfl hn hn2 e1 e2 hp hq hm rfl rfl rfl (Or.inl (by omega))), fun g1 => ⟨vp_in_nI ht (by omega), fun g2 => ?_, fun h => is_no (by decide) (h3 f t n n2 p q m hf ht rfl rfl hn hn2 e1 e2 hp hq hm rfl rfl rfl (Or.inr (by omega)))⟩⟩
  exact r_loopc hf ht (by omega) (by omega) post R28 R96 R121 h96 h121 (h0 f t n n2 p q m hf ht rfl rfl hn hn2 e1 e2 (by omega) (by omega) rfl rfl rfl)
theorem okC {f t p q m : Nat} (hf : f < 6) (ht : t < 6) (hp : p < 2 ^ 31) (hq : q < 2 ^ 31) (hm : m < 2 ^ 31) : ¬ badC (nI f) (nI p) (nI t) (nI q) (nI m) := by
  unfold badC
  rw [nI_toInt (by omega), nI_toInt (by omega), nI_toInt (by omega), nI_toInt (by omega), nI_toInt (by omega)]
  omega
theorem RS.cpy {M N : Mem} (h : RS M N) {f t p q m n n2 : Nat} (hf : f < 6) (ht : t < 6) (hp : p + m ≤ n) (hq : q + m ≤ n2) (hn : n ≤ 64) (hn2 : n2 ≤ 64) (e1 : N.1 2 f = nI n) {M' N' : Mem} (r : M'.1 9 = M.1 9) (r2 : M'.1 10 = M.1 10) (s1 : N'.1 1 = N.1 1) (s2 : N'.1 2 = N.1 2) (eM : M'.2 = (sBr M (3 + t) (cpyV (M.2 (3 + f)) (M.2 (3 + t)) p q m (M.1 9 t))).2) (eN : N'.2 = (sBr N 3 (cpyR (N.2 3) (64 * f + p) (64 * t + q) m (N.1 1 t))).2) : RS M' N' := by
  intro s hs
  rw [r, r2, s1, s2, eM, eN]
  obtain ⟨f9, f10, ex⟩ := h s hs
  refine ⟨f9, f10, ex.imp id (fun ⟨k, hk, g1, g2⟩ => ⟨k, hk, g1, fun j hj => ?_⟩)⟩
  rw [sBr_g, sBr_g, if_pos rfl]
  by_cases e : s = t
  · subst e
    rw [if_pos rfl]
    unfold cpyV cpyR
    by_cases e2 : q ≤ j ∧ j < q + m
    · rw [if_pos e2, if_pos (by omega), f9]
      obtain ⟨_, f10', ex'⟩ := h f hf
      rcases ex' with q1 | ⟨k', hk', q1, q2⟩
      · rw [f10', e1] at q1
        exact absurd q1 (nI_nm1 (by omega))
      · rw [f10', e1, nI_eq (by omega) (by omega)] at q1
        rw [q2 (p + (j - q)) (by omega), show 64 * f + p + (64 * s + j - (64 * s + q)) = 64 * f + (p + (j - q)) by omega]
    · rw [if_neg e2, if_neg (by omega)]
      exact g2 j hj
  · rw [if_neg (by omega)]
    unfold cpyR
    rw [if_neg (by omega)]
    exact g2 j hj
theorem hk_copy (M N : Mem) (h : Rel M N) (a b c d e : Int32) : qX6_copy a b c d e M (fun r M => qX7_copy a b c d e N (fun r2 N => r = r2 ∧ Rel M N)) := by
  obtain ⟨_, A, hA⟩ := h
  have hc := hA.1.c
  have hn := hA.1.n
  intro R28 h28
  have no : badC a b c d e → R28 M := by
    intro hb
    apply h28
    rintro _ rfl
    refine ⟨rfl, r_copy hn (fun _ => ⟨rfl, Rel.no hA 1⟩) (fun f t hf ht ea ec ok _ => absurd hb ok) (fun f t n n2 p q m hf ht ea ec _ _ _ _ hp hq hm eb ed ee _ => ?_) (fun f t n n2 p q m hf ht ea ec hn hn2 _ _ hp hq eb ed ee => ?_)⟩
    · rw [ea, eb, ec, ed, ee] at hb
      exact absurd hb (okC hf ht hp hq hm)
    · rw [ea, eb, ec, ed, ee] at hb
      exact absurd hb (okC hf ht (by omega) (by omega) (by omega))
  refine s_isNumber (fun f hf ea => b1_e (s_isNumber (fun t ht ec => b1_e ?_) (fun h => b0_e (no (by unfold badC; omega))))) (fun h => b0_e (no (by unfold badC; omega)))
  refine ⟨fun h => no (by rw [Int32.lt_iff_toInt_lt, Int32.toInt_zero] at h; unfold badC; omega), fun p1 => ⟨fun h => no (by rw [Int32.lt_iff_toInt_lt, Int32.toInt_zero] at h; unfold badC; omega), fun p2 => ⟨fun p3 => ?_, fun h => no (by rw [Int32.le_iff_toInt_le, Int32.toInt_zero] at h; unfold badC; omega)⟩⟩⟩
  obtain ⟨p, hp, eb⟩ := nI_of p1
  obtain ⟨q, hq, ed⟩ := nI_of p2
  obtain ⟨m, hm, ee⟩ := nI_of (x := e) (by rw [Int32.lt_iff_toInt_lt, Int32.toInt_zero]; rw [Int32.le_iff_toInt_le, Int32.toInt_zero] at p3; omega)
  subst ea eb ec ed ee
  have ok := okC hf ht hp hq hm
  have ef := (hA.1 f hf).2.1
  have et := (hA.1 t ht).2.1
  have k2 : (N.1 2 f = -1 ∨ N.1 2 t = -1) → qX6_refuse 2 M (fun r M => zb r ∧ (fun r M => qX7_copy (nI f) (nI p) (nI t) (nI q) (nI m) N (fun r2 N => r = r2 ∧ Rel M N)) r M) := by
    intro hm2
    rintro _ rfl
    refine ⟨rfl, r_copy hn (fun hb => absurd hb ok) (fun f' t' _ _ _ _ _ _ => ⟨rfl, Rel.no hA 2⟩) (fun f' t' n n2 p' q' m' hf' ht' ea ec h1 h2 e1 e2 _ _ _ _ _ _ _ => ?_) (fun f' t' n n2 p' q' m' hf' ht' ea ec h1 h2 e1 e2 _ _ _ _ _ => ?_)⟩
    all_goals
      rw [nI_eq (by omega) (by omega)] at ea ec
      subst ea ec
      rw [e1, e2] at hm2
      rcases hm2 with x | x
      · exact absurd x (nI_nm1 (by omega))
      · exact absurd x (nI_nm1 (by omega))
  have k3 : ∀ n n2, n ≤ 64 → n2 ≤ 64 → N.1 2 f = nI n → N.1 2 t = nI n2 → (n < p + m ∨ n2 < q + m) → qX6_refuse 3 M (fun r M => zb r ∧ (fun r M => qX7_copy (nI f) (nI p) (nI t) (nI q) (nI m) N (fun r2 N => r = r2 ∧ Rel M N)) r M) := by
    intro n n2 g1 g2 g3 g4 g5
    rintro _ rfl
    refine ⟨rfl, r_copy hn (fun hb => absurd hb ok) (fun f' t' _ _ ea ec _ hm2 => ?_) (fun f' t' n n2 p' q' m' hf' ht' ea ec h1 h2 e1 e2 _ _ _ _ _ _ _ => ⟨rfl, Rel.no hA 3⟩) (fun f' t' n' n2' p' q' m' hf' ht' ea ec h1 h2 e1 e2 h3 h4 eb ed ee => ?_)⟩
    · rw [nI_eq (by omega) (by omega)] at ea ec
      subst ea ec
      rw [g3, g4] at hm2
      rcases hm2 with x | x
      · exact absurd x (nI_nm1 (by omega))
      · exact absurd x (nI_nm1 (by omega))
    · rw [nI_eq (by omega) (by omega)] at ea ec eb ed ee
      subst ea ec eb ed ee
      rw [g3, nI_eq (by omega) (by omega)] at e1
      rw [g4, nI_eq (by omega) (by omega)] at e2
      omega
  refine s_isMissing hc hf (fun he => b1_n (k2 (Or.inl (by rw [← ef]; exact he)))) (fun n hn1 e1 => b0_n (s_isMissing hc ht (fun he => b1_e (k2 (Or.inr (by rw [← et]; exact he)))) (fun n2 hn2 e2 => b0_e ?_)))
  have e1' : N.1 2 f = nI n := by rw [← ef]; exact e1
  have e2' : N.1 2 t = nI n2 := by rw [← et]; exact e2
  refine s_spans hf hp hm hn1 e1 (fun g1 => b1_e (s_spans ht hq hm hn2 e2 (fun g2 => b1_n ?_) (fun g2 => b0_n (k3 n n2 hn1 hn2 e1' e2' (Or.inr g2))))) (fun g1 => b0_e (k3 n n2 hn1 hn2 e1' e2' (Or.inl g1)))
  refine s_carry hf ht g1 g2 hn1 hn2 ?_
  rintro _ rfl
  refine ⟨rfl, r_copy hn (fun hb => absurd hb ok) (fun f' t' _ _ ea ec _ hm2 => ?_) (fun f' t' n' n2' p' q' m' hf' ht' ea ec h1 h2 h3 h4 _ _ _ eb ed ee hx => ?_) (fun f' t' n' n2' p' q' m' hf' ht' ea ec h1 h2 h3 h4 h5 h6 eb ed ee => ⟨rfl, st_eq, A, ?_⟩)⟩
  · rw [nI_eq (by omega) (by omega)] at ea ec
    subst ea ec
    rw [e1', e2'] at hm2
    rcases hm2 with x | x
    · exact absurd x (nI_nm1 (by omega))
    · exact absurd x (nI_nm1 (by omega))
  · rw [nI_eq (by omega) (by omega)] at ea ec eb ed ee
    subst ea ec eb ed ee
    rw [e1', nI_eq (by omega) (by omega)] at h3
    rw [e2', nI_eq (by omega) (by omega)] at h4
    omega
  · rw [nI_eq (by omega) (by omega)] at ea ec eb ed ee
    subst ea ec eb ed ee
    refine hA.sh (hA.1.cpy hf ht g1 g2 hn1 hn2 e1' (by rw [sA_1 9 (by decide)]; rfl) (by rw [sA_1 10 (by decide)]; rfl) (by rw [sA_1 1 (by decide)]; rfl) (by rw [sA_1 2 (by decide)]; rfl) rfl rfl) (fun k h1 h2 h3 => by rw [sA_1 k h1]; rfl) (fun k h1 h2 h3 => by rw [sA_1 k h1]; rfl) (fun i hi => by rw [sA_g, if_neg (by omega)]; rfl)

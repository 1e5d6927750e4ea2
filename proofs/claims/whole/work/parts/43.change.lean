/-! WHAT STAYS WHEN SOMETHING CHANGES -/
def sR (A : Abs) (r k v : Nat) : Abs := fun i j => if i = r ∧ j = k then v else A i j
theorem sR_g {A : Abs} {r k v : Nat} (i j : Nat) : sR A r k v i j = if i = r ∧ j = k then v else A i j := rfl
theorem sR_r {A : Abs} {r k v : Nat} (i : Nat) (h : i ≠ r) : sR A r k v i = A i := funext fun j => if_neg (fun e => h e.1)
theorem sR_o {A : Abs} {r k v : Nat} (i j : Nat) (h : ¬ (i = r ∧ j = k)) : sR A r k v i j = A i j := if_neg h
theorem sR_t {A : Abs} {r k v : Nat} : sR A r k v r k = v := if_pos ⟨rfl, rfl⟩
/-- the batches are the same -/
def PE (A A' : Abs) : Prop := A' 0 2 = A 0 2 ∧ A' 8 = A 8 ∧ A' 9 = A 9 ∧ A' 10 = A 10 ∧ A' 11 = A 11
theorem inW_c {A A' : Abs} (h : PE A A') : inW A' = inW A := by
  funext b h1
  unfold inW
  rw [h.1, h.2.2.1, h.2.2.2.1]
theorem feas_c {A A' : Abs} (h : PE A A') : feas A' = feas A := by
  funext lf x
  unfold feas
  rw [inW_c h, h.1, h.2.1, h.2.2.2.2]
theorem wkA_c {A A' : Abs} (h : PE A A') : wkA A' = wkA A := by
  unfold wkA
  rw [h.1, h.2.1]
theorem full_c {A A' : Abs} (h : PE A A') : full A' = full A := by
  funext lf x
  unfold full
  rw [feas_c h, h.1, h.2.1]
theorem laidA_c {A A' : Abs} (h : PE A A') : laidA A' = laidA A := by
  funext lf
  unfold laidA
  rw [feas_c h, wkA_c h]
theorem planK_c {A A' : Abs} (h : PE A A') (lf : Nat → Nat) : ∀ k, planK A' lf k = planK A lf k
  | 0 => rfl
  | k + 1 => by
    funext j
    show (if j = k then gs (fun v => ∃ x, full A' lf x ∧ (∀ i, i < k → x (i / 24) (i % 24) = planK A' lf k i) ∧ x (k / 24) (k % 24) = v) 1000 else planK A' lf k j) = _
    rw [planK_c h lf k, full_c h]
    rfl
theorem PC0.fr {A A' : Abs} {M M' : Mem} (h : PC0 A M) (e : PE A A') (r0 : M'.1 21 0 = M.1 21 0) (r : ∀ k, 22 ≤ k → k ≤ 35 → M'.1 k = M.1 k) : PC0 A' M' := by
  unfold PC0
  rw [r0, r 35 (by decide) (by decide), r 31 (by decide) (by decide), r 32 (by decide) (by decide), r 33 (by decide) (by decide), r 34 (by decide) (by decide), e.1, e.2.1, e.2.2.1, e.2.2.2.1, e.2.2.2.2]
  exact h
theorem PZ.fr {A A' : Abs} {M M' : Mem} (h : PZ A M) (e : PE A A') (r : ∀ k, 22 ≤ k → k ≤ 35 → M'.1 k = M.1 k) : PZ A' M' := by
  intro b k hb hk hn
  rw [r (23 + b) (by omega) (by omega)]
  rw [inW_c e] at hn
  exact h b k hb hk hn
theorem PF.fr {A A' : Abs} {M M' : Mem} (hR : PR A) (h : PF A M) (e : PE A A') (hm : A 0 0 ≤ A' 0 0) (hl : ∀ w, w < 2 ^ A 0 0 → lfA A' w = lfA A w) (r : ∀ k, 21 ≤ k → k ≤ 35 → M'.1 k = M.1 k) : PF A' M' := by
  unfold PF
  rw [r 21 (by decide) (by decide)]
  rcases h with h | ⟨w, h1, h2, h3, h4⟩
  · exact Or.inl h
  · refine Or.inr ⟨w, Nat.lt_of_lt_of_le h1 (Nat.pow_le_pow_right (by decide) hm), h2, ?_, fun h5 b k hbk => ?_⟩
    · unfold restA
      rw [wkA_c e, laidA_c e, hl w h1]
      exact h3
    · rw [inW_c e] at hbk
      have hb8 := hR.1
      have := hbk.1
      rw [r (23 + b) (by omega) (by omega)]
      unfold planA
      rw [hl w h1, planK_c e]
      refine h4 ?_ b k hbk
      unfold restA at h5
      rw [wkA_c e, laidA_c e, hl w h1] at h5
      exact h5
theorem PR.fr {A A' : Abs} (h : PR A) (e : PE A A') : PR A' := by
  unfold PR
  rw [e.1, e.2.1, e.2.2.1, e.2.2.2.1, e.2.2.2.2]
  exact h
theorem PN.fr {A A' : Abs} {N N' : Mem} (h : PN A N) (e : PE A A') (r0 : N'.1 0 6 = N.1 0 6) (r : ∀ k, 14 ≤ k → k ≤ 17 → N'.1 k = N.1 k) : PN A' N' := by
  unfold PN
  rw [r0, r 14 (by decide) (by decide), r 15 (by decide) (by decide), r 16 (by decide) (by decide), r 17 (by decide) (by decide), e.1, e.2.1, e.2.2.1, e.2.2.2.1, e.2.2.2.2]
  exact h
/-- what is to buy is the same -/
def KE (A A' : Abs) : Prop := A' 0 3 = A 0 3 ∧ A' 0 4 = A 0 4 ∧ ∀ r, 12 ≤ r → A' r = A r
theorem takesA_c {A A' : Abs} (h : KE A A') (t m : Nat) : takesA A' t m = takesA A t m := by
  unfold takesA
  rw [h.2.2 (16 + t) (by omega), h.2.2 14 (by decide), h.2.2 15 (by decide)]
theorem lstE_c {A A' : Abs} (h : KE A A') (base : Nat → Nat) (m t : Nat) : ∀ f s, lstE A' base m t f s = lstE A base m t f s
  | 0, _ => rfl
  | f + 1, s => by
    show (if t < A' 0 3 ∧ A' 14 t ≤ m ∧ s < 500 then (let more := lstE A' base m t f (min 500 (s + A' 13 t)); if more < NEV then min (base s) (more + takesA A' t m) else base s) else base s) = _
    rw [h.1, h.2.2 14 (by decide), h.2.2 13 (by decide), takesA_c h, lstE_c h base m t f]
    rfl
theorem lstT_c {A A' : Abs} (h : KE A A') (next : Nat → Nat) (m : Nat) : ∀ c, lstT A' next m c = lstT A next m c
  | 0 => by
    funext s
    show (if A' 12 m ≤ s then next s else NEV) = _
    rw [h.2.2 12 (by decide)]
    rfl
  | c + 1 => by
    funext s
    show lstE A' (lstT A' next m c) m (3 - c) (501 - s) s = _
    rw [lstT_c h next m c, lstE_c h]
    rfl
theorem lstM_c {A A' : Abs} (h : KE A A') : ∀ d, lstM A' d = lstM A d
  | 0 => rfl
  | d + 1 => by
    funext s
    show lstT A' (lstM A' d) (11 - d) 4 s = _
    rw [lstM_c h d, lstT_c h]
    rfl
theorem lst_c {A A' : Abs} (h : KE A A') : lst A' = lst A := by
  funext m t s
  unfold lst
  rw [lstM_c h, lstT_c h]
theorem manyA_c {A A' : Abs} (h : KE A A') (m t : Nat) : ∀ f s, manyA A' m t f s = manyA A m t f s
  | 0, _ => rfl
  | f + 1, s => by
    show (if lst A' m t s < (if t < 3 then lst A' m (t + 1) s else if A' 12 m ≤ s then lst A' (m + 1) 0 s else NEV) then ((manyA A' m t f (min 500 (s + A' 13 t))).1 + 1, (manyA A' m t f (min 500 (s + A' 13 t))).2) else (0, s)) = _
    rw [lst_c h, h.2.2 12 (by decide), h.2.2 13 (by decide), manyA_c h m t f]
    rfl
theorem thereA_c {A A' : Abs} (h : KE A A') : ∀ k, thereA A' k = thereA A k
  | 0 => h.2.1
  | k + 1 => by
    show (manyA A' (k / 4) (k % 4) 501 (thereA A' k)).2 = _
    rw [thereA_c h k, manyA_c h]
    rfl
theorem buysA_c {A A' : Abs} (h : KE A A') (m t : Nat) : buysA A' m t = buysA A m t := by
  unfold buysA
  rw [thereA_c h, manyA_c h]
theorem KR.fr {A A' : Abs} (h : KR A) (e : KE A A') : KR A' := by
  unfold KR
  rw [e.1, e.2.1, e.2.2 12 (by decide), e.2.2 13 (by decide), e.2.2 14 (by decide), e.2.2 15 (by decide)]
  refine ⟨h.1, h.2.1, h.2.2.1, fun t ht => ?_⟩
  rw [e.2.2 (16 + t) (by omega)]
  exact h.2.2.2 t ht
theorem KC.fr {A A' : Abs} {M M' : Mem} (h : KC A M) (e : KE A A') (r : ∀ k, 75 ≤ k → M'.1 k = M.1 k) : KC A' M' := by
  obtain ⟨⟨a, b, c, d⟩, hf⟩ := h
  refine ⟨?_, ?_⟩
  · unfold KC0
    rw [r 75 (by decide), r 89 (by decide), r 90 (by decide), r 91 (by decide), r 92 (by decide), e.1, e.2.1, e.2.2 12 (by decide), e.2.2 13 (by decide), e.2.2 14 (by decide), e.2.2 15 (by decide)]
    refine ⟨a, b, c, fun t ht => ?_⟩
    rw [r (94 + t) (by omega), e.2.2 (16 + t) (by omega)]
    exact d t ht
  · unfold KF
    rw [r 75 (by decide), lst_c e, e.2.1, e.1]
    rcases hf with hf | ⟨h1, h2, h3⟩
    · exact Or.inl hf
    · refine Or.inr ⟨h1, h2, fun h4 m t hm ht => ?_⟩
      rw [r (77 + m) (by omega), buysA_c e]
      exact h3 h4 m t hm ht
theorem KN.fr {A A' : Abs} {N N' : Mem} (h : KN A N) (e : KE A A') (r0 : N'.1 0 7 = N.1 0 7) (r1 : N'.1 0 40 = N.1 0 40) (r : ∀ k, 26 ≤ k → k ≤ 30 → N'.1 k = N.1 k) : KN A' N' := by
  obtain ⟨a, b, c, d⟩ := h
  unfold KN
  rw [r0, r1, r 26 (by decide) (by decide), r 27 (by decide) (by decide), r 28 (by decide) (by decide), r 29 (by decide) (by decide), r 30 (by decide) (by decide), e.1, e.2.1, e.2.2 12 (by decide), e.2.2 13 (by decide), e.2.2 14 (by decide), e.2.2 15 (by decide)]
  refine ⟨a, b, c, fun t ht => ?_⟩
  rw [e.2.2 (16 + t) (by omega)]
  exact d t ht
theorem RS.fr {M M' N N' : Mem} (h : RS M N) (a : M'.2 = M.2) (b : M'.1 9 = M.1 9) (c : M'.1 10 = M.1 10) (d : N'.2 = N.2) (e : N'.1 1 = N.1 1) (f : N'.1 2 = N.1 2) : RS M' N' := by
  unfold RS
  rw [a, b, c, d, e, f]
  exact h
theorem Lt_congr {st st' : Nat → Bool} {ok ok' : Nat → Nat → Prop} {j s : Nat} {v : Int32} (h : Lt st ok j s v) (e : ∀ i, can st ok i s ↔ can st' ok' i s) : Lt st' ok' j s v := by
  rcases h with ⟨h1, h2⟩ | h | ⟨h1, i, hi, h2, h3, h4⟩
  · exact Or.inl ⟨fun hc => h1 ((e _).mpr hc), h2⟩
  · exact Or.inr (Or.inl h)
  · exact Or.inr (Or.inr ⟨h1, i, hi, fun hc => h2 ((e _).mpr hc), (e _).mp h3, h4⟩)
/-! A MACHINE COMES -/
theorem r_machine {a b : Int32} {N : Mem} {n : Nat} {post : Int32 → Mem → Prop} (hn : N.1 0 4 = nI n) (h12 : n ≤ 12) (h0 : (a.toInt < 1 ∨ 100 < a.toInt ∨ b.toInt < 0 ∨ 3 < b.toInt) → post (-1) (sA N 0 0 1)) (h4 : n = 12 → 1 ≤ a.toInt → a.toInt ≤ 100 → 0 ≤ b.toInt → b.toInt ≤ 3 → post (-1) (sA N 0 0 4))
    (h1 : n < 12 → 1 ≤ a.toInt → a.toInt ≤ 100 → 0 ≤ b.toInt → b.toInt ≤ 3 → post (nI n) (sA (sA (sA (sA (sA N 4 n a) 5 n b) 6 n 1) 0 4 (nI (n + 1))) 0 0 0)) : qX7_machine a b N post := by
  unfold qX7_machine
  rw [hn]
  simp only [Int32.lt_iff_toInt_lt, Int32.le_iff_toInt_le, show (1 : Int32).toInt = 1 from rfl, show (100 : Int32).toInt = 100 from rfl, show (0 : Int32).toInt = 0 from rfl, show (3 : Int32).toInt = 3 from rfl]
  refine ⟨fun h => ?_, fun p1 => ⟨fun h => ?_, fun p2 => ⟨fun h => ?_, fun p3 => ⟨fun p4 => ⟨fun h => ?_, fun h => ?_⟩, fun h => ?_⟩⟩⟩⟩
  · rintro _ rfl; exact h0 (Or.inl h)
  · rintro _ rfl; exact h0 (Or.inr (Or.inl h))
  · rintro _ rfl; exact h0 (Or.inr (Or.inr (Or.inl h)))
  · have hlt : n < 12 := by
      rcases Nat.lt_or_ge n 12 with e | e
      · exact e
      · have e2 : n = 12 := by omega
        subst e2; exact absurd rfl h
    refine ⟨vp_in_nI (by omega) (by omega), ?_⟩
    rintro _ rfl
    rw [nI_clamp (by omega)]
    have g1 : (sA N 4 n a).1 0 4 = nI n := hn
    have g2 : (sA (sA N 4 n a) 5 n b).1 0 4 = nI n := hn
    have g3 : (sA (sA (sA N 4 n a) 5 n b) 6 n 1).1 0 4 = nI n := hn
    rw [g1]
    refine ⟨vp_in_nI (by omega) (by omega), ?_⟩
    rintro _ rfl
    rw [nI_clamp (by omega), g2]
    refine ⟨vp_in_nI (by omega) (by omega), ?_⟩
    rintro _ rfl _ rfl _ rfl
    rw [nI_clamp (by omega), nar1, g3, show (1 : Int32) = nI 1 from rfl, nI_add]
    have g4 : (sA (sA (sA (sA (sA N 4 n a) 5 n b) 6 n (nI 1)) 0 4 (nI (n + 1))) 0 0 0).1 0 4 = nI (n + 1) := rfl
    rw [g4, pk_sub (by omega)]
    exact h1 hlt (by omega) (by omega) (by omega) p4
  · rintro _ rfl
    refine h4 ?_ (by omega) (by omega) (by omega) p4
    have h' : nI n = nI 12 := h
    rwa [nI_eq (by omega) (by omega)] at h'
  · rintro _ rfl; exact h0 (Or.inr (Or.inr (Or.inr (by omega))))
def maA (A : Abs) (s r : Nat) : Abs := sR (sR (sR (sR A 1 (A 0 0) s) 2 (A 0 0) r) 3 (A 0 0) 1) 0 0 (A 0 0 + 1)
theorem maA_up {A : Abs} {s r : Nat} : upA (maA A s r) = upA A ||| 2 ^ A 0 0 := by
  show mk (fun k => decide (maA A s r 3 k = 1)) (A 0 0) ||| (if decide (maA A s r 3 (A 0 0) = 1) = true then 2 ^ A 0 0 else 0) = _
  have e : maA A s r 3 (A 0 0) = 1 := by
    show (if (3 : Nat) = 3 ∧ A 0 0 = A 0 0 then 1 else A 3 (A 0 0)) = 1
    exact if_pos ⟨rfl, rfl⟩
  rw [e, if_pos (by decide)]
  congr 1
  apply mk_congr
  intro k hk
  have e2 : maA A s r 3 k = A 3 k := by
    show (if (3 : Nat) = 3 ∧ k = A 0 0 then 1 else A 3 k) = _
    rw [if_neg (by omega)]
  rw [e2]
theorem maA_2 {A : Abs} {s r : Nat} (k : Nat) : maA A s r 2 k = if k = A 0 0 then r else A 2 k := by
  show (if (2 : Nat) = 2 ∧ k = A 0 0 then r else A 2 k) = _
  by_cases e : k = A 0 0
  · rw [if_pos ⟨rfl, e⟩, if_pos e]
  · rw [if_neg (by omega), if_neg e]
theorem maA_1 {A : Abs} {s r : Nat} (k : Nat) : maA A s r 1 k = if k = A 0 0 then s else A 1 k := by
  show (if (1 : Nat) = 1 ∧ k = A 0 0 then s else A 1 k) = _
  by_cases e : k = A 0 0
  · rw [if_pos ⟨rfl, e⟩, if_pos e]
  · rw [if_neg (by omega), if_neg e]
theorem maA_3 {A : Abs} {s r : Nat} (k : Nat) : maA A s r 3 k = if k = A 0 0 then 1 else A 3 k := by
  show (if (3 : Nat) = 3 ∧ k = A 0 0 then 1 else A 3 k) = _
  by_cases e : k = A 0 0
  · rw [if_pos ⟨rfl, e⟩, if_pos e]
  · rw [if_neg (by omega), if_neg e]
theorem maA_ro {A : Abs} {s r : Nat} (q : Nat) : roA (maA A s r) q = if q = r then roA A q ||| 2 ^ A 0 0 else roA A q := by
  show mk (fun k => decide (maA A s r 2 k = q)) (A 0 0) ||| (if decide (maA A s r 2 (A 0 0) = q) = true then 2 ^ A 0 0 else 0) = _
  have e1 : mk (fun k => decide (maA A s r 2 k = q)) (A 0 0) = roA A q := by
    apply mk_congr
    intro k hk
    rw [maA_2, if_neg (by omega)]
  rw [e1, maA_2, if_pos rfl]
  by_cases e : q = r
  · subst e
    rw [if_pos rfl, if_pos (by simp)]
  · rw [if_neg e, if_neg (by simp; omega), Nat.or_zero]
theorem maA_so {A : Abs} {s r : Nat} : soA (maA A s r) = soA A := rfl
theorem maA_ld {A : Abs} {s r : Nat} : ldA (maA A s r) = ldA A := rfl
theorem maA_cl {A : Abs} {s r : Nat} : clA (maA A s r) = clA A := rfl
theorem maA_can {A : Abs} {s r w : Nat} (hw : w < 2 ^ A 0 0) (j x : Nat) : can (wSt w) (okA A) j x ↔ can (wSt w) (okA (maA A s r)) j x := by
  refine can_congr (fun _ _ _ => rfl) (fun k t _ _ hk _ => ?_)
  have := wSt_lt hw hk
  unfold okA okP
  rw [maA_1, if_neg (by omega)]
  exact Iff.rfl
theorem maA_lf {A : Abs} {s r w : Nat} (hw : w < 2 ^ A 0 0) : lfA (maA A s r) w = lfA A w := by
  funext h
  unfold lfA
  have e1 : canA (maA A s r) w 12 (soA (maA A s r) h) ↔ canA A w 12 (soA A h) := (maA_can hw 12 (soA A h)).symm
  rw [cI_iff e1]
  have e2 : sumB (maA A s r 1) w (maA A s r 0 0) = sumB (A 1) w (A 0 0) := by
    show sumB (maA A s r 1) w (A 0 0) + (if w.testBit (A 0 0) = true then _ else 0) = _
    rw [bit_lt hw (Nat.le_refl _), if_neg (by decide), Nat.add_zero]
    exact sumB_congr (s := w) (t := w) _ (fun k hk => by rw [maA_1, if_neg (by omega)]) (fun _ _ => rfl)
  rw [e2]
  rfl
theorem maA_PE {A : Abs} {s r : Nat} : PE A (maA A s r) := ⟨rfl, rfl, rfl, rfl, rfl⟩
theorem maA_KE {A : Abs} {s r : Nat} : KE A (maA A s r) := ⟨rfl, rfl, fun q hq => by
  show sR (sR (sR (sR A 1 (A 0 0) s) 2 (A 0 0) r) 3 (A 0 0) 1) 0 0 (A 0 0 + 1) q = _
  rw [sR_r q (by omega), sR_r q (by omega), sR_r q (by omega), sR_r q (by omega)]⟩
theorem hk_machine (M N : Mem) (h : Rel M N) (a b : Int32) : qX6_machine a b M (fun r M => qX7_machine a b N (fun r2 N => r = r2 ∧ Rel M N)) := by
  obtain ⟨_, A, hA⟩ := h
  have hR := hA.2.1
  have hC := hA.2.2.1
  have hN := hA.2.2.2.1
  have hn12 := hR.1
  have c1 : (1 : Int32).toInt = 1 := rfl
  have c100 : (100 : Int32).toInt = 100 := rfl
  have c0 : (0 : Int32).toInt = 0 := rfl
  have c3 : (3 : Int32).toInt = 3 := rfl
  unfold qX6_machine
  refine s_withinI (fun p q => ?_) (fun hx => ?_)
  · rw [c1] at p
    rw [c100] at q
    refine b1_e (s_withinI (fun p2 q2 => b1_n ?_) (fun hx => b0_n ?_))
    · rw [c0] at p2
      rw [c3] at q2
      rw [hC.1.1]
      refine ⟨fun hne => ?_, fun hfull => ?_⟩
      · have hlt : A 0 0 < 12 := by
          rcases Nat.lt_or_ge (A 0 0) 12 with e | e
          · exact e
          · have e2 : A 0 0 = 12 := by omega
            rw [e2] at hne; exact absurd rfl hne
        obtain ⟨s, hs, _, ea⟩ := nat_of (a := a) (n := 100) (by omega) q
        obtain ⟨r, hr, _, eb⟩ := nat_of (a := b) (n := 3) p2 q2
        subst ea eb
        rw [nI_toInt (by omega)] at p q p2 q2
        rintro _ rfl _ rfl
        rw [hC.1.1, nI_clamp (show A 0 0 < 2 ^ 31 by omega), nI_clamp (show r < 2 ^ 31 by omega), bx_shl (show A 0 0 < 31 by omega)]
        refine ⟨vp_in_nI hlt (by omega), ?_⟩
        rintro _ rfl
        refine ⟨vp_in_nI (by omega) (by omega), vp_in_nI (by omega) (by omega), ?_⟩
        have g13 : (sA (sA M 11 0 (nI (A 0 0) + 1)) 12 (A 0 0) (nI s)).1 13 r = nI (roA A r) := hC.1.2.2.2.2.1 r (by omega)
        rintro _ rfl
        rw [g13, bx_or]
        have g11 : (sA (sA (sA M 11 0 (nI (A 0 0) + 1)) 12 (A 0 0) (nI s)) 13 r (nI (roA A r ||| 2 ^ A 0 0))).1 11 4 = nI (upA A) := hC.1.2.2.1
        rintro _ rfl
        rw [g11, bx_or, nI_1]
        rintro _ rfl
        refine r_machine hN.1 hn12 (fun h => ?_) (fun h => by omega) (fun _ _ _ _ _ => ⟨rfl, ?_⟩)
        · rw [nI_toInt (by omega), nI_toInt (by omega)] at h
          omega
        refine ⟨st_eq, maA A s r, ?_⟩
        obtain ⟨hRS, _, _, _, hPR, hPC, hPN, ⟨hFS, hKR⟩, hKC, hKN⟩ := hA
        obtain ⟨⟨k1, k2, k3, k4, k5, k6, k7, k8, k9⟩, hT, hL⟩ := hC
        refine ⟨hRS, ⟨by show A 0 0 + 1 ≤ 12; omega, hR.2.1, fun k hk => ?_, hR.2.2.2⟩, ⟨⟨rfl, k2, ?_, fun k hk => ?_, fun q hq => ?_, k6, k7, k8, k9⟩, hT, ?_⟩, ⟨rfl, hN.2.1, fun k hk => ?_, hN.2.2.2⟩, hPR, ⟨hPC.1, hPC.2.1.fr maA_PE (fun k h1 h2 => by rw [sA_1 k (by omega), sA_1 k (by omega), sA_1 k (by omega), sA_1 k (by omega), sA_1 k (by omega)]), ?_⟩, hPN, ⟨hFS, hKR.fr maA_KE⟩, hKC.fr maA_KE (fun k hk => ?_), hKN.fr maA_KE rfl rfl (fun k _ _ => ?_)⟩
        · have hk' : k < A 0 0 + 1 := hk
          rw [maA_1, maA_2, maA_3]
          by_cases e : k = A 0 0
          · rw [if_pos e, if_pos e, if_pos e]
            omega
          · rw [if_neg e, if_neg e, if_neg e]
            exact hR.2.2.1 k (by omega)
        · show nI (upA A ||| 2 ^ A 0 0) = _
          rw [maA_up]
        · have hk' : k < A 0 0 + 1 := hk
          rw [maA_1]
          rw [sA_1 12 (by decide), sA_1 12 (by decide), sA_1 12 (by decide), sA_g, sA_1 12 (by decide)]
          by_cases e : k = A 0 0
          · rw [if_pos ⟨rfl, e⟩, if_pos e]
          · rw [if_neg (by omega), if_neg e]
            exact k4 k (by omega)
        · rw [maA_ro]
          rw [sA_1 13 (by decide), sA_1 13 (by decide), sA_g, sA_1 13 (by decide), sA_1 13 (by decide)]
          by_cases e : q = r
          · subst e
            rw [if_pos ⟨rfl, rfl⟩, if_pos rfl]
          · rw [if_neg (by omega), if_neg e]
            exact k5 q hq
        · rcases hL with hL | ⟨w, h1, h2, h3⟩
          · exact Or.inl hL
          · refine Or.inr ⟨w, ?_, h2, fun x hx hx2 => Lt_congr (h3 x hx hx2) (fun i => maA_can h1 i x)⟩
            show w < 2 ^ (A 0 0 + 1)
            omega
        · have hk' : k < A 0 0 + 1 := hk
          rw [maA_1, maA_2, maA_3]
          rw [sA_1 4 (by decide), sA_1 4 (by decide), sA_1 4 (by decide), sA_1 4 (by decide), sA_g]
          rw [sA_1 5 (by decide), sA_1 5 (by decide), sA_1 5 (by decide), sA_g, sA_1 5 (by decide)]
          rw [sA_1 6 (by decide), sA_1 6 (by decide), sA_g, sA_1 6 (by decide), sA_1 6 (by decide)]
          by_cases e : k = A 0 0
          · exact ⟨by rw [if_pos ⟨rfl, e⟩, if_pos e], by rw [if_pos ⟨rfl, e⟩, if_pos e], by rw [if_pos ⟨rfl, e⟩, if_pos e]; rfl⟩
          · obtain ⟨n1, n2, n3⟩ := hN.2.2.1 k (by omega)
            exact ⟨by rw [if_neg (fun c => e c.2), if_neg e]; exact n1, by rw [if_neg (fun c => e c.2), if_neg e]; exact n2, by rw [if_neg (fun c => e c.2), if_neg e]; exact n3⟩
        · exact PF.fr hPR hPC.2.2 maA_PE (by show A 0 0 ≤ A 0 0 + 1; omega) (fun w hw => maA_lf hw) (fun k h1 h2 => by rw [sA_1 k (by omega), sA_1 k (by omega), sA_1 k (by omega), sA_1 k (by omega), sA_1 k (by omega)])
        · rw [sA_1 k (by omega), sA_1 k (by omega), sA_1 k (by omega), sA_1 k (by omega), sA_1 k (by omega)]
        · rw [sA_1 k (by omega), sA_1 k (by omega), sA_1 k (by omega), sA_1 k (by omega), sA_1 k (by omega)]
      · rintro _ rfl
        have e12 : A 0 0 = 12 := by
          have h' : nI (A 0 0) = nI 12 := hfull
          rwa [nI_eq (by omega) (by omega)] at h'
        refine r_machine hN.1 hn12 (fun h => by omega) (fun _ _ _ _ _ => ⟨rfl, Rel.no hA 4⟩) (fun h => by omega)
    · rw [c0, c3] at hx
      rintro _ rfl
      refine r_machine hN.1 hn12 (fun _ => ⟨rfl, Rel.no hA 1⟩) (fun _ _ _ _ _ => by omega) (fun _ _ _ _ _ => by omega)
  · rw [c1, c100] at hx
    refine b0_e ?_
    rintro _ rfl
    refine r_machine hN.1 hn12 (fun _ => ⟨rfl, Rel.no hA 1⟩) (fun _ _ _ _ _ => by omega) (fun _ _ _ _ _ => by omega)

/-! BUYING: cheapest and buys, both sides -/
theorem RelA.ms {A : Abs} {M N M' N' : Mem} (h : RelA A M N) (r2 : ∀ k, k < 9 → M'.2 k = M.2 k) (r : ∀ k, k ≠ 0 → k < 75 → M'.1 k = M.1 k) (hKC : KC A M') (f : NE N N') : RelA A M' N' := by
  obtain ⟨h1, h2, h3, h4, h5, h6, h7, h8, _, h10⟩ := h
  refine ⟨fun s hs => ?_, h2, h3.sh (fun k _ _ => r k (by omega) (by omega)), h4.ne f, h5, ⟨h6.1.fr (PE.rf A) (by rw [r 21 (by decide) (by decide)]) (fun k _ _ => r k (by omega) (by omega)), h6.2.1.fr (PE.rf A) (fun k _ _ => r k (by omega) (by omega)), h6.2.2.fr h5 (PE.rf A) (Nat.le_refl _) (fun _ _ => rfl) (fun k _ _ => r k (by omega) (by omega))⟩, h7.ne f, h8, hKC, h10.ne f⟩
  rw [r 9 (by decide) (by decide), r 10 (by decide) (by decide), f.2.2 1 (by decide) (by decide) (by decide) (by decide), f.2.2 2 (by decide) (by decide) (by decide) (by decide), f.1, r2 (3 + s) (by omega)]
  exact h1 s hs
theorem KS.kf {A : Abs} {M : Mem} (h : KS A M) : KF A M := Or.inr ⟨h.1, h.2.1, h.2.2⟩
theorem Rel.ms {A : Abs} {M N M' N' : Mem} (h : RelA A M N) (r2 : ∀ k, k < 9 → M'.2 k = M.2 k) (r : ∀ k, k < 75 → M'.1 k = M.1 k) (hC : KC0 A M') (hS : KS A M') (f : NE N N') (v : Int32) : Rel (sA M' 0 5 v) (sA N' 0 0 v) := by
  refine ⟨st_eq, A, h.ms (fun k hk => r2 k hk) (fun k h0 hk => ?_) ?_ (f.tr (NE.st _ _))⟩
  · rw [sA_1 k h0]
    exact r k hk
  · exact KC.fr ⟨hC, hS.kf⟩ (KE.rf A) (fun k hk => sA_1 k (by omega))
theorem hk_cheapest (M N : Mem) (h : Rel M N) : qX6_cheapest M (fun r M => qX7_cheapest N (fun r2 N => r = r2 ∧ Rel M N)) := by
  obtain ⟨_, A, hA⟩ := h
  have hKR := hA.2.2.2.2.2.2.2.1.2
  have hKC := hA.2.2.2.2.2.2.2.2.1
  have hKN := hA.2.2.2.2.2.2.2.2.2
  have b := lst_b hKR (show 0 ≤ 12 by omega) (show 0 ≤ 4 by omega) hKR.2.1
  refine s_solve hKR hKC (fun M' r2 r hC hS => s_isEnough hKR hS.2.1 (fun hlt => b1_e ?_) (fun hN => b0_e ?_))
  · rintro _ rfl
    refine r_cheapest hKR hKN (fun e => absurd e (by omega)) (fun _ N' hX => ⟨?_, Rel.ms hA r2 r hC hS hX.ne 0⟩)
    rw [hS.2.1]
    congr 1
    unfold cap NEV at *
    omega
  · rintro _ rfl
    exact r_cheapest hKR hKN (fun e N' hX => ⟨rfl, Rel.ms hA r2 r hC hS hX.ne 7⟩) (fun e => absurd hN e)
theorem hk_buys (M N : Mem) (h : Rel M N) (a b : Int32) : qX6_buys a b M (fun r M => qX7_buys a b N (fun r2 N => r = r2 ∧ Rel M N)) := by
  obtain ⟨_, A, hA⟩ := h
  have hKR := hA.2.2.2.2.2.2.2.1.2
  have hKC := hA.2.2.2.2.2.2.2.2.1
  have hKN := hA.2.2.2.2.2.2.2.2.2
  have h4 := hKR.1
  have k0 : (0 : Int32).toInt = 0 := rfl
  have k11 : (11 : Int32).toInt = 11 := rfl
  have no : (a.toInt < 0 ∨ 11 < a.toInt ∨ b.toInt < 0 ∨ (A 0 3 : Int) ≤ b.toInt) → qX6_deny 1 M (fun r M => (fun r M => qX7_buys a b N (fun r2 N => r = r2 ∧ Rel M N)) r M) := by
    intro hb
    rintro _ rfl
    exact r_buysB hKR hKN hb ⟨rfl, Rel.no hA 1⟩
  unfold qX6_buys qX6_isMonth
  refine s_withinI (fun p q => ⟨rfl, b1_e ?_⟩) (fun hx => ⟨rfl, b0_e (no (by rw [k0, k11] at hx; omega))⟩)
  unfold qX2_hasType
  rw [hKC.1.1]
  refine s_below (by omega) (fun t ht eb => b1_n ?_) (fun hx => b0_n (no (by omega)))
  rw [k0] at p
  rw [k11] at q
  obtain ⟨m, hm, _, ea⟩ := nat_of (a := a) (n := 11) p q
  subst ea eb
  refine s_solve hKR hKC (fun M' r2 r hC hS => s_isEnough hKR hS.2.1 (fun hlt => b1_e ?_) (fun hN => b0_e ?_))
  · rw [nI_clamp (show m < 2 ^ 31 by omega), nI_clamp (show t < 2 ^ 31 by omega)]
    refine ⟨vp_in_nI (by omega) (by omega), vp_in_nI (by omega) (by omega), ?_⟩
    rintro _ rfl
    refine r_buysG hKR hKN (by omega) ht (fun e => absurd e (by omega)) (fun _ N' hX => ⟨?_, Rel.ms hA r2 r hC hS hX.ne 0⟩)
    exact hS.2.2 hlt m t (by omega) ht
  · rintro _ rfl
    exact r_buysG hKR hKN (by omega) ht (fun e N' hX => ⟨rfl, Rel.ms hA r2 r hC hS hX.ne 7⟩) (fun e => absurd hN e)

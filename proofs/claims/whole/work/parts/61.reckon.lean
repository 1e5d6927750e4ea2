/-! BUYING: the reference reckons -/
def lstI (A : Abs) (i : Nat) : Nat := lst A (i / 501 / 4) (i / 501 % 4) (i % 501)
theorem lstI_at {A : Abs} {m t s : Nat} (ht : t < 4) (hs : s ≤ 500) : lstI A (501 * (4 * m + t) + s) = lst A m t s := by
  unfold lstI
  rw [show (501 * (4 * m + t) + s) / 501 = 4 * m + t by omega, show (501 * (4 * m + t) + s) % 501 = s by omega, show (4 * m + t) / 4 = m by omega, show (4 * m + t) % 4 = t by omega]
/-- done from place i on -/
def dnL (A : Abs) (N : Mem) (i : Nat) : Prop := ∀ j, i ≤ j → j < 24549 → N.1 31 j = nI (lstI A j)
def KX (N N' : Mem) : Prop := N'.2 = N.2 ∧ ∀ k, k ≠ 31 → N'.1 k = N.1 k
theorem KX.rf (N : Mem) : KX N N := ⟨rfl, fun _ _ => rfl⟩
theorem KX.up {N N' : Mem} (h : KX N N') (j : Nat) (v : Int32) : KX N (sA N' 31 j v) := ⟨h.1, fun k hk => by rw [sA_1 k hk]; exact h.2 k hk⟩
theorem KX.kn {A : Abs} {N N' : Mem} (h : KX N N') (k : KN A N) : KN A N' := k.fr (KE.rf A) (by rw [h.2 0 (by decide)]) (by rw [h.2 0 (by decide)]) (fun q _ _ => h.2 q (by omega))
theorem KX.ne {N N' : Mem} (h : KX N N') : NE N N' := ⟨h.1, fun j _ _ => by rw [h.2 0 (by decide)], fun k _ _ _ hk => h.2 k hk⟩
theorem dnL.up {A : Abs} {N : Mem} {i : Nat} (h : dnL A N (i + 1)) {v : Int32} (hv : v = nI (lstI A i)) : dnL A (sA N 31 i v) i := by
  intro j h1 h2
  rw [sA_g]
  by_cases e : j = i
  · rw [if_pos ⟨rfl, e⟩, hv, e]
  · rw [if_neg (fun c => e c.2)]
    exact h j (by omega) h2
theorem at_ix {m t s : Nat} : (501 : Int32) * ((4 : Int32) * nI m + nI t) + nI s = nI (501 * (4 * m + t) + s) := by
  rw [show (4 : Int32) = nI 4 from rfl, show (501 : Int32) = nI 501 from rfl, pk_mul, nI_add, pk_mul, nI_add]
theorem r_at {m t s : Nat} {N : Mem} {post : Int32 → Mem → Prop} (h : post (nI (501 * (4 * m + t) + s)) N) : qX7_at (nI m) (nI t) (nI s) N post := by
  unfold qX7_at
  rw [at_ix]
  exact h
theorem dn_at {A : Abs} {N : Mem} {i m t s : Nat} (h : dnL A N i) (hm : m ≤ 12) (ht : t < 4) (h0 : m = 12 → t = 0) (hs : s ≤ 500) (hi : i ≤ 501 * (4 * m + t) + s) : N.1 31 (501 * (4 * m + t) + s) = nI (lst A m t s) := by
  rw [h _ hi (by omega), lstI_at ht hs]
theorem r_takes {A : Abs} (hK : KR A) {N : Mem} (hN : KN A N) {t m : Nat} (ht : t < A 0 3) (hl : A 14 t ≤ m) (hm : m < 12) {post : Int32 → Mem → Prop} (h : post (nI (takesA A t m)) N) : qX7_takes (nI t) (nI m) N post := by
  have h4 := hK.1
  obtain ⟨n1, n2, n3, n4⟩ := hN.2.2.2 t ht
  obtain ⟨k1, k2, k3, k4, k5⟩ := hK.2.2.2 t ht
  unfold qX7_takes
  rw [nI_clamp (show t < 2 ^ 31 by omega), n2, n3, show (12 : Int32) = nI 12 from rfl, pk_mul, nI_add, pk_sub (by omega), pk_sub (by omega), nI_clamp (show 12 * t + m - A 14 t < 2 ^ 31 by omega), show 12 * t + m - A 14 t = 12 * t + (m - A 14 t) by omega, n4 (m - A 14 t) (by omega), pk_mul, nI_add]
  exact ⟨vp_in_nI (by omega) (by omega), vp_in_nI (by omega) (by omega), vp_in_nI (by omega) (by omega), h⟩
theorem r_reckon {A : Abs} (hK : KR A) {N : Mem} (hN : KN A N) {post : Mem → Prop} (h : ∀ N', KX N N' → dnL A N' 0 → post N') : qX7_reckon N post := by
  intro R2 R31 R37 R45 R98 R174 h2 h31 h37 h45 h98 h174
  have h4 := hK.1
  -- one place
  have put : ∀ m t s N', m < 12 → t < 4 → s ≤ 500 → KX N N' → dnL A N' (501 * (4 * m + t) + s + 1) → (∀ N', KX N N' → dnL A N' (501 * (4 * m + t) + s) → R45 (nI m) (nI t) (nI s + (-1)) N') → R174 (nI m) (nI t) (nI s) (nI (lst A m t s)) N' := by
    intro m t s N' hm ht hs hX hD hp
    apply h174
    refine r_at ?_
    rw [nI_clamp (show 501 * (4 * m + t) + s < 2 ^ 31 by omega)]
    refine ⟨vp_in_nI (by omega) (by omega), ?_⟩
    rintro _ rfl _ rfl
    exact hp _ (hX.up _ _) (hD.up (by rw [lstI_at ht hs]))
  have one : ∀ m t s N', m < 12 → t < 4 → s ≤ 500 → KX N N' → dnL A N' (501 * (4 * m + t) + s + 1) → (∀ N', KX N N' → dnL A N' (501 * (4 * m + t) + s) → R45 (nI m) (nI t) (nI s + (-1)) N') → R98 (nI m) (nI t) (nI s) (nI (lst A m (t + 1) s)) N' := by
    intro m t s N' hm ht hs hX hD hp
    have hN' := hX.kn hN
    have hp' := put m t s N' hm ht hs hX hD hp
    have skip : ¬ (t < A 0 3 ∧ A 14 t ≤ m ∧ s < 500) → R174 (nI m) (nI t) (nI s) (nI (lst A m (t + 1) s)) N' := by
      intro q
      rw [← lst_skip hK hm ht hs q]
      exact hp'
    apply h98
    unfold qX7_reckon_b98
    rw [hN'.1, nI_leI (by omega) (by omega)]
    refine ⟨fun q => skip (by omega), fun q => ⟨vp_in_nI ht (by omega), ?_⟩⟩
    have hlt : t < A 0 3 := by omega
    obtain ⟨n1, n2, n3, n4⟩ := hN'.2.2.2 t hlt
    obtain ⟨k1, k2, k3, k4, k5⟩ := hK.2.2.2 t hlt
    rw [nI_clamp (show t < 2 ^ 31 by omega), n2, n1, nI_ltI (by omega) (by omega)]
    refine ⟨fun q => skip (by omega), fun q2 => ?_⟩
    rw [show (500 : Int32) = nI 500 from rfl, nI_leI (by omega) (by omega)]
    refine ⟨fun q => skip (by omega), fun q3 => ⟨vp_in_nI ht (by omega), ?_⟩⟩
    have hq : t < A 0 3 ∧ A 14 t ≤ m ∧ s < 500 := ⟨hlt, by omega, by omega⟩
    rw [nI_add, jmin_nI (by omega) (by omega)]
    refine r_at ?_
    rw [nI_clamp (show 501 * (4 * m + t) + min 500 (s + A 13 t) < 2 ^ 31 by omega)]
    refine ⟨vp_in_nI (by omega) (by omega), ?_⟩
    rintro _ rfl
    rw [dn_at hD (by omega) ht (by omega) (by omega) (by omega)]
    have b1 := lst_b hK (show m ≤ 12 by omega) (show t ≤ 4 by omega) (show min 500 (s + A 13 t) ≤ 500 by omega)
    have b2 := lst_b hK (show m ≤ 12 by omega) (show t + 1 ≤ 4 by omega) hs
    have b3 := takesA_le hK hlt hq.2.1 hm
    have e := lst_s hK hm ht hs
    rw [if_pos hq] at e
    rw [e] at hp'
    rw [show (2000000000 : Int32) = nI NEV from rfl]
    unfold NEV at *
    rw [nI_leI (by omega) (by omega)]
    refine ⟨fun q4 => ?_, fun q4 => ?_⟩
    · rw [if_neg (by omega)] at hp'
      exact hp'
    · rw [if_pos (by omega)] at hp'
      refine r_takes hK hN' hlt hq.2.1 hm ?_
      rintro _ rfl
      rw [nI_add, jmin_nI (by omega) (by omega)]
      exact hp'
  have row : ∀ m t, m < 12 → t < 4 → (∀ N', KX N N' → dnL A N' (501 * (4 * m + t)) → R45 (nI m) (nI t) (nI 0 + (-1)) N') → ∀ n, n ≤ 501 → ∀ N', KX N N' → dnL A N' (501 * (4 * m + t) + n) → R45 (nI m) (nI t) (nI n + (-1)) N' := by
    intro m t hm ht hp n
    induction n with
    | zero => exact fun _ N' hX hD => hp N' hX hD
    | succ s ih =>
      intro hn N' hX hD
      have one' := one m t s N' hm ht (by omega) hX hD (ih (by omega))
      rw [pk_m1]
      apply h45
      unfold qX7_reckon_b45
      refine ⟨fun q => absurd q (nI_pos (by omega)), fun _ => ?_⟩
      have hN' := hX.kn hN
      rw [show (3 : Int32) = nI 3 from rfl, nI_leI (by omega) (by omega)]
      refine ⟨fun q => ⟨vp_in_nI hm (by omega), ?_⟩, fun q => ?_⟩
      · have hw := hK.2.2.1 m hm
        rw [nI_clamp (show m < 2 ^ 31 by omega), hN'.2.2.1 m hm, nI_ltI (by omega) (by omega)]
        rw [show t + 1 = 4 by omega, lst_4 hm] at one'
        refine ⟨fun q2 => ?_, fun q2 => ?_⟩
        · rw [if_neg (by omega)] at one'
          exact one'
        · rw [if_pos (by omega)] at one'
          rw [nI_1]
          refine r_at (t := 0) ?_
          rw [nI_clamp (show 501 * (4 * (m + 1) + 0) + s < 2 ^ 31 by omega)]
          refine ⟨vp_in_nI (by omega) (by omega), ?_⟩
          rw [dn_at hD (by omega) (by omega) (fun _ => rfl) (by omega) (by omega)]
          exact one'
      · rw [nI_1]
        refine r_at ?_
        rw [nI_clamp (show 501 * (4 * m + (t + 1)) + s < 2 ^ 31 by omega)]
        refine ⟨vp_in_nI (by omega) (by omega), ?_⟩
        rw [dn_at hD (by omega) (by omega) (by omega) (by omega) (by omega)]
        exact one'
  have types : ∀ m, m < 12 → (∀ N', KX N N' → dnL A N' (501 * (4 * m)) → R37 (nI m) (nI 0 + (-1)) N') → ∀ n, n ≤ 4 → ∀ N', KX N N' → dnL A N' (501 * (4 * m + n)) → R37 (nI m) (nI n + (-1)) N' := by
    intro m hm hp n
    induction n with
    | zero => exact fun _ N' hX hD => hp N' hX hD
    | succ t ih =>
      intro hn N' hX hD
      rw [pk_m1]
      apply h37
      refine ⟨fun q => absurd q (nI_pos (by omega)), fun _ => ?_⟩
      refine row m t hm (by omega) (fun N' hX hD => ?_) 501 (Nat.le_refl _) N' hX (by rw [show 501 * (4 * m + t) + 501 = 501 * (4 * m + (t + 1)) by omega]; exact hD)
      apply h45
      refine ⟨fun _ => ?_, fun q => absurd (by decide) q⟩
      rintro _ rfl
      exact ih (by omega) N' hX hD
  have months : ∀ n, n ≤ 12 → ∀ N', KX N N' → dnL A N' (501 * (4 * n)) → R31 (nI n + (-1)) N' := by
    intro n
    induction n with
    | zero =>
      intro _ N' hX hD
      apply h31
      exact ⟨fun _ => h N' hX hD, fun q => absurd (by decide) q⟩
    | succ m ih =>
      intro hn N' hX hD
      rw [pk_m1]
      apply h31
      refine ⟨fun q => absurd q (nI_pos (by omega)), fun _ => ?_⟩
      refine types m (by omega) (fun N' hX hD => ?_) 4 (Nat.le_refl _) N' hX (by rw [show 501 * (4 * m + 4) = 501 * (4 * (m + 1)) by omega]; exact hD)
      apply h37
      refine ⟨fun _ => ?_, fun q => absurd (by decide) q⟩
      rintro _ rfl
      exact ih (by omega) N' hX hD
  have last : ∀ s, s ≤ 501 → ∀ N', KX N N' → (∀ j, 24048 ≤ j → j < 24048 + s → N'.1 31 j = 0) → R2 (nI s) N' := by
    refine up_to (fun N' hX hz => ?_) (fun s hs ih N' hX hz => ?_)
    · apply h2
      refine ⟨fun _ => ?_, fun q => absurd (by decide) q⟩
      refine months 12 (Nat.le_refl _) N' hX (fun j hj1 hj2 => ?_)
      rw [hz j (by omega) (by omega)]
      unfold lstI
      rw [show j / 501 / 4 = 12 by omega, lst_12]
      rfl
    · apply h2
      unfold qX7_reckon_b2
      rw [show (500 : Int32) = nI 500 from rfl, nI_ltI (by omega) (by omega)]
      refine ⟨fun q => absurd q (by omega), fun _ => ?_⟩
      refine r_at (m := 12) (t := 0) ?_
      rw [nI_clamp (show 501 * (4 * 12 + 0) + s < 2 ^ 31 by omega)]
      refine ⟨vp_in_nI (by omega) (by omega), ?_⟩
      rintro _ rfl _ rfl
      rw [nI_1]
      refine ih _ (hX.up _ _) (fun j h1 h2 => ?_)
      rw [sA_g]
      by_cases q : j = 501 * (4 * 12 + 0) + s
      · rw [if_pos ⟨rfl, q⟩]
      · rw [if_neg (fun c => q c.2)]
        exact hz j h1 (by omega)
  exact last 0 (Nat.zero_le _) N (KX.rf N) (fun j h1 h2 => absurd h2 (by omega))

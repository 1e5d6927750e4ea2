/-! SHEETS: a number comes to a place, is read; a sheet is dropped -/
theorem r_write {a p : Int32} {v : Int64} {N : Mem} (hS : SL (N.1 2)) {post : Int32 → Mem → Prop} (h1 : (a.toInt < 0 ∨ 5 < a.toInt) → post 0 (sA N 0 0 1)) (h2 : ∀ s, s < 6 → a = nI s → N.1 2 s = -1 → post 0 (sA N 0 0 2))
    (h3 : ∀ s n, s < 6 → a = nI s → N.1 2 s = nI n → n ≤ 64 → (p.toInt < 0 ∨ (n : Int) ≤ p.toInt) → post 0 (sA N 0 0 3)) (h0 : ∀ s n j, s < 6 → a = nI s → N.1 2 s = nI n → n ≤ 64 → j < n → p = nI j → post 1 (sA (sB N 3 (64 * s + j) (cutV v (N.1 1 s))) 0 0 0)) : qX7_write a p v N post := by
  unfold qX7_write
  refine r_wrong hS (fun h => ⟨fun _ => is_no (by decide) (h1 h), fun c => absurd c (by decide)⟩) (fun s hs e he => ⟨fun _ => is_no (by decide) (h2 s hs e he), fun c => absurd c (by decide)⟩) (fun s n hs e he hn hx => ⟨fun _ => is_no (by decide) (h3 s n hs e he hn hx), fun c => absurd c (by decide)⟩) (fun s n j hs e he hn hj ej => b0_n ?_)
  have fin := h0 s n j hs e he hn hj ej
  subst e ej
  rw [nI_clamp (show s < 2 ^ 31 by omega), ix64, nI_clamp (show 64 * s + j < 2 ^ 31 by omega)]
  refine ⟨vp_in_nI hs (by omega), r_cut ⟨vp_in_nI (by omega) (by omega), ?_⟩⟩
  rintro _ rfl
  exact is_yes fin
theorem hk_write (M N : Mem) (h : Rel M N) (a p : Int32) (v : Int64) : qX6_write a p v M (fun r M => qX7_write a p v N (fun r2 N => r = r2 ∧ Rel M N)) := by
  obtain ⟨_, A, hA⟩ := h
  have hc := hA.1.c
  have hn := hA.1.n
  unfold qX6_write
  refine s_why hc (fun h => b1_e ?_) (fun s hs e he => ⟨fun c => absurd c (by decide), fun _ => ?_⟩) (fun s n hs e he hn' hx => ⟨fun c => absurd c (by decide), fun _ => ?_⟩) (fun s n j hs e he hn' hj ej => b0_e ?_)
  · rintro _ rfl
    refine ⟨rfl, r_write hn (fun _ => ⟨rfl, Rel.no hA 1⟩) (fun s hs e _ => ?_) (fun s n hs e _ _ _ => ?_) (fun s n j hs e _ _ _ _ => ?_)⟩
    all_goals
      rw [e, nI_toInt (by omega)] at h
      omega
  · subst e
    have he' : N.1 2 s = -1 := by rw [← (hA.1 s hs).2.1]; exact he
    rintro _ rfl
    refine ⟨rfl, r_write hn (fun h => ?_) (fun s' hs' e _ => ⟨rfl, Rel.no hA 2⟩) (fun s' n hs' e e2 _ _ => ?_) (fun s' n j hs' e e2 _ _ _ => ?_)⟩
    · rw [nI_toInt (by omega)] at h
      omega
    all_goals
      rw [nI_eq (by omega) (by omega)] at e
      subst e
      rw [he'] at e2
      exact absurd e2.symm (nI_nm1 (by omega))
  · subst e
    have he' : N.1 2 s = nI n := by rw [← (hA.1 s hs).2.1]; exact he
    rintro _ rfl
    refine ⟨rfl, r_write hn (fun h => ?_) (fun s' hs' e e2 => ?_) (fun s' n hs' e e2 _ _ => ⟨rfl, Rel.no hA 3⟩) (fun s' n' j hs' e e2 _ hj ej => ?_)⟩
    · rw [nI_toInt (by omega)] at h
      omega
    · rw [nI_eq (by omega) (by omega)] at e
      subst e
      rw [he'] at e2
      exact absurd e2 (nI_nm1 (by omega))
    · rw [nI_eq (by omega) (by omega)] at e
      subst e
      rw [he', nI_eq (by omega) (by omega)] at e2
      rw [ej, nI_toInt (by omega)] at hx
      omega
  · subst e ej
    have he' : N.1 2 s = nI n := by rw [← (hA.1 s hs).2.1]; exact he
    unfold qX4_put
    rw [nI_clamp (show s < 2 ^ 31 by omega), nI_clamp (show j < 2 ^ 31 by omega)]
    refine ⟨vp_in_nI hs (by omega), vp_in_nI hs (by omega), s_cut ⟨vp_in_nI (by omega) (by omega), ?_⟩⟩
    rintro _ rfl _ rfl
    refine ⟨rfl, r_write hn (fun h => ?_) (fun s' hs' e e2 => ?_) (fun s' n' hs' e e2 _ hx => ?_) (fun s' n' j' hs' e e2 _ hj' ej => ⟨rfl, st_eq, A, ?_⟩)⟩
    · rw [nI_toInt (by omega)] at h
      omega
    · rw [nI_eq (by omega) (by omega)] at e
      subst e
      rw [he'] at e2
      exact absurd e2 (nI_nm1 (by omega))
    · rw [nI_eq (by omega) (by omega)] at e
      subst e
      rw [he', nI_eq (by omega) (by omega)] at e2
      rw [nI_toInt (by omega)] at hx
      omega
    · rw [nI_eq (by omega) (by omega)] at e ej
      subst e ej
      refine hA.sh (fun t ht => ?_) (fun k h1 h2 h3 => sA_1 k h1) (fun k h1 h2 h3 => sA_1 k h1) (fun i hi => by rw [sA_g, if_neg (by omega)]; rfl)
      obtain ⟨e9, e10, ex⟩ := hA.1 t ht
      refine ⟨e9, e10, ex.imp id (fun ⟨m, hm, e1, ev⟩ => ⟨m, hm, e1, fun i hi => ?_⟩)⟩
      show (if 3 + t = 3 + s then vp_updL (M.2 (3 + s)) j (cutV v (M.1 9 s)) else M.2 (3 + t)) i = vp_updL (N.2 3) (64 * s + j) (cutV v (N.1 1 s)) (64 * t + i)
      by_cases e : t = s
      · subst e
        rw [if_pos rfl, e9]
        by_cases e3 : i = j
        · subst e3
          rw [pk_uLs, pk_uLs]
        · rw [pk_uLn e3, pk_uLn (by omega)]
          exact ev i hi
      · rw [if_neg (by omega), pk_uLn (by omega)]
        exact ev i hi
theorem r_read {a p : Int32} {N : Mem} (hS : SL (N.1 2)) {post : Int64 → Mem → Prop} (h1 : (a.toInt < 0 ∨ 5 < a.toInt) → post (-1) (sA N 0 0 1)) (h2 : ∀ s, s < 6 → a = nI s → N.1 2 s = -1 → post (-1) (sA N 0 0 2))
    (h3 : ∀ s n, s < 6 → a = nI s → N.1 2 s = nI n → n ≤ 64 → (p.toInt < 0 ∨ (n : Int) ≤ p.toInt) → post (-1) (sA N 0 0 3)) (h0 : ∀ s n j, s < 6 → a = nI s → N.1 2 s = nI n → n ≤ 64 → j < n → p = nI j → post (N.2 3 (64 * s + j)) (sA N 0 0 0)) : qX7_read a p N post := by
  unfold qX7_read
  have g : ∀ v, (sA N 0 0 v).1 0 0 = v := fun v => rfl
  refine r_wrong hS (fun h => ?_) (fun s hs e he => ?_) (fun s n hs e he hn hx => ?_) (fun s n j hs e he hn hj ej => ?_)
  · rintro _ rfl
    rw [g]
    exact ⟨fun c => absurd c (by decide), fun _ => h1 h⟩
  · rintro _ rfl
    rw [g]
    exact ⟨fun c => absurd c (by decide), fun _ => h2 s hs e he⟩
  · rintro _ rfl
    rw [g]
    exact ⟨fun c => absurd c (by decide), fun _ => h3 s n hs e he hn hx⟩
  · have fin := h0 s n j hs e he hn hj ej
    subst e ej
    rintro _ rfl
    rw [g, ix64, nI_clamp (show 64 * s + j < 2 ^ 31 by omega)]
    exact ⟨fun _ => ⟨vp_in_nI (by omega) (by omega), fin⟩, fun c => absurd (by decide) c⟩
theorem hk_read (M N : Mem) (h : Rel M N) (a p : Int32) : qX6_read a p M (fun r M => qX7_read a p N (fun r2 N => r = r2 ∧ Rel M N)) := by
  obtain ⟨_, A, hA⟩ := h
  have hc := hA.1.c
  have hn := hA.1.n
  have m1 : ((-1 : Int32).toInt64) = (-1 : Int64) := by decide
  unfold qX6_read
  refine s_why hc (fun h => b1_e ?_) (fun s hs e he => ⟨fun c => absurd c (by decide), fun _ => ?_⟩) (fun s n hs e he hn' hx => ⟨fun c => absurd c (by decide), fun _ => ?_⟩) (fun s n j hs e he hn' hj ej => b0_e ?_)
  · rintro _ rfl
    refine r_read hn (fun _ => ⟨m1, Rel.no hA 1⟩) (fun s hs e _ => ?_) (fun s n hs e _ _ _ => ?_) (fun s n j hs e _ _ _ _ => ?_)
    all_goals
      rw [e, nI_toInt (by omega)] at h
      omega
  · subst e
    have he' : N.1 2 s = -1 := by rw [← (hA.1 s hs).2.1]; exact he
    rintro _ rfl
    refine r_read hn (fun h => ?_) (fun s' hs' e _ => ⟨m1, Rel.no hA 2⟩) (fun s' n hs' e e2 _ _ => ?_) (fun s' n j hs' e e2 _ _ _ => ?_)
    · rw [nI_toInt (by omega)] at h
      omega
    all_goals
      rw [nI_eq (by omega) (by omega)] at e
      subst e
      rw [he'] at e2
      exact absurd e2.symm (nI_nm1 (by omega))
  · subst e
    have he' : N.1 2 s = nI n := by rw [← (hA.1 s hs).2.1]; exact he
    rintro _ rfl
    refine r_read hn (fun h => ?_) (fun s' hs' e e2 => ?_) (fun s' n hs' e e2 _ _ => ⟨m1, Rel.no hA 3⟩) (fun s' n' j hs' e e2 _ hj ej => ?_)
    · rw [nI_toInt (by omega)] at h
      omega
    · rw [nI_eq (by omega) (by omega)] at e
      subst e
      rw [he'] at e2
      exact absurd e2 (nI_nm1 (by omega))
    · rw [nI_eq (by omega) (by omega)] at e
      subst e
      rw [he', nI_eq (by omega) (by omega)] at e2
      rw [ej, nI_toInt (by omega)] at hx
      omega
  · subst e ej
    have he' : N.1 2 s = nI n := by rw [← (hA.1 s hs).2.1]; exact he
    rintro _ rfl
    unfold qX4_at
    rw [nI_clamp (show s < 2 ^ 31 by omega), nI_clamp (show j < 2 ^ 31 by omega)]
    refine ⟨vp_in_nI hs (by omega), vp_in_nI (by omega) (by omega), r_read hn (fun h => ?_) (fun s' hs' e e2 => ?_) (fun s' n' hs' e e2 _ hx => ?_) (fun s' n' j' hs' e e2 _ hj' ej => ⟨?_, Rel.no hA 0⟩)⟩
    · rw [nI_toInt (by omega)] at h
      omega
    · rw [nI_eq (by omega) (by omega)] at e
      subst e
      rw [he'] at e2
      exact absurd e2 (nI_nm1 (by omega))
    · rw [nI_eq (by omega) (by omega)] at e
      subst e
      rw [he', nI_eq (by omega) (by omega)] at e2
      rw [nI_toInt (by omega)] at hx
      omega
    · rw [nI_eq (by omega) (by omega)] at e ej
      subst e ej
      rcases (hA.1 s hs).2.2 with q | ⟨m, hm, q1, q2⟩
      · rw [he] at q
        exact absurd q (nI_nm1 (by omega))
      · rw [he, nI_eq (by omega) (by omega)] at q1
        exact q2 j (by omega)
theorem hk_drop (M N : Mem) (h : Rel M N) (a : Int32) : qX6_drop a M (fun r M => qX7_drop a N (fun r2 N => r = r2 ∧ Rel M N)) := by
  obtain ⟨_, A, hA⟩ := h
  have hc := hA.1.c
  unfold qX6_drop
  refine s_isNumber (fun s hs ea => b1_n ?_) (fun h => b0_n ?_)
  · subst ea
    have e10 := (hA.1 s hs).2.1
    have bad : ¬ ((nI s).toInt < 0 ∨ 5 < (nI s).toInt) := by rw [nI_toInt (by omega)]; omega
    refine s_isMissing hc hs (fun he => b1_e ?_) (fun n hn he => b0_e ?_)
    · rintro _ rfl
      refine ⟨rfl, ?_⟩
      unfold qX7_drop
      refine r_isSheet (fun _ _ _ => b1_n ?_) (fun h => absurd h bad)
      rw [nI_clamp (show s < 2 ^ 31 by omega), ← e10, he]
      exact ⟨vp_in_nI hs (by omega), fun c => absurd rfl c, fun _ => is_no (by decide) ⟨rfl, Rel.no hA 2⟩⟩
    · unfold qX4_lose
      rw [nI_clamp (show s < 2 ^ 31 by omega)]
      refine ⟨vp_in_nI hs (by omega), ?_⟩
      rintro _ rfl _ rfl
      refine ⟨rfl, ?_⟩
      unfold qX7_drop
      refine r_isSheet (fun _ _ _ => b1_n ?_) (fun h => absurd h bad)
      rw [nI_clamp (show s < 2 ^ 31 by omega), ← e10, he]
      refine ⟨vp_in_nI hs (by omega), fun _ => ⟨vp_in_nI hs (by omega), ?_⟩, fun c => absurd c (nI_nm1 (by omega))⟩
      rintro _ rfl
      refine is_yes ⟨rfl, st_eq, A, ?_⟩
      refine hA.sh (fun t ht => ?_) (fun k h1 h2 h3 => by rw [sA_1 k h1, sA_1 k h3]) (fun k h1 h2 h3 => by rw [sA_1 k h1, sA_1 k h3]) (fun i hi => by rw [sA_g, if_neg (by omega), sA_1 0 (by decide)])
      obtain ⟨f9, f10, ex⟩ := hA.1 t ht
      show M.1 9 t = N.1 1 t ∧ upd (M.1 10) s (-1) t = upd (N.1 2) s (-1) t ∧ (upd (M.1 10) s (-1) t = -1 ∨ ∃ n_1, n_1 ≤ 64 ∧ upd (M.1 10) s (-1) t = nI n_1 ∧ ∀ j, j < n_1 → M.2 (3 + t) j = N.2 3 (64 * t + j))
      by_cases e : t = s
      · subst e
        rw [pk_us, pk_us]
        exact ⟨f9, rfl, Or.inl rfl⟩
      · rw [pk_un e, pk_un e]
        exact ⟨f9, f10, ex⟩
  · rintro _ rfl
    refine ⟨rfl, ?_⟩
    unfold qX7_drop
    refine r_isSheet (fun s hs e => ?_) (fun _ => b0_n (is_no (by decide) ⟨rfl, Rel.no hA 1⟩))
    rw [e, nI_toInt (by omega)] at h
    omega

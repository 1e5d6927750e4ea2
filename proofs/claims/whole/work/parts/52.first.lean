/-! THE FIRST NUMBERS of a sheet, each from 0 to so much -/
def gd (f : Nat → Int64) (m : Nat) (g : Int) : Prop := ∀ j, j < m → 0 ≤ (f j).toInt ∧ (f j).toInt ≤ g
theorem gd_c {f f' : Nat → Int64} {m : Nat} {g : Int} (h : gd f m g) (e : ∀ j, j < m → f j = f' j) : gd f' m g := fun j hj => by
  rw [← e j hj]
  exact h j hj
theorem gd_lN {f : Nat → Int64} {m g : Nat} (h : gd f m (g : Int)) (hg : g < 2 ^ 31) {j : Nat} (hj : j < m) : ∃ k, k ≤ g ∧ f j = lN k := by
  obtain ⟨h1, h2⟩ := h j hj
  obtain ⟨k, hk, e⟩ := pk_lOf (x := f j) (by rw [Int64.lt_iff_toInt_lt, Int64.toInt_zero]; omega)
  have e2 : f j = Int64.ofInt ((f j).toInt.toNat : Int) := by
    rw [Int.toNat_of_nonneg h1, Int64.ofInt_toInt]
  refine ⟨(f j).toInt.toNat, by omega, ?_⟩
  exact e2.trans Int64.ofInt_eq_ofNat
theorem s_first {s m : Nat} {g : Int32} {M : Mem} (hS : SL (M.1 10)) (hs : s < 6) (hm : m < 2 ^ 31) {post : Int32 → Mem → Prop} (h2 : M.1 10 s = -1 → post 2 M) (h3 : ∀ n, n ≤ 64 → M.1 10 s = nI n → n < m → post 3 M)
    (h1 : ∀ n, n ≤ 64 → M.1 10 s = nI n → m ≤ n → ¬ gd (M.2 (3 + s)) m g.toInt → post 1 M) (h0 : ∀ n, n ≤ 64 → M.1 10 s = nI n → m ≤ n → gd (M.2 (3 + s)) m g.toInt → post 0 M) : qX4_whyNotFirst (nI s) (nI m) g M post := by
  intro R25 h25
  refine s_isMissing hS hs (fun he => b1_e (h2 he)) (fun n hn e => b0_e ?_)
  rw [nI_clamp (show s < 2 ^ 31 by omega), e]
  refine ⟨vp_in_nI hs (by omega), fun hle => ?_, fun hnl => h3 n hn e ?_⟩
  · rw [nI_leI hm (by omega)] at hle
    have key : ∀ i, i ≤ m → gd (M.2 (3 + s)) i g.toInt → R25 (nI i) M := by
      refine up_to (fun hg => ?_) (fun i hi ih hg => ?_)
      · apply h25
        exact ⟨fun _ => h0 n hn e hle hg, fun h => absurd (nI_le (Nat.le_refl _) hm) h⟩
      · apply h25
        refine ⟨fun h => absurd h (nI_ge hi hm), fun _ => ⟨vp_in_nI hs (by omega), vp_in_nI (by omega) (by omega), ?_⟩⟩
        rw [nI_clamp (show s < 2 ^ 31 by omega), nI_clamp (show i < 2 ^ 31 by omega)]
        refine s_within (fun p q => b1_n ?_) (fun hx => b0_n (h1 n hn e hle (fun hq => ?_)))
        · rintro _ rfl
          rw [nI_1]
          refine ih (fun j hj => ?_)
          by_cases ej : j = i
          · subst ej
            rw [Int32.toInt_zero] at p
            exact ⟨p, q⟩
          · exact hg j (by omega)
        · have := hq i hi
          rw [Int32.toInt_zero] at hx
          omega
    exact key 0 (Nat.zero_le _) (fun j hj => absurd hj (by omega))
  · rw [nI_leI hm (by omega)] at hnl
    omega
theorem r_first {a : Int32} {m : Nat} {g : Int64} {N : Mem} (hS : SL (N.1 2)) (hm : m < 2 ^ 31) {post : Int32 → Mem → Prop} (hb : (a.toInt < 0 ∨ 5 < a.toInt) → post 1 N) (h2 : ∀ s, s < 6 → a = nI s → N.1 2 s = -1 → post 2 N) (h3 : ∀ s n, s < 6 → a = nI s → n ≤ 64 → N.1 2 s = nI n → n < m → post 3 N)
    (h1 : ∀ s n, s < 6 → a = nI s → n ≤ 64 → N.1 2 s = nI n → m ≤ n → ¬ gd (fun j => N.2 3 (64 * s + j)) m g.toInt → post 1 N) (h0 : ∀ s n, s < 6 → a = nI s → n ≤ 64 → N.1 2 s = nI n → m ≤ n → gd (fun j => N.2 3 (64 * s + j)) m g.toInt → post 0 N) : qX7_wrongNumbers a (nI m) g N post := by
  intro R36 h36
  refine r_isSheet (fun s hs ea => b1_n ?_) (fun h => b0_n (hb h))
  have H2 := h2 s hs ea
  have H3 := fun n => h3 s n hs ea
  have H1 := fun n => h1 s n hs ea
  have H0 := fun n => h0 s n hs ea
  subst ea
  rw [nI_clamp (show s < 2 ^ 31 by omega)]
  refine ⟨vp_in_nI hs (by omega), fun hne => ?_, fun he => H2 he⟩
  rcases hS s hs with e | ⟨n, hn, e⟩
  · exact absurd e hne
  rw [e]
  refine ⟨vp_in_nI hs (by omega), fun hle => ?_, fun hnl => H3 n hn e ?_⟩
  · rw [nI_leI hm (by omega)] at hle
    have key : ∀ i, i ≤ m → gd (fun j => N.2 3 (64 * s + j)) i g.toInt → R36 (nI i) N := by
      refine up_to (fun hg => ?_) (fun i hi ih hg => ?_)
      · apply h36
        exact ⟨fun _ => H0 n hn e hle hg, fun h => absurd (nI_le (Nat.le_refl _) hm) h⟩
      · apply h36
        refine ⟨fun h => absurd h (nI_ge hi hm), fun _ => ?_⟩
        rw [ix64, nI_clamp (show 64 * s + i < 2 ^ 31 by omega), lg_cmp_lt, lg_cmp_le, Int64.lt_iff_toInt_lt, Int64.le_iff_toInt_le, Int64.toInt_zero]
        refine ⟨vp_in_nI (by omega) (by omega), fun hx => H1 n hn e hle (fun hq => ?_), fun p => ⟨vp_in_nI (by omega) (by omega), fun q => ?_, fun hx => H1 n hn e hle (fun hq => ?_)⟩⟩
        · have q2 : 0 ≤ (N.2 3 (64 * s + i)).toInt := (hq i hi).1
          omega
        · rintro _ rfl
          rw [nI_1]
          refine ih (fun j hj => ?_)
          by_cases ej : j = i
          · subst ej
            exact ⟨show 0 ≤ (N.2 3 (64 * s + j)).toInt by omega, q⟩
          · exact hg j (by omega)
        · exact hx (hq i hi).2
    exact key 0 (Nat.zero_le _) (fun j hj => absurd hj (by omega))
  · rw [nI_leI hm (by omega)] at hnl
    omega
/-- both sides of the first numbers -/
def WN (M : Mem) (s m : Nat) (g : Int) (w : Int32) : Prop :=
  (w = 2 ∧ M.1 10 s = -1) ∨ ∃ n, n ≤ 64 ∧ M.1 10 s = nI n ∧ ((w = 3 ∧ n < m) ∨ (m ≤ n ∧ ((w = 1 ∧ ¬ gd (M.2 (3 + s)) m g) ∨ (w = 0 ∧ gd (M.2 (3 + s)) m g))))
theorem s_firstW {s m : Nat} {g : Int32} {M : Mem} (hS : SL (M.1 10)) (hs : s < 6) (hm : m < 2 ^ 31) {post : Int32 → Mem → Prop} (h : ∀ w, WN M s m g.toInt w → post w M) : qX4_whyNotFirst (nI s) (nI m) g M post :=
  s_first hS hs hm (fun e => h 2 (Or.inl ⟨rfl, e⟩)) (fun n hn e k => h 3 (Or.inr ⟨n, hn, e, Or.inl ⟨rfl, k⟩⟩)) (fun n hn e k q => h 1 (Or.inr ⟨n, hn, e, Or.inr ⟨k, Or.inl ⟨rfl, q⟩⟩⟩)) (fun n hn e k q => h 0 (Or.inr ⟨n, hn, e, Or.inr ⟨k, Or.inr ⟨rfl, q⟩⟩⟩))
theorem r_firstW {M N : Mem} (hR : RS M N) {s m : Nat} {g : Int64} (hs : s < 6) (hm : m < 2 ^ 31) {w : Int32} (hw : WN M s m g.toInt w) {post : Int32 → Mem → Prop} (h : post w N) : qX7_wrongNumbers (nI s) (nI m) g N post := by
  obtain ⟨_, f10, ex⟩ := hR s hs
  have gg : ∀ n, n ≤ 64 → N.1 2 s = nI n → m ≤ n → (gd (fun j => N.2 3 (64 * s + j)) m g.toInt ↔ gd (M.2 (3 + s)) m g.toInt) := by
    intro n hn e hmn
    rcases ex with q | ⟨k, hk, q1, q2⟩
    · rw [f10, e] at q
      exact absurd q (nI_nm1 (by omega))
    · rw [f10, e, nI_eq (by omega) (by omega)] at q1
      exact ⟨fun h => gd_c h (fun j hj => (q2 j (by omega)).symm), fun h => gd_c h (fun j hj => q2 j (by omega))⟩
  unfold WN at hw
  rw [f10] at hw
  refine r_first hR.n hm (fun hx => ?_) (fun s' hs' ea e => ?_) (fun s' n hs' ea hn e hx => ?_) (fun s' n hs' ea hn e hx hg => ?_) (fun s' n hs' ea hn e hx hg => ?_)
  · rw [nI_toInt (by omega)] at hx
    omega
  · rw [nI_eq (by omega) (by omega)] at ea
    subst ea
    rcases hw with ⟨rfl, _⟩ | ⟨n, hn, e2, _⟩
    · exact h
    · rw [e] at e2
      exact absurd e2.symm (nI_nm1 (by omega))
  all_goals
    rw [nI_eq (by omega) (by omega)] at ea
    subst ea
    rcases hw with ⟨_, e2⟩ | ⟨n', hn', e2, hc⟩
    · rw [e] at e2
      exact absurd e2 (nI_nm1 (by omega))
    rw [e, nI_eq (by omega) (by omega)] at e2
    subst e2
  · rcases hc with ⟨rfl, _⟩ | ⟨hc, _⟩
    · exact h
    · omega
  · rcases hc with ⟨_, hc⟩ | ⟨_, ⟨rfl, _⟩ | ⟨_, hg2⟩⟩
    · omega
    · exact h
    · exact absurd ((gg n hn e hx).mpr hg2) hg
  · rcases hc with ⟨_, hc⟩ | ⟨_, ⟨_, hg2⟩ | ⟨rfl, _⟩⟩
    · omega
    · exact absurd ((gg n hn e hx).mp hg) hg2
    · exact h
theorem WN.cases {M : Mem} {s m : Nat} {g : Int} {w : Int32} (h : WN M s m g w) : w = 0 ∨ w = 1 ∨ w = 2 ∨ w = 3 := by
  rcases h with ⟨h, _⟩ | ⟨n, _, _, ⟨h, _⟩ | ⟨_, ⟨h, _⟩ | ⟨h, _⟩⟩⟩
  · exact Or.inr (Or.inr (Or.inl h))
  · exact Or.inr (Or.inr (Or.inr h))
  · exact Or.inr (Or.inl h)
  · exact Or.inl h
theorem WN.z {M : Mem} {s m : Nat} {g : Int} (h : WN M s m g 0) : ∃ n, n ≤ 64 ∧ M.1 10 s = nI n ∧ m ≤ n ∧ gd (M.2 (3 + s)) m g := by
  rcases h with ⟨h, _⟩ | ⟨n, hn, e, ⟨h, _⟩ | ⟨k, ⟨h, _⟩ | ⟨_, h⟩⟩⟩
  · exact absurd h (by decide)
  · exact absurd h (by decide)
  · exact absurd h (by decide)
  · exact ⟨n, hn, e, k, h⟩

/-! A LINE is told; the fewest hands -/
def badI (a b d : Int32) : Prop := a.toInt < 0 ∨ 5 < a.toInt ∨ b.toInt < 1 ∨ 64 < b.toInt ∨ d.toInt < 1 ∨ 100 < d.toInt
theorem okI {s m K : Nat} (hs : s < 6) (h1 : 1 ≤ m) (h2 : m ≤ 64) (h3 : 1 ≤ K) (h4 : K ≤ 100) : ¬ badI (nI s) (nI m) (nI K) := by
  unfold badI
  rw [nI_toInt (by omega), nI_toInt (by omega), nI_toInt (by omega)]
  omega
theorem s_isLine {a b d : Int32} {M : Mem} {post : Int32 → Mem → Prop} (h1 : ∀ s m K, s < 6 → 1 ≤ m → m ≤ 64 → 1 ≤ K → K ≤ 100 → a = nI s → b = nI m → d = nI K → post 1 M) (h0 : badI a b d → post 0 M) : qX6_isLine a b d M post := by
  have c1 : (1 : Int32).toInt = 1 := rfl
  have c64 : (64 : Int32).toInt = 64 := rfl
  have c100 : (100 : Int32).toInt = 100 := rfl
  refine s_isNumber (fun s hs ea => b1_e (s_withinI (fun p q => b1_e (s_withinI (fun p2 q2 => b1_e ?_) (fun hx => b0_e (h0 ?_)))) (fun hx => b0_e (h0 ?_)))) (fun hx => b0_e (h0 ?_))
  · rw [c1] at p p2
    rw [c64] at q
    rw [c100] at q2
    obtain ⟨m, hm, _, eb⟩ := nat_of (a := b) (n := 64) (by omega) q
    obtain ⟨K, hK, _, ed⟩ := nat_of (a := d) (n := 100) (by omega) q2
    have e1 := congrArg Int32.toInt eb
    have e2 := congrArg Int32.toInt ed
    rw [nI_toInt (by omega)] at e1 e2
    exact h1 s m K hs (by omega) hm (by omega) hK ea eb ed
  · unfold badI
    rw [c1, c100] at hx
    omega
  · unfold badI
    rw [c1, c64] at hx
    omega
  · unfold badI
    omega
/-- who comes -/
def cmr (M : Mem) (s : Nat) : Nat → Nat := fun j => (M.2 (3 + s) j).toInt.toNat
theorem cmr_c {M : Mem} {s m : Nat} (h : gd (M.2 (3 + s)) m 100) {j : Nat} (hj : j < m) : cmr M s j ≤ 100 ∧ M.2 (3 + s) j = lN (cmr M s j) := by
  obtain ⟨k, hk, e⟩ := gd_lN (g := 100) h (by decide) hj
  have e2 : cmr M s j = k := by
    unfold cmr
    rw [e, lN_toInt (by omega)]
    rfl
  rw [e2]
  exact ⟨hk, e⟩
theorem RS.cmr {M N : Mem} (hR : RS M N) {s m : Nat} (hs : s < 6) (hw : WN M s m 100 0) {j : Nat} (hj : j < m) : cmr M s j ≤ 100 ∧ M.2 (3 + s) j = lN (cmr M s j) ∧ N.2 3 (64 * s + j) = lN (cmr M s j) := by
  obtain ⟨n, hn, e, hmn, hg⟩ := hw.z
  obtain ⟨h1, h2⟩ := cmr_c hg hj
  refine ⟨h1, h2, ?_⟩
  obtain ⟨_, _, ex⟩ := hR s hs
  rcases ex with q | ⟨k, hk, q1, q2⟩
  · rw [e] at q
    exact absurd q (nI_nm1 (by omega))
  · rw [e, nI_eq (by omega) (by omega)] at q1
    rw [← q2 j (by omega)]
    exact h2
def LCx (M M' : Mem) : Prop := M'.2 = M.2 ∧ ∀ k, k ≠ 73 → k ≠ 74 → M'.1 k = M.1 k
def LRx (N N' : Mem) : Prop := N'.2 = N.2 ∧ (∀ j, 1 ≤ j → ¬ (30 ≤ j ∧ j ≤ 34) → N'.1 0 j = N.1 0 j) ∧ ∀ k, k ≠ 0 → k ≠ 25 → N'.1 k = N.1 k
theorem LCx.rf (M : Mem) : LCx M M := ⟨rfl, fun _ _ _ => rfl⟩
theorem LRx.rf (N : Mem) : LRx N N := ⟨rfl, fun _ _ _ => rfl, fun _ _ _ => rfl⟩
theorem LCx.tr {M M' M2 : Mem} (h : LCx M M') (k : LCx M' M2) : LCx M M2 := ⟨k.1.trans h.1, fun a b c => (k.2 a b c).trans (h.2 a b c)⟩
theorem LRx.tr {M M' M2 : Mem} (h : LRx M M') (k : LRx M' M2) : LRx M M2 := ⟨k.1.trans h.1, fun a b c => (k.2.1 a b c).trans (h.2.1 a b c), fun a b c => (k.2.2 a b c).trans (h.2.2 a b c)⟩
theorem LC.x {M M' : Mem} {s : LnS} (h : LC M s M') : LCx M M' := ⟨h.1, h.2.1⟩
theorem LR.x {N N' : Mem} {H : Nat} {s : LnS} (h : LR N H s N') : LRx N N' := ⟨h.1, fun j _ hj => h.2.1 j hj, h.2.2.1⟩
theorem LRx.st (N : Mem) (v : Int32) : LRx N (sA N 0 0 v) := ⟨rfl, fun j h _ => by rw [sA_g, if_neg (by omega)], fun k h _ => sA_1 k h⟩
theorem LCx.ce {M M' : Mem} (h : LCx M M') : CE M M' := ⟨h.1, fun k _ _ _ a b => h.2 k a b⟩
theorem LRx.ne {N N' : Mem} (h : LRx N N') : NE N N' := ⟨h.1, h.2.1, fun k a _ c _ => h.2.2 k a (by omega)⟩
theorem LCx.hc {A : Abs} {M M' : Mem} (h : LCx M M') (hC : HC A M) : HC A M' := hC.sh (fun k _ _ => h.2 k (by omega) (by omega))
def ansL (st : LnS) (w : Nat) : Int32 := if w < 4 then st.2.2.2 w else nI st.2.2.1
theorem s_told {w : Nat} {M0 M : Mem} {st : LnS} (hL : LC M0 st M) (hw : w ≤ 4) {post : Int32 → Mem → Prop} (h : post (ansL st w) M) : qX5_told (nI w) M post := by
  unfold qX5_told
  rw [nI_toInt (by omega)]
  unfold ansL at h
  refine ⟨fun q => ?_, fun q => ?_, fun q => ?_, fun q => ?_, fun q => ?_⟩
  · rw [show w = 0 by omega, if_pos (by omega), ← hL.2.2.1 0 (by omega)] at h
    exact h
  · rw [show w = 1 by omega, if_pos (by omega), ← hL.2.2.1 1 (by omega)] at h
    exact h
  · rw [show w = 2 by omega, if_pos (by omega), ← hL.2.2.1 2 (by omega)] at h
    exact h
  · rw [show w = 3 by omega, if_pos (by omega), ← hL.2.2.1 3 (by omega)] at h
    exact h
  · rw [if_neg (by omega), ← hL.2.2.2.1] at h
    exact h
def badL (a b c d e : Int32) : Prop := badI a b d ∨ c.toInt < 1 ∨ 20 < c.toInt ∨ e.toInt < 0 ∨ 4 < e.toInt
theorem r_lineB {a b c d e : Int32} {N : Mem} (hS : SL (N.1 2)) (hb : badL a b c d e) {post : Int32 → Mem → Prop} (h : post (-1) (sA N 0 0 1)) : qX7_line a b c d e N post := by
  intro R46 R59 h46 h59
  have no : R59 1 N := by
    apply h59
    refine ⟨fun x => absurd x (by decide), fun _ => ?_⟩
    rintro _ rfl
    exact h
  have n46 : R46 N := h46 N no
  rw [Int32.lt_iff_toInt_lt, Int32.lt_iff_toInt_lt, Int32.lt_iff_toInt_lt, Int32.lt_iff_toInt_lt, Int32.lt_iff_toInt_lt, Int32.lt_iff_toInt_lt, Int32.lt_iff_toInt_lt, Int32.le_iff_toInt_le, Int32.toInt_zero, show (1 : Int32).toInt = 1 from rfl, show (64 : Int32).toInt = 64 from rfl, show (20 : Int32).toInt = 20 from rfl, show (100 : Int32).toInt = 100 from rfl, show (4 : Int32).toInt = 4 from rfl]
  refine ⟨fun _ => n46, fun p1 => ⟨fun _ => n46, fun p2 => ⟨fun _ => n46, fun p3 => ⟨fun _ => n46, fun p4 => ⟨fun _ => n46, fun p5 => ⟨fun _ => n46, fun p6 => ⟨fun _ => n46, fun p7 => ⟨fun p8 => ?_, fun _ => n46⟩⟩⟩⟩⟩⟩⟩⟩
  obtain ⟨m, hm, _, eb⟩ := nat_of (a := b) (n := 64) (by omega) (by omega)
  have ha : a.toInt < 0 ∨ 5 < a.toInt := by
    unfold badL badI at hb
    omega
  have hx : ∀ s, s < 6 → ¬ a = nI s := by
    intro s hs e
    rw [e, nI_toInt (by omega)] at ha
    omega
  rw [eb]
  exact r_first hS (by omega) (fun _ => no) (fun s hs ea => absurd ea (hx s hs)) (fun s n hs ea => absurd ea (hx s hs)) (fun s n hs ea => absurd ea (hx s hs)) (fun s n hs ea => absurd ea (hx s hs))
theorem nI_is {w k : Nat} (hw : w < 2 ^ 31) (hk : k < 2 ^ 31) (h : nI w = nI k) : w = k := (nI_eq hw hk).mp h
theorem r_lineG {s m H K w : Nat} {M N : Mem} (hR : RS M N) (hs : s < 6) (h1 : 1 ≤ m) (h2 : m ≤ 64) (h3 : 1 ≤ K) (h4 : K ≤ 100) (h5 : 1 ≤ H) (h6 : H ≤ 20) (hw : w ≤ 4) {r : Int32} (hr : WN M s m 100 r) {post : Int32 → Mem → Prop} (g1 : ¬ r = 0 → post (-1) (sA N 0 0 r))
    (g0 : r = 0 → ∀ N', LRx N N' → post (ansL (lnA H K (cmr M s) m) w) (sA N' 0 0 0)) : qX7_line (nI s) (nI m) (nI H) (nI K) (nI w) N post := by
  intro R46 R59 h46 h59
  rw [Int32.lt_iff_toInt_lt, Int32.lt_iff_toInt_lt, Int32.lt_iff_toInt_lt, Int32.lt_iff_toInt_lt, Int32.lt_iff_toInt_lt, Int32.lt_iff_toInt_lt, Int32.lt_iff_toInt_lt, Int32.le_iff_toInt_le, Int32.toInt_zero, show (1 : Int32).toInt = 1 from rfl, show (64 : Int32).toInt = 64 from rfl, show (20 : Int32).toInt = 20 from rfl, show (100 : Int32).toInt = 100 from rfl, show (4 : Int32).toInt = 4 from rfl, nI_toInt (by omega), nI_toInt (by omega), nI_toInt (by omega), nI_toInt (by omega)]
  refine ⟨fun x => absurd x (by omega), fun _ => ⟨fun x => absurd x (by omega), fun _ => ⟨fun x => absurd x (by omega), fun _ => ⟨fun x => absurd x (by omega), fun _ => ⟨fun x => absurd x (by omega), fun _ => ⟨fun x => absurd x (by omega), fun _ => ⟨fun x => absurd x (by omega), fun _ => ⟨fun _ => ?_, fun x => absurd x (by omega)⟩⟩⟩⟩⟩⟩⟩⟩
  refine r_firstW (g := 100) hR hs (by omega) hr ?_
  apply h59
  refine ⟨fun x => ?_, fun x => ?_⟩
  · have e : r = 0 := by
      rcases hr.cases with e | e | e | e
      · exact e
      all_goals
        subst e
        exact absurd x (by decide)
    subst e
    refine r_step hs h2 h5 h6 h4 (c := cmr M s) (fun j hj => ?_) (fun N' hL => ?_)
    · have := hR.cmr hs hr hj
      exact ⟨this.1, this.2.2⟩
    rintro _ rfl
    have fin := g0 rfl N' hL.x
    have c0 : (0 : Int32) = nI 0 := rfl
    have c1 : (1 : Int32) = nI 1 := rfl
    have c2 : (2 : Int32) = nI 2 := rfl
    have c3 : (3 : Int32) = nI 3 := rfl
    have f : ∀ j, 1 ≤ j → (sA N' 0 0 0).1 0 j = N'.1 0 j := fun j hj => by rw [sA_g, if_neg (by omega)]
    unfold ansL at fin
    refine ⟨fun n0 => ⟨fun n1 => ⟨fun n2 => ⟨fun n3 => ?_, fun e => ?_⟩, fun e => ?_⟩, fun e => ?_⟩, fun e => ?_⟩
    · have q0 : w ≠ 0 := fun e => n0 (by rw [e]; rfl)
      have q1 : w ≠ 1 := fun e => n1 (by rw [e]; rfl)
      have q2 : w ≠ 2 := fun e => n2 (by rw [e]; rfl)
      have q3 : w ≠ 3 := fun e => n3 (by rw [e]; rfl)
      rw [if_neg (by omega), ← hL.2.2.2.2.1] at fin
      rw [f 34 (by omega)]
      exact fin
    · have e := nI_is (by omega) (by decide) (e.trans c3)
      rw [e, if_pos (by omega), ← hL.2.2.2.1 3 (by omega)] at fin
      rw [f 33 (by omega)]
      exact fin
    · have e := nI_is (by omega) (by decide) (e.trans c2)
      rw [e, if_pos (by omega), ← hL.2.2.2.1 2 (by omega)] at fin
      rw [f 32 (by omega)]
      exact fin
    · have e := nI_is (by omega) (by decide) (e.trans c1)
      rw [e, if_pos (by omega), ← hL.2.2.2.1 1 (by omega)] at fin
      rw [f 31 (by omega)]
      exact fin
    · have e := nI_is (by omega) (by decide) (e.trans c0)
      rw [e, if_pos (by omega), ← hL.2.2.2.1 0 (by omega)] at fin
      rw [f 30 (by omega)]
      exact fin
  · rintro _ rfl
    refine g1 (fun e => ?_)
    subst e
    exact x (by decide)
theorem hk_line (M N : Mem) (h : Rel M N) (a b c d e : Int32) : qX6_line a b c d e M (fun r M => qX7_line a b c d e N (fun r2 N => r = r2 ∧ Rel M N)) := by
  obtain ⟨_, A, hA⟩ := h
  have hc := hA.1.c
  have hn := hA.1.n
  have no : badL a b c d e → qX6_deny 1 M (fun r M => (fun r M => qX7_line a b c d e N (fun r2 N => r = r2 ∧ Rel M N)) r M) := by
    intro hb
    rintro _ rfl
    exact r_lineB hn hb ⟨rfl, Rel.no hA 1⟩
  have k0 : (0 : Int32).toInt = 0 := rfl
  have k1 : (1 : Int32).toInt = 1 := rfl
  have k4 : (4 : Int32).toInt = 4 := rfl
  have k20 : (20 : Int32).toInt = 20 := rfl
  unfold qX6_line
  refine s_isLine (fun s m K hs h1 h2 h3 h4 ea eb ed => b1_e (s_withinI (fun p q => b1_e (s_withinI (fun p2 q2 => b1_n ?_) (fun hx => b0_n (no ?_)))) (fun hx => b0_e (no ?_)))) (fun hx => b0_e (no (Or.inl hx)))
  · rw [k1] at p
    rw [k20] at q
    rw [k0] at p2
    rw [k4] at q2
    obtain ⟨H, h6, _, ec⟩ := nat_of (a := c) (n := 20) (by omega) q
    obtain ⟨w, hw, _, ee⟩ := nat_of (a := e) (n := 4) p2 q2
    have h5 : 1 ≤ H := by
      rw [ec, nI_toInt (by omega)] at p
      omega
    subst ea eb ec ed ee
    refine s_firstW hc hs (by omega) (fun r hr => ⟨fun e0 => ?_, fun hne => ?_⟩)
    · subst e0
      refine s_serve hs h2 h5 h6 h4 (c := cmr M s) (fun j hj => ?_) (fun M' hL => s_told hL hw ?_)
      · have := hA.1.cmr hs hr hj
        exact ⟨this.1, this.2.1⟩
      rintro _ rfl
      refine r_lineG hA.1 hs h1 h2 h3 h4 h5 h6 hw hr (fun x => absurd rfl x) (fun _ N' hx => ⟨rfl, ?_⟩)
      exact Rel.ans hA (hL.x.hc hA.2.2.1) hL.x.ce hx.ne 0
    · rintro _ rfl
      exact r_lineG hA.1 hs h1 h2 h3 h4 h5 h6 hw hr (fun x => ⟨rfl, Rel.no hA r⟩) (fun x => absurd x hne)
  · unfold badL
    rw [k0, k4] at hx
    omega
  · unfold badL
    rw [k1, k20] at hx
    omega

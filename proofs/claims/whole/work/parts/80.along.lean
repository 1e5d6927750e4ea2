/-! FLOWS: the reference finds ways and goes along them -/
def WR (N N' : Mem) : Prop := N'.2 = N.2 ∧ ∀ k, k ≠ 23 → k ≠ 24 → N'.1 k = N.1 k
theorem WR.rf (M : Mem) : WR M M := ⟨rfl, fun _ _ _ => rfl⟩
theorem WR.qx {M M' : Mem} (h : WR M M') : QX M M' := ⟨h.1, fun k hk => h.2 k (by omega) (by omega)⟩
theorem WR.p23 {M M' : Mem} (h : WR M M') (j : Nat) (v : Int32) : WR M (sA M' 23 j v) := ⟨h.1, fun k a b => by rw [sA_1 k a]; exact h.2 k a b⟩
theorem WR.p24 {M M' : Mem} (h : WR M M') (j : Nat) (v : Int32) : WR M (sA M' 24 j v) := ⟨h.1, fun k a b => by rw [sA_1 k b]; exact h.2 k a b⟩
theorem WR.qr {A : Abs} {lf : Nat → Nat} {k : Nat} {Y : Nat → Nat} {N N' : Mem} {R : Nat → Nat → Nat} (h : WR N N') (hQ : QR A lf k Y N R) : QR A lf k Y N' R := by
  unfold QR
  rw [h.2 21 (by omega) (by omega), h.2 19 (by omega) (by omega), h.2 20 (by omega) (by omega), h.2 22 (by omega) (by omega), h.2 18 (by omega) (by omega)]
  exact hQ
theorem r_isWay {A : Abs} {lf : Nat → Nat} {k : Nat} {Y : Nat → Nat} {N : Mem} {R : Nat → Nat → Nat} {rs : Nat → Nat} {s t : Nat} (hP : PR A) (hl : ∀ w, lf w ≤ 1200) (hN : PN A N) (hM : MX (CG A lf k 33 32) rs R) (hQ : QR A lf k Y N R) (hs : s < 34) (ht : t < 34) (hne : s ≠ t) {post : Int32 → Mem → Prop}
    (h0 : ∀ N' (Z : Nat → Bool), WR N N' → (∀ u v, u < 34 → v < 34 → Z u = true → Z v = false → gR R u v = 0) → Z s = true → Z t = false → post 0 N')
    (h1 : ∀ N' n q j, WR N N' → BS (N'.1 23) (N'.1 24) (gR R) s n q → j < n → q j = t → post 1 N') : qX7_isWay (nI s) (nI t) N post := by
  intro R2 R43 R62 h2 h43 h62
  have gb : ∀ u v, u < 34 → v < 34 → gR R u v ≤ 10000 := by
    intro u v hu hv
    unfold gR
    by_cases c : v = 33
    · rw [if_pos c]
      exact Nat.zero_le _
    · rw [if_neg c]
      exact hM.le (CG_CB hP hl k 33 32) hu hv
  -- one node's row, from place v on
  have inner : ∀ m, m < 34 → (∀ n q N', WR N N' → BS (N'.1 23) (N'.1 24) (gR R) s n q → CLO (N'.1 23) (gR R) q (m + 1) n → R43 (nI n) (nI (m + 1)) N') → ∀ v, v ≤ 34 → ∀ n q N', m < n → WR N N' → BS (N'.1 23) (N'.1 24) (gR R) s n q → CLO (N'.1 23) (gR R) q m n → (∀ x, x < v → 0 < gR R (q m) x → ¬ N'.1 23 x = -1) → R62 (nI n) (nI m) (nI v) N' := by
    intro m hm hnext
    refine up_to (fun n q N' hmn hX hS hC hr => ?_) (fun v hv ih n q N' hmn hX hS hC hr => ?_)
    · apply h62
      unfold qX7_isWay_b62
      refine ⟨fun _ => ?_, fun c => absurd (by decide) c⟩
      rintro _ rfl
      rw [nI_1]
      refine hnext n q N' hX hS (fun i hi hin x hx hG => ?_)
      by_cases c : i = m
      · subst c
        exact hr x hx hG
      · exact hC i (by omega) hin x hx hG
    · have hqm := (hS.2.2.1 m hmn).1
      have hb := gb _ _ hqm hv
      apply h62
      unfold qX7_isWay_b62
      rw [show (34 : Int32) = nI 34 from rfl, nI_leI (by omega) (by omega), nI_clamp (show v < 2 ^ 31 by omega)]
      refine ⟨fun c => absurd hv (by omega), fun _ => ⟨vp_in_nI hv (by omega), fun e => ?_, fun e => ⟨vp_in_nI (by omega) (by omega), ?_⟩⟩⟩
      · rintro _ rfl
        rw [nI_1]
        refine ih n q N' hmn hX hS hC (fun x hx hG => ?_)
        by_cases e2 : x = v
        · subst e2
          exact e
        · exact hr x (by omega) hG
      · rw [nI_clamp (show m < 2 ^ 31 by omega), (hS.2.2.1 m hmn).2.1]
        refine r_goes hP hl (hX.qx.pn hN) hM (hX.qr hQ) hqm hv ⟨fun c => ⟨vp_in_nI (by omega) (by omega), vp_in_nI hv (by omega), ?_⟩, fun c => ?_⟩
        · have hpos : 0 < gR R (q m) v := by
            rcases Nat.eq_zero_or_pos (gR R (q m) v) with c2 | c2
            · rw [c2] at c
              exact absurd rfl c
            · exact c2
          obtain ⟨hn, hS'⟩ := hS.add hmn hv e hpos
          rw [(hS.2.2.1 m hmn).2.1]
          rintro _ rfl
          rw [nI_clamp (show n < 2 ^ 31 by omega)]
          refine ⟨vp_in_nI hn (by omega), ?_⟩
          rintro _ rfl _ rfl _ rfl
          rw [nI_1, nI_1]
          have em : uN q n v m = q m := if_neg (by omega)
          have e71 : (sA (sA N' 23 v (nI (q m))) 24 n (nI v)).1 23 = upd (N'.1 23) v (nI (q m)) := by rw [sA_1 23 (by decide), sA_s]
          have e72 : (sA (sA N' 23 v (nI (q m))) 24 n (nI v)).1 24 = upd (N'.1 24) n (nI v) := by rw [sA_s, sA_1 24 (by decide)]
          have keep : ∀ x, ¬ N'.1 23 x = -1 → ¬ upd (N'.1 23) v (nI (q m)) x = -1 := by
            intro x hx
            by_cases e2 : x = v
            · subst e2
              exact absurd e hx
            · rw [pk_un e2]
              exact hx
          have ihr := ih (n + 1) (uN q n v) (sA (sA N' 23 v (nI (q m))) 24 n (nI v)) (by omega) ((hX.p23 _ _).p24 _ _) (by rw [e71, e72]; exact hS')
          rw [em] at ihr
          refine ihr (fun i hi hin x hx hG => ?_) (fun x hx hG => ?_)
          · rw [e71]
            rw [show uN q n v i = q i from if_neg (by omega)] at hG
            exact keep x (hC i hi (by omega) x hx hG)
          · rw [e71]
            by_cases e2 : x = v
            · subst e2
              rw [pk_us]
              exact nI_nm1 (by omega)
            · exact keep x (hr x (by omega) hG)
        · rintro _ rfl
          rw [nI_1]
          refine ih n q N' hmn hX hS hC (fun x hx hG => ?_)
          by_cases e2 : x = v
          · subst e2
            have := nI_is (k := 0) (by omega) (by decide) c
            omega
          · exact hr x (by omega) hG
  have done : ∀ N' n q, WR N N' → BS (N'.1 23) (N'.1 24) (gR R) s n q → ¬ N'.1 23 t = -1 → post 1 N' := by
    intro N' n q hX hS hc
    obtain ⟨j, hj, ej⟩ := hS.2.2.2.2.1 t ht hc
    exact h1 N' n q j hX hS hj ej
  have outer : ∀ d m, m + d = 34 → ∀ n q N', WR N N' → BS (N'.1 23) (N'.1 24) (gR R) s n q → CLO (N'.1 23) (gR R) q m n → R43 (nI n) (nI m) N' := by
    intro d
    induction d with
    | zero =>
      intro m hm n q N' hX hS hC
      have hn : n ≤ 34 := by have := hS.2.2.2.2.2.2; omega
      apply h43
      unfold qX7_isWay_b43
      rw [nI_clamp (show t < 2 ^ 31 by omega)]
      exact ⟨fun _ => ⟨vp_in_nI ht (by omega), fun e => h0 N' (zOf (N'.1 23)) hX (hS.closed hC (by omega)) hS.z0 (decide_eq_false (fun c => c e)), fun e => done N' n q hX hS e⟩, fun c => absurd (nI_le (show n ≤ m by omega) (by omega)) c⟩
    | succ d ih =>
      intro m hm n q N' hX hS hC
      have hn : n ≤ 34 := by have := hS.2.2.2.2.2.2; omega
      apply h43
      unfold qX7_isWay_b43
      rw [nI_leI (by omega) (by omega), nI_clamp (show t < 2 ^ 31 by omega)]
      refine ⟨fun c => ⟨vp_in_nI ht (by omega), fun e => h0 N' (zOf (N'.1 23)) hX (hS.closed hC c) hS.z0 (decide_eq_false (fun c => c e)), fun e => done N' n q hX hS e⟩, fun c => ⟨vp_in_nI ht (by omega), fun e => ⟨vp_in_nI ht (by omega), fun e2 => absurd e2 e, fun e2 => done N' n q hX hS e2⟩, fun e => ?_⟩⟩
      exact inner m (by omega) (fun n q N' hX hS hC => ih (m + 1) (by omega) n q N' hX hS hC) 0 (by omega) n q N' (by omega) hX hS hC (fun x hx => absurd hx (by omega))
  have fill : ∀ i, i ≤ 34 → ∀ N', WR N N' → (∀ x, x < i → N'.1 23 x = -1) → R2 (nI i) N' := by
    refine up_to (fun N' hX hz => ?_) (fun i hi ih N' hX hz => ?_)
    · apply h2
      unfold qX7_isWay_b2
      rw [nI_clamp (show s < 2 ^ 31 by omega)]
      refine ⟨fun _ => ⟨vp_in_nI hs (by omega), ?_⟩, fun c => absurd (nI_le (Nat.le_refl _) (by omega)) c⟩
      rintro _ rfl
      refine ⟨vp_in_nI (n := 0) (by omega) (by omega), ?_⟩
      rintro _ rfl
      rw [show (0 : Int32).toNatClampNeg = 0 from rfl]
      have e71 : (sA (sA N' 23 s (nI s)) 24 0 (nI s)).1 23 = upd (N'.1 23) s (nI s) := by rw [sA_1 23 (by decide), sA_s]
      refine outer 34 0 (by omega) 1 (fun _ => s) _ ((hX.p23 _ _).p24 _ _) (BS.init hs ?_ (fun v hv hv2 => ?_) ?_) (fun i hi => absurd hi (by omega))
      · rw [e71, pk_us]
      · rw [e71, pk_un hv2]
        exact hz v hv
      · rw [sA_g, if_pos ⟨rfl, rfl⟩]
    · apply h2
      unfold qX7_isWay_b2
      refine ⟨fun c => absurd c (nI_ge hi (by omega)), fun _ => ⟨vp_in_nI hi (by omega), ?_⟩⟩
      rw [nI_clamp (show i < 2 ^ 31 by omega)]
      rintro _ rfl _ rfl
      rw [nI_1]
      refine ih _ (hX.p23 _ _) (fun x hx => ?_)
      rw [sA_g]
      by_cases c : x = i
      · rw [if_pos ⟨rfl, c⟩]
      · rw [if_neg (fun d => c d.2)]
        exact hz x (by omega)
  exact fill 0 (Nat.zero_le _) N (WR.rf N) (fun x hx => absurd hx (by omega))
/-- ways by the reference's search are ways -/
theorem gR_le (R : Nat → Nat → Nat) (u v : Nat) : gR R u v ≤ R u v := by
  unfold gR
  by_cases c : v = 33
  · rw [if_pos c]
    exact Nat.zero_le _
  · rw [if_neg c]
    exact Nat.le_refl _
theorem WAY.g {R : Nat → Nat → Nat} {s t L : Nat} {p : Nat → Nat} (h : WAY (gR R) s t L p) : WAY R s t L p := ⟨h.1, h.2.1, h.2.2.1, h.2.2.2.1, fun k hk => Nat.lt_of_lt_of_le (h.2.2.2.2 k hk) (gR_le R _ _)⟩
theorem gR_cut {C R : Nat → Nat → Nat} {rs : Nat → Nat} {s t : Nat} {Z : Nat → Bool} (hM : MX C rs R) (hz : ∀ u v, u < 34 → v < 34 → Z u = true → Z v = false → gR R u v = 0) (hs : Z s = true) (ht : Z t = false) (hne : t ≠ 33) (hc : s = 33 ∨ rs 33 = 0) : CUT R s t := by
  refine ⟨fun u => decide (Z u = true ∨ u = 33), fun u v hu hv h1 h2 => ?_, decide_eq_true (Or.inl hs), decide_eq_false (fun c => ?_)⟩
  · have h1' := of_decide_eq_true h1
    have h2' := of_decide_eq_false h2
    have hv33 : v ≠ 33 := fun e => h2' (Or.inr e)
    have hZv : Z v = false := by
      cases hq : Z v with
      | false => rfl
      | true => exact absurd (Or.inl hq) h2'
    have go : ∀ w, w < 34 → Z w = true → R w v = 0 := by
      intro w hw hZw
      have := hz w v hw hv hZw hZv
      unfold gR at this
      rw [if_neg hv33] at this
      exact this
    rcases h1' with h1' | h1'
    · exact go u hu h1'
    · subst h1'
      rcases hc with e | e
      · exact go 33 hu (by rw [← e]; exact hs)
      · have h3 := hM.2 33 hu
        have h4 := sm_in (f := R 33) (k := v) 34 hv
        omega
  · rcases c with c | c
    · rw [ht] at c
      exact absurd c (by decide)
    · exact hne c
theorem r_goAlong {A : Abs} {lf : Nat → Nat} {k : Nat} {Y : Nat → Nat} {N : Mem} {R : Nat → Nat → Nat} {rs : Nat → Nat} {s t L most : Nat} {p : Nat → Nat} (hP : PR A) (hl : ∀ w, lf w ≤ 1200) (hN : PN A N) (hM : MX (CG A lf k 33 32) rs R) (hQ : QR A lf k Y N R) (hW : WAY (gR R) s t L p) (hc : ∀ i, i < L → N.1 23 (p i) = nI (p (i + 1)) ∧ p i ≠ s) (h1 : 1 ≤ most) (hmo : most ≤ 1000000) {post : Int32 → Mem → Prop}
    (h : ∀ N' d, 1 ≤ d → d ≤ most → (∀ i, i < L → d ≤ R (p (i + 1)) (p i)) → QX N N' → QR A lf k Y N' (gone R p d L) → post (nI d) N') : qX7_goAlong (nI s) (nI t) (nI most) N post := by
  intro R6 R47 h6 h47
  have hB := CG_CB hP hl k 33 32
  have hW' := hW.g
  have hs : s < 34 := by rw [← hW.2.1]; exact hW.2.2.1 L (Nat.le_refl _)
  have p33 : ∀ i, i < L → p i ≠ 33 := by
    intro i hi e
    have := hW.2.2.2.2 i hi
    unfold gR at this
    rw [if_pos e] at this
    omega
  have second : ∀ d, 1 ≤ d → d ≤ most → (∀ i, i < L → d ≤ R (p (i + 1)) (p i)) → ∀ i, i ≤ L → ∀ N', QX N N' → N'.1 23 = N.1 23 → QR A lf k Y N' (gone R p d i) → R47 (nI d) (nI (p i)) N' := by
    intro d hd1 hd2 hdR
    refine up_to (fun N' hX h23 hQ' => ?_) (fun i hi ih N' hX h23 hQ' => ?_)
    · apply h47
      rw [hW.2.1]
      exact ⟨fun _ => h N' d hd1 hd2 hdR hX hQ', fun c => absurd rfl c⟩
    · have p1 := hW.2.2.1 i (by omega)
      have p2 := hW.2.2.1 (i + 1) (by omega)
      have e := gone_e (d := d) hW' hi
      apply h47
      unfold qX7_goAlong_b47
      rw [nI_clamp (show p i < 2 ^ 31 by omega), h23, (hc i hi).1]
      refine ⟨fun c => absurd (nI_is (by omega) (by omega) c) (hc i hi).2, fun _ => ⟨vp_in_nI p1 (by omega), ?_⟩⟩
      refine r_moves (rs := fun u => sm (gone R p d i u) 34) hP ⟨gone_sym hW' hdR hM.1 i (by omega), fun _ _ => rfl⟩ hQ' p2 p1 ?_ (by rw [e]; exact hdR i hi) (by omega) (fun N2 hX2 h232 hQ2 => ?_)
      · unfold gR
        rw [if_neg (p33 i hi), e]
        exact hW'.2.2.2.2 i hi
      · refine ⟨vp_in_nI p1 (by omega), ?_⟩
        rw [h232, h23, (hc i hi).1]
        rintro _ rfl
        exact ih N2 (hX.tr hX2) (h232.trans h23) hQ2
  have first : ∀ i, i ≤ L → ∀ a, 1 ≤ a → a ≤ most → (∀ j, j < i → a ≤ R (p (j + 1)) (p j)) → R6 (nI a) (nI (p i)) N := by
    refine up_to (fun a ha1 ha2 haR => ?_) (fun i hi ih a ha1 ha2 haR => ?_)
    · apply h6
      rw [hW.2.1]
      have q := second a ha1 ha2 haR 0 (Nat.zero_le _) N (QX.rf N) rfl hQ
      rw [hW.1] at q
      exact ⟨fun _ => q, fun c => absurd rfl c⟩
    · have p1 := hW.2.2.1 i (by omega)
      have p2 := hW.2.2.1 (i + 1) (by omega)
      have hb := hM.le hB p2 p1
      have hpos := hW'.2.2.2.2 i hi
      have eg : gR R (p (i + 1)) (p i) = R (p (i + 1)) (p i) := if_neg (p33 i hi)
      apply h6
      unfold qX7_goAlong_b6
      rw [nI_clamp (show p i < 2 ^ 31 by omega), (hc i hi).1]
      refine ⟨fun c => absurd (nI_is (by omega) (by omega) c) (hc i hi).2, fun _ => ⟨vp_in_nI p1 (by omega), r_goes hP hl hN hM hQ p2 p1 ?_⟩⟩
      rw [eg, jmin_nI (by omega) (by omega)]
      rintro _ rfl
      refine ⟨vp_in_nI p1 (by omega), ?_⟩
      rw [(hc i hi).1]
      rintro _ rfl
      refine ih _ (by omega) (by omega) (fun j hj => ?_)
      by_cases c : j = i
      · subst c
        omega
      · have := haR j (by omega)
        omega
  have q := first 0 (Nat.zero_le _) most h1 (Nat.le_refl _) (fun j hj => absurd hj (by omega))
  rw [hW.1] at q
  exact q

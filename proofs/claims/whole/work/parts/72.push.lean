/-! FLOWS: the class finds ways and sends along them -/
def CB (C : Nat → Nat → Nat) : Prop := ∀ u v, C u v ≤ 10000
def FM (M : Mem) (R : Nat → Nat → Nat) : Prop := ∀ u v, u < 34 → v < 34 → M.1 (37 + u) v = nI (R u v)
def FX (M M' : Mem) : Prop := M'.2 = M.2 ∧ ∀ k, (k < 37 ∨ 72 < k) → M'.1 k = M.1 k
theorem FX.rf (M : Mem) : FX M M := ⟨rfl, fun _ _ => rfl⟩
theorem FX.tr {M M' M2 : Mem} (h : FX M M') (k : FX M' M2) : FX M M2 := ⟨k.1.trans h.1, fun a b => (k.2 a b).trans (h.2 a b)⟩
def WX (M M' : Mem) : Prop := M'.2 = M.2 ∧ ∀ k, k ≠ 71 → k ≠ 72 → M'.1 k = M.1 k
theorem WX.rf (M : Mem) : WX M M := ⟨rfl, fun _ _ _ => rfl⟩
theorem WX.fx {M M' : Mem} (h : WX M M') : FX M M' := ⟨h.1, fun k hk => h.2 k (by omega) (by omega)⟩
theorem WX.fm {M M' : Mem} {R : Nat → Nat → Nat} (h : WX M M') (hF : FM M R) : FM M' R := fun u v hu hv => by
  rw [h.2 (37 + u) (by omega) (by omega)]
  exact hF u v hu hv
theorem WX.p71 {M M' : Mem} (h : WX M M') (j : Nat) (v : Int32) : WX M (sA M' 71 j v) := ⟨h.1, fun k a b => by rw [sA_1 k a]; exact h.2 k a b⟩
theorem WX.p72 {M M' : Mem} (h : WX M M') (j : Nat) (v : Int32) : WX M (sA M' 72 j v) := ⟨h.1, fun k a b => by rw [sA_1 k b]; exact h.2 k a b⟩
theorem MX.le {C R : Nat → Nat → Nat} {rs : Nat → Nat} (hM : MX C rs R) (hB : CB C) {u v : Nat} (hu : u < 34) (hv : v < 34) : R u v ≤ 10000 := by
  have := hM.1 u v hu hv
  have := hB u v
  omega
theorem s_findWay {M : Mem} {R C : Nat → Nat → Nat} {rs : Nat → Nat} {s t : Nat} (hM : MX C rs R) (hB : CB C) (hF : FM M R) (h35 : M.1 35 0 = 34) (hs : s < 34) (ht : t < 34) (hne : s ≠ t) {post : Int32 → Mem → Prop}
    (h0 : ∀ M' (Z : Nat → Bool), WX M M' → (∀ u v, u < 34 → v < 34 → Z u = true → Z v = false → R u v = 0) → Z s = true → Z t = false → post 0 M')
    (h1 : ∀ M' n q j, WX M M' → BS (M'.1 71) (M'.1 72) R s n q → j < n → q j = t → post 1 M') : qX0_findWay (nI s) (nI t) M post := by
  intro R27 R54 h27 h54
  have hp : ∀ {M'}, WX M M' → M'.1 35 0 = nI 34 := fun hX => by rw [hX.2 35 (by decide) (by decide)]; exact h35
  -- one row of the table, from place v on
  have inner : ∀ m, m < 34 → (∀ n q M', WX M M' → BS (M'.1 71) (M'.1 72) R s n q → CLO (M'.1 71) R q (m + 1) n → M'.1 71 t = -1 → R27 (nI n) (nI (m + 1)) M') → ∀ v, v ≤ 34 → ∀ n q M', m < n → WX M M' → BS (M'.1 71) (M'.1 72) R s n q → CLO (M'.1 71) R q m n → (∀ x, x < v → 0 < R (q m) x → ¬ M'.1 71 x = -1) → R54 (nI n) (nI m) (nI (q m)) (nI v) M' := by
    intro m hm hnext
    refine up_to (fun n q M' hmn hX hS hC hr => ?_) (fun v hv ih n q M' hmn hX hS hC hr => ?_)
    · apply h54
      unfold qX0_findWay_b54
      rw [hp hX, nI_clamp (show t < 2 ^ 31 by omega)]
      refine ⟨fun _ => ⟨vp_in_nI ht (by omega), fun e => ?_, fun e => ?_⟩, fun c => absurd (nI_le (Nat.le_refl _) (by omega)) c⟩
      · rintro _ rfl
        rw [nI_1]
        refine hnext n q M' hX hS (fun i hi hin x hx hG => ?_) e
        by_cases c : i = m
        · subst c
          exact hr x hx hG
        · exact hC i (by omega) hin x hx hG
      · obtain ⟨j, hj, ej⟩ := hS.2.2.2.2.1 t ht e
        exact h1 M' n q j hX hS hj ej
    · have hqm := (hS.2.2.1 m hmn).1
      have hb := hM.le hB hqm hv
      apply h54
      unfold qX0_findWay_b54
      rw [hp hX, nI_clamp (show q m < 2 ^ 31 by omega), nI_clamp (show v < 2 ^ 31 by omega), hX.fm hF (q m) v hqm hv]
      refine ⟨fun c => absurd c (nI_ge hv (by omega)), fun _ => ⟨vp_in_nI hqm (by omega), vp_in_nI hv (by omega), fun c => ?_, fun c => ⟨vp_in_nI hv (by omega), fun e => ?_, fun e => ⟨vp_in_nI hv (by omega), ?_⟩⟩⟩⟩
      · rintro _ rfl
        rw [nI_1]
        rw [show (0 : Int32) = nI 0 from rfl, nI_leI (by omega) (by omega)] at c
        refine ih n q M' hmn hX hS hC (fun x hx hG => ?_)
        by_cases e : x = v
        · subst e
          omega
        · exact hr x (by omega) hG
      · rintro _ rfl
        rw [nI_1]
        refine ih n q M' hmn hX hS hC (fun x hx hG => ?_)
        by_cases e2 : x = v
        · subst e2
          exact e
        · exact hr x (by omega) hG
      · rw [show (0 : Int32) = nI 0 from rfl, nI_leI (by omega) (by omega)] at c
        obtain ⟨hn, hS'⟩ := hS.add hmn hv e (by omega)
        rintro _ rfl _ rfl
        rw [nI_clamp (show n < 2 ^ 31 by omega)]
        refine ⟨vp_in_nI hn (by omega), ?_⟩
        rintro _ rfl _ rfl
        rw [nI_1, nI_1]
        have em : uN q n v m = q m := if_neg (by omega)
        have e71 : (sA (sA M' 71 v (nI (q m))) 72 n (nI v)).1 71 = upd (M'.1 71) v (nI (q m)) := by rw [sA_1 71 (by decide), sA_s]
        have e72 : (sA (sA M' 71 v (nI (q m))) 72 n (nI v)).1 72 = upd (M'.1 72) n (nI v) := by rw [sA_s, sA_1 72 (by decide)]
        have keep : ∀ x, ¬ M'.1 71 x = -1 → ¬ upd (M'.1 71) v (nI (q m)) x = -1 := by
          intro x hx
          by_cases e2 : x = v
          · subst e2
            exact absurd e hx
          · rw [pk_un e2]
            exact hx
        have ihr := ih (n + 1) (uN q n v) (sA (sA M' 71 v (nI (q m))) 72 n (nI v)) (by omega) ((hX.p71 _ _).p72 _ _) (by rw [e71, e72]; exact hS')
        rw [em] at ihr
        refine ihr (fun i hi hin x hx hG => ?_) (fun x hx hG => ?_)
        · rw [e71]
          rw [show uN q n v i = q i from if_neg (by omega)] at hG
          exact keep x (hC i hi (by omega) x hx hG)
        · rw [e71]
          by_cases e2 : x = v
          · subst e2
            rw [pk_us]
            exact nI_nm1 (by omega)
          · exact keep x (hr x (by omega) hG)
  have outer : ∀ d m, m + d = 34 → ∀ n q M', WX M M' → BS (M'.1 71) (M'.1 72) R s n q → CLO (M'.1 71) R q m n → M'.1 71 t = -1 → R27 (nI n) (nI m) M' := by
    intro d
    induction d with
    | zero =>
      intro m hm n q M' hX hS hC ht1
      have hn : n ≤ 34 := by have := hS.2.2.2.2.2.2; omega
      apply h27
      exact ⟨fun _ => h0 M' (zOf (M'.1 71)) hX (hS.closed hC (by omega)) hS.z0 (decide_eq_false (fun c => c ht1)), fun c => absurd (nI_le (show n ≤ m by omega) (by omega)) c⟩
    | succ d ih =>
      intro m hm n q M' hX hS hC ht1
      have hn : n ≤ 34 := by have := hS.2.2.2.2.2.2; omega
      apply h27
      unfold qX0_findWay_b27
      rw [nI_leI (by omega) (by omega), hp hX, nI_leI (by omega) (by omega)]
      refine ⟨fun c => h0 M' (zOf (M'.1 71)) hX (hS.closed hC c) hS.z0 (decide_eq_false (fun c => c ht1)), fun c => ⟨fun c2 => absurd c2 (by omega), fun _ => ⟨vp_in_nI (by omega) (by omega), ?_⟩⟩⟩
      rw [nI_clamp (show m < 2 ^ 31 by omega), (hS.2.2.1 m (by omega)).2.1]
      rintro _ rfl
      exact inner m (by omega) (fun n q M' hX hS hC ht1 => ih (m + 1) (by omega) n q M' hX hS hC ht1) 0 (by omega) n q M' (by omega) hX hS hC (fun x hx => absurd hx (by omega))
  refine s_fill (by decide) ?_
  rw [nI_clamp (show s < 2 ^ 31 by omega)]
  refine ⟨vp_in_nI hs (by omega), ?_⟩
  rintro _ rfl
  refine ⟨vp_in_nI (n := 0) (by omega) (by omega), ?_⟩
  rintro _ rfl
  rw [show (0 : Int32).toNatClampNeg = 0 from rfl]
  have hX : WX M (sA (sA (sAr M 71 (fun j => if j < 34 then -1 else M.1 71 j)) 71 s (nI s)) 72 0 (nI s)) := by
    have e : WX M (sAr M 71 (fun j => if j < 34 then -1 else M.1 71 j)) := ⟨rfl, fun k a b => by rw [sAr_g, if_neg a]⟩
    exact (e.p71 _ _).p72 _ _
  have e71 : (sA (sA (sAr M 71 (fun j => if j < 34 then -1 else M.1 71 j)) 71 s (nI s)) 72 0 (nI s)).1 71 = upd (fun j => if j < 34 then -1 else M.1 71 j) s (nI s) := by rw [sA_1 71 (by decide), sA_s, sAr_g, if_pos rfl]
  have un : ∀ v, v < 34 → v ≠ s → upd (fun j => if j < 34 then -1 else M.1 71 j) s (nI s) v = -1 := fun v hv hv2 => by rw [pk_un hv2]; exact if_pos hv
  refine outer 34 0 (by omega) 1 (fun _ => s) _ hX (BS.init hs ?_ (fun v hv hv2 => ?_) ?_) (fun i hi => absurd hi (by omega)) ?_
  · rw [e71, pk_us]
  · rw [e71]
    exact un v hv hv2
  · show (sA _ 72 0 (nI s)).1 72 0 = nI s
    rw [sA_g, if_pos ⟨rfl, rfl⟩]
  · rw [e71]
    exact un t ht (Ne.symm hne)
/-- the first send-off: how much the way bears -/
theorem s_send {M : Mem} {R C : Nat → Nat → Nat} {rs : Nat → Nat} {s t L most : Nat} {p : Nat → Nat} (hM : MX C rs R) (hB : CB C) (hF : FM M R) (h35 : M.1 35 0 = 34) (hW : WAY R s t L p) (hL : L ≤ 33) (hc : ∀ k, k < L → M.1 71 (p k) = nI (p (k + 1)) ∧ p k ≠ s) (h1 : 1 ≤ most) (hmo : most ≤ 1000000) {post : Int32 → Mem → Prop}
    (h : ∀ M' d, 1 ≤ d → d ≤ most → (∀ k, k < L → d ≤ R (p (k + 1)) (p k)) → FX M M' → FM M' (gone R p d L) → post (nI d) M') : qX0_send (nI s) (nI t) (nI most) M post := by
  intro R9 R67 h9 h67
  have h35' : M.1 35 0 = nI 34 := h35
  have hs : s < 34 := by rw [← hW.2.1]; exact hW.2.2.1 L (Nat.le_refl _)
  have second : ∀ d, 1 ≤ d → d ≤ most → (∀ k, k < L → d ≤ R (p (k + 1)) (p k)) → ∀ k, k ≤ L → ∀ M', FX M M' → M'.1 71 = M.1 71 → FM M' (gone R p d k) → R67 (nI d) (nI (p k)) (nI k) M' := by
    intro d hd1 hd2 hdR
    refine up_to (fun M' hX h71 hF' => ?_) (fun k hk ih M' hX h71 hF' => ?_)
    · apply h67
      unfold qX0_send_b67
      rw [hX.2 35 (by omega), h35', hW.2.1]
      exact ⟨fun c => absurd c (nI_ge (by omega) (by omega)), fun _ => ⟨fun _ => h M' d hd1 hd2 hdR hX hF', fun c => absurd rfl c⟩⟩
    · have p1 := hW.2.2.1 k (by omega)
      have p2 := hW.2.2.1 (k + 1) (by omega)
      have ne := hW.2.2.2.1 k (k + 1) (by omega) (by omega)
      have hb := hM.le hB p2 p1
      have hdk := hdR k hk
      have e := gone_e (d := d) hW hk
      have e2 : gone R p d k (p k) (p (k + 1)) + gone R p d k (p (k + 1)) (p k) = C (p k) (p (k + 1)) := gone_sym hW hdR hM.1 k (by omega) _ _ p1 p2
      have e3 := hB (p k) (p (k + 1))
      apply h67
      unfold qX0_send_b67
      rw [hX.2 35 (by omega), h35', h71, nI_clamp (show p k < 2 ^ 31 by omega), (hc k hk).1, nI_clamp (show p (k + 1) < 2 ^ 31 by omega), hF' _ _ p2 p1, e, pk_sub hdk]
      refine ⟨fun c => absurd c (nI_ge (by omega) (by omega)), fun _ => ⟨fun c => absurd (nI_is (by omega) (by omega) c) (hc k hk).2, fun _ => ⟨vp_in_nI p1 (by omega), vp_in_nI p2 (by omega), vp_in_nI p1 (by omega), vp_in_nI p1 (by omega), ?_⟩⟩⟩
      rintro _ rfl
      have f71 : (sA M' (37 + p (k + 1)) (p k) (nI (R (p (k + 1)) (p k) - d))).1 71 = M.1 71 := by rw [sA_1 71 (by omega), h71]
      have fr : (sA M' (37 + p (k + 1)) (p k) (nI (R (p (k + 1)) (p k) - d))).1 (37 + p k) (p (k + 1)) = nI (gone R p d k (p k) (p (k + 1))) := by
        rw [sA_g, if_neg (by omega)]
        exact hF' _ _ p1 p2
      rw [f71, (hc k hk).1, nI_clamp (show p (k + 1) < 2 ^ 31 by omega), fr, nI_add]
      refine ⟨vp_in_nI p1 (by omega), vp_in_nI p1 (by omega), vp_in_nI p2 (by omega), vp_in_nI p2 (by omega), ?_⟩
      rintro _ rfl
      refine ⟨vp_in_nI p1 (by omega), ?_⟩
      have f71b : (sA (sA M' (37 + p (k + 1)) (p k) (nI (R (p (k + 1)) (p k) - d))) (37 + p k) (p (k + 1)) (nI (gone R p d k (p k) (p (k + 1)) + d))).1 71 = M.1 71 := by rw [sA_1 71 (by omega), f71]
      rw [f71b, (hc k hk).1]
      rintro _ rfl _ rfl
      rw [nI_1]
      refine ih _ ⟨hX.1, fun x hx => ?_⟩ f71b (fun u v hu hv => ?_)
      · rw [sA_1 x (by omega), sA_1 x (by omega)]
        exact hX.2 x hx
      · show _ = nI (up2 (gone R p d k) (p (k + 1)) (p k) d u v)
        unfold up2
        rw [sA_g, sA_g]
        by_cases c1 : u = p (k + 1) ∧ v = p k
        · rw [if_neg (fun c => ne (by omega)), if_pos ⟨by omega, c1.2⟩, if_pos c1, e]
        · by_cases c2 : u = p k ∧ v = p (k + 1)
          · rw [if_pos ⟨by omega, c2.2⟩, if_neg c1, if_pos c2]
          · rw [if_neg (fun c => c2 ⟨by omega, c.2⟩), if_neg (fun c => c1 ⟨by omega, c.2⟩), if_neg c1, if_neg c2]
            exact hF' u v hu hv
  have first : ∀ k, k ≤ L → ∀ a, 1 ≤ a → a ≤ most → (∀ i, i < k → a ≤ R (p (i + 1)) (p i)) → R9 (nI a) (nI (p k)) (nI k) M := by
    refine up_to (fun a ha1 ha2 haR => ?_) (fun k hk ih a ha1 ha2 haR => ?_)
    · apply h9
      unfold qX0_send_b9
      rw [h35', hW.2.1]
      have q := second a ha1 ha2 haR 0 (Nat.zero_le _) M (FX.rf M) rfl hF
      rw [hW.1] at q
      exact ⟨fun c => absurd c (nI_ge (by omega) (by omega)), fun _ => ⟨fun _ => q, fun c => absurd rfl c⟩⟩
    · have p1 := hW.2.2.1 k (by omega)
      have p2 := hW.2.2.1 (k + 1) (by omega)
      have hb := hM.le hB p2 p1
      have hpos := hW.2.2.2.2 k hk
      apply h9
      unfold qX0_send_b9
      rw [h35', nI_clamp (show p k < 2 ^ 31 by omega), (hc k hk).1, nI_clamp (show p (k + 1) < 2 ^ 31 by omega), hF _ _ p2 p1, jmin_nI (by omega) (by omega)]
      refine ⟨fun c => absurd c (nI_ge (by omega) (by omega)), fun _ => ⟨fun c => absurd (nI_is (by omega) (by omega) c) (hc k hk).2, fun _ => ⟨vp_in_nI p1 (by omega), vp_in_nI p2 (by omega), vp_in_nI p1 (by omega), ?_⟩⟩⟩
      rintro _ rfl
      refine ⟨vp_in_nI p1 (by omega), ?_⟩
      rintro _ rfl _ rfl
      rw [nI_1]
      refine ih _ (by omega) (by omega) (fun i hi => ?_)
      by_cases c : i = k
      · subst c
        omega
      · have := haR i (by omega)
        omega
  have q := first 0 (Nat.zero_le _) most h1 (Nat.le_refl _) (fun i hi => absurd hi (by omega))
  rw [hW.1] at q
  exact q
/-- no way is left from s to t -/
def CUT (R : Nat → Nat → Nat) (s t : Nat) : Prop := ∃ Z : Nat → Bool, (∀ u v, u < 34 → v < 34 → Z u = true → Z v = false → R u v = 0) ∧ Z s = true ∧ Z t = false
theorem s_push {M : Mem} {R C : Nat → Nat → Nat} {rs : Nat → Nat} {s t most : Nat} (hM : MX C rs R) (hB : CB C) (hF : FM M R) (h35 : M.1 35 0 = 34) (hs : s < 34) (ht : t < 34) (hne : s ≠ t) (hmo : most < 1000000) {post : Int32 → Mem → Prop}
    (h : ∀ M' R' rs' d, FX M M' → FM M' R' → MX C rs' R' → RW rs rs' s t d → d ≤ most → (d = most ∨ CUT R' s t) → post (nI d) M') : qX0_push (nI s) (nI t) (nI most) M post := by
  intro R6 h6
  have key : ∀ e d, d + e = most → ∀ r, r ≤ d → ∀ M' R' rs', FX M M' → FM M' R' → MX C rs' R' → RW rs rs' s t d → R6 (nI d) (nI r) M' := by
    intro e
    induction e using Nat.strongRecOn with
    | ind e ih =>
      intro d hd r hr M' R' rs' hX hF' hM' hW'
      apply h6
      unfold qX0_push_b6
      rw [show (1000000 : Int32) = nI 1000000 from rfl, nI_leI (by omega) (by omega), nI_leI (by omega) (by omega)]
      refine ⟨fun c => absurd c (by omega), fun _ => ⟨fun c => h M' R' rs' d hX hF' hM' hW' (by omega) (Or.inl (by omega)), fun c => ?_⟩⟩
      have h35' : M'.1 35 0 = 34 := by rw [hX.2 35 (by omega)]; exact h35
      refine s_findWay hM' hB hF' h35' hs ht hne (fun M2 Z hX2 hZ hZs hZt => b0_e (h M2 R' rs' d (hX.tr hX2.fx) (hX2.fm hF') hM' hW' (by omega) (Or.inr ⟨Z, hZ, hZs, hZt⟩))) (fun M2 n q j hX2 hS hj ej => b1_e ?_)
      obtain ⟨L, p, hw, hL, _, hc⟩ := hS.way j hj
      have hn : n ≤ 34 := by have := hS.2.2.2.2.2.2; omega
      rw [ej] at hw
      rw [pk_sub (by omega)]
      refine s_send hM' hB (hX2.fm hF') (by rw [hX2.2 35 (by decide) (by decide)]; exact h35') hw (by omega) hc (by omega) (by omega) (fun M3 d3 g1 g2 g3 hX3 hF3 => ?_)
      rintro _ rfl _ rfl
      rw [nI_add, nI_1]
      obtain ⟨rs3, hM3, hW3⟩ := gone_MX hw g3 hM'
      exact ih (most - (d + d3)) (by omega) (d + d3) (by omega) (r + 1) (by omega) M3 _ rs3 ((hX.tr hX2.fx).tr hX3) hF3 hM3 (hW'.tr hW3)
  exact key most 0 (by omega) 0 (Nat.le_refl _) M R rs (FX.rf M) hF hM (RW.rf rs s t)

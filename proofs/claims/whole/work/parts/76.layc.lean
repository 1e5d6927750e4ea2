/-! THE CLASS LAYS ITS PIPES -/
def PF1 (M M' : Mem) : Prop := M'.2 = M.2 ∧ (∀ k, (k < 11 ∨ (31 ≤ k ∧ k ≤ 36) ∨ 73 ≤ k) → M'.1 k = M.1 k) ∧ M'.1 21 0 = M.1 21 0
theorem PF1.rf (M : Mem) : PF1 M M := ⟨rfl, fun _ _ => rfl, rfl⟩
theorem PF1.tr {M M' M2 : Mem} (h : PF1 M M') (k : PF1 M' M2) : PF1 M M2 := ⟨k.1.trans h.1, fun a b => (k.2.1 a b).trans (h.2.1 a b), k.2.2.trans h.2.2⟩
theorem FX.pf {M M' : Mem} (h : FX M M') : PF1 M M' := ⟨h.1, fun k hk => h.2 k (by omega), by rw [h.2 21 (by omega)]⟩
theorem EqT.pf {M M' : Mem} (h : EqT M M') : PF1 M M' := ⟨h.1, fun k hk => funext fun j => h.2 k j (by omega) (by omega), h.2 21 0 (by omega) (by omega)⟩
theorem PF1.p21 (M : Mem) {j : Nat} (v : Int32) (h : j ≠ 0) : PF1 M (sA M 21 j v) := ⟨rfl, fun k hk => sA_1 k (by omega), by rw [sA_g, if_neg (by omega)]⟩
theorem PF1.p23 (M : Mem) {b : Nat} (j : Nat) (v : Int32) (h : b < 8) : PF1 M (sA M (23 + b) j v) := ⟨rfl, fun k hk => sA_1 k (by omega), by rw [sA_1 21 (by omega)]⟩
theorem FX.hc {A : Abs} {M M' : Mem} (h : FX M M') (hC : HC A M) : HC A M' := hC.sh (fun k _ _ => h.2 k (by omega))
theorem PF1.pc0 {A : Abs} {M M' : Mem} (h : PF1 M M') (hP : PC0 A M) : PC0 A M' := by
  unfold PC0
  rw [h.2.2, h.2.1 35 (by omega), h.2.1 31 (by omega), h.2.1 32 (by omega), h.2.1 33 (by omega), h.2.1 34 (by omega)]
  exact hP
/-- rows of the table while it is laid: from S, to hours, to T -/
def FP (M : Mem) (f : Nat → Nat) (g : Nat → Nat → Nat) (l : Nat → Nat) : Prop := (∀ v, v < 8 → M.1 69 v = nI (f v)) ∧ (∀ b w, b < 8 → w < 24 → M.1 (37 + b) (8 + w) = nI (g b w)) ∧ (∀ w, w < 24 → M.1 (45 + w) 33 = nI (l w)) ∧ ∀ u v, u < 34 → v < 34 → ¬ (u = 32 ∧ v < 8) → ¬ (u < 8 ∧ 8 ≤ v ∧ v < 32) → ¬ (8 ≤ u ∧ u < 32 ∧ v = 33) → M.1 (37 + u) v = 0
def R0 (A : Abs) (lf : Nat → Nat) (S T : Nat) : Nat → Nat → Nat := mkR S T (wkB A) (fun _ => 0) (cpK A 0) (fun _ _ => 0) lf (fun _ => 0)
theorem ST1 : ST 32 33 := Or.inl ⟨rfl, rfl⟩
theorem ST2 : ST 33 32 := Or.inr ⟨rfl, rfl⟩
theorem FP.fm {A : Abs} {lf : Nat → Nat} {M : Mem} {f : Nat → Nat} {g : Nat → Nat → Nat} {l : Nat → Nat} (h : FP M f g l) (h1 : ∀ v, v < 8 → f v = wkB A v) (h2 : ∀ b w, b < 8 → w < 24 → g b w = cpK A 0 b w) (h3 : ∀ w, w < 24 → l w = lf w) : FM M (R0 A lf 32 33) := by
  obtain ⟨p1, p2, p3, p4⟩ := h
  intro u v hu hv
  unfold R0
  rcases kinds ST1 hu with e | e | e | ⟨x, hx, e⟩
  · subst e
    by_cases c : v < 8
    · rw [mk_Sb c, ← h1 v c]
      exact p1 v c
    · rw [mk_So (by omega)]
      exact p4 32 v (by omega) hv (by omega) (by omega) (by omega)
  · subst e
    have e0 : mkR 32 33 (wkB A) (fun _ => 0) (cpK A 0) (fun _ _ => 0) lf (fun _ => 0) 33 v = 0 := by
      rcases kinds ST1 hv with q | q | q | ⟨y, hy, q⟩
      · exact mk_To ST1 (by omega)
      · exact mk_To ST1 (by omega)
      · exact mk_To ST1 (by omega)
      · rw [q, mk_Th ST1 hy]
    rw [e0]
    exact p4 33 v (by omega) hv (by omega) (by omega) (by omega)
  · rcases kinds ST1 hv with q | q | q | ⟨y, hy, q⟩
    · subst q
      rw [mk_bS ST1 e]
      exact p4 u 32 hu hv (by omega) (by omega) (by omega)
    · subst q
      rw [mk_bo ST1 e (by omega)]
      exact p4 u 33 hu hv (by omega) (by omega) (by omega)
    · rw [mk_bo ST1 e (by omega)]
      exact p4 u v hu hv (by omega) (by omega) (by omega)
    · subst q
      rw [mk_bh ST1 e hy, ← h2 u y e hy]
      exact p2 u y e hy
  · subst e
    rcases kinds ST1 hv with q | q | q | ⟨y, hy, q⟩
    · subst q
      rw [mk_ho ST1 hx (by omega) (by omega)]
      exact p4 (8 + x) 32 hu hv (by omega) (by omega) (by omega)
    · subst q
      rw [mk_hT ST1 hx, ← h3 x hx]
      have := p3 x hx
      rw [show 45 + x = 37 + (8 + x) by omega] at this
      exact this
    · rw [mk_hb ST1 hx q]
      exact p4 (8 + x) v hu hv (by omega) (by omega) (by omega)
    · subst q
      rw [mk_ho ST1 hx (by omega) (by omega)]
      exact p4 (8 + x) (8 + y) hu hv (by omega) (by omega) (by omega)
theorem R0_ok {A : Abs} (hP : PR A) (lf : Nat → Nat) {S T : Nat} (h : ST S T) : ∃ rs, MX (CG A lf 0 S T) rs (R0 A lf S T) ∧ STG A lf 0 (fun _ => 0) rs ∧ rs S = wkA A ∧ rs T = 0 := by
  refine ⟨fun u => sm (R0 A lf S T u) 34, ⟨mk_sym h (fun _ _ => rfl) (fun _ _ _ _ => rfl) (fun _ _ => rfl), fun _ _ => rfl⟩, ⟨fun b hb => ?_, fun w hw => ?_⟩, ?_, ?_⟩
  · show sm (R0 A lf S T b) 34 = _
    unfold R0
    rw [row_b h hb, sm_0]
  · show sm (R0 A lf S T (8 + w)) 34 + _ = _
    unfold R0
    rw [row_h h hw, sm_0]
    omega
  · show sm (R0 A lf S T S) 34 = _
    unfold R0
    rw [row_S h, wk8 hP]
  · show sm (R0 A lf S T T) 34 = _
    unfold R0
    rw [row_T h, sm_0]
theorem s_empty {M : Mem} (h35 : M.1 35 0 = 34) {post : Mem → Prop} (h : ∀ M', FX M M' → FP M' (fun _ => 0) (fun _ _ => 0) (fun _ => 0) → post M') : qX0_empty M post := by
  intro R2 h2
  have h35' : M.1 35 0 = nI 34 := h35
  have key : ∀ i, i ≤ 34 → ∀ M', FX M M' → (∀ u v, u < i → v < 34 → M'.1 (37 + u) v = 0) → R2 (nI i) M' := by
    refine up_to (fun M' hX hz => ?_) (fun i hi ih M' hX hz => ?_)
    · apply h2
      unfold qX0_empty_b2
      rw [hX.2 35 (by omega), h35']
      refine ⟨fun _ => h M' hX ⟨fun v hv => hz 32 v (by omega) (by omega), fun b w hb hw => hz b (8 + w) (by omega) (by omega), fun w hw => ?_, fun u v hu hv _ _ _ => hz u v hu hv⟩, fun c => absurd (nI_le (Nat.le_refl _) (by omega)) c⟩
      rw [show 45 + w = 37 + (8 + w) by omega]
      exact hz (8 + w) 33 (by omega) (by omega)
    · apply h2
      unfold qX0_empty_b2
      rw [hX.2 35 (by omega), h35', nI_clamp (show i < 2 ^ 31 by omega)]
      refine ⟨fun c => absurd c (nI_ge hi (by omega)), fun _ => ⟨vp_in_nI hi (by omega), s_fill (by decide) ?_⟩⟩
      rintro _ rfl
      rw [nI_1]
      refine ih _ ⟨hX.1, fun k hk => ?_⟩ (fun u v hu hv => ?_)
      · rw [sAr_g, if_neg (by omega)]
        exact hX.2 k hk
      · rw [sAr_g]
        by_cases c : u = i
        · rw [if_pos (by omega)]
          exact if_pos hv
        · rw [if_neg (by omega)]
          exact hz u v (by omega) hv
  exact key 0 (Nat.zero_le _) M (FX.rf M) (fun u v hu => absurd hu (by omega))
theorem wk_le {A : Abs} (hP : PR A) (n : Nat) (hn : n ≤ A 0 2) : sm (fun b => A 8 b) n ≤ 80000 := by
  have h : ∀ n, n ≤ A 0 2 → sm (fun b => A 8 b) n ≤ 10000 * n := by
    intro n
    induction n with
    | zero => exact fun _ => Nat.le_refl _
    | succ n ih =>
      intro hn
      have h1 := ih (by omega)
      have h2 := (hP.2 n (by omega)).2.1
      show sm (fun b => A 8 b) n + A 8 n ≤ 10000 * (n + 1)
      omega
  have h1 := h n hn
  have h2 := hP.1
  omega
theorem s_layPipes {A : Abs} {M : Mem} {w : Nat} (hR : HR A) (hC : HC A M) (hP : PR A) (hPC : PC0 A M) (hw : w < 2 ^ A 0 0) {post : Int32 → Mem → Prop} (h : ∀ M', PF1 M M' → HC A M' → (∀ k, (21 ≤ k ∧ k ≤ 30) → M'.1 k = M.1 k) → FM M' (R0 A (lfA A w) 32 33) → post (nI (wkA A)) M') : qX3_layPipes (nI w) M post := by
  intro R12 R58 R106 h12 h58 h106
  have h8 := hP.1
  have left : ∀ g, g ≤ 24 → ∀ M' l, PF1 M M' → HC A M' → (∀ k, (21 ≤ k ∧ k ≤ 30) → M'.1 k = M.1 k) → FP M' (wkB A) (cpK A 0) l → (∀ x, x < g → l x = lfA A w x) → R106 (nI (wkA A)) (nI g) M' := by
    refine up_to (fun M' l hX hC' hk hF hl => ?_) (fun g hg ih M' l hX hC' hk hF hl => ?_)
    · apply h106
      exact ⟨fun _ => h M' hX hC' hk (hF.fm (fun _ _ => rfl) (fun _ _ _ _ => rfl) hl), fun c => absurd (by decide) c⟩
    · apply h106
      unfold qX3_layPipes_b106
      rw [show (24 : Int32) = nI 24 from rfl, nI_leI (by omega) (by omega)]
      refine ⟨fun c => absurd hg (by omega), fun _ => s_leftOver hR hC' hw hg (fun M2 hC2 hE => ?_)⟩
      unfold qX0_pipe
      rw [show (8 : Int32) = nI 8 from rfl, nI_add, nI_clamp (show 8 + g < 2 ^ 31 by omega)]
      refine ⟨vp_in_nI (by omega) (by omega), vp_in_nI (n := 33) (by omega) (by omega), ?_⟩
      rintro _ rfl _ rfl
      rw [nI_1, show (33 : Int32).toNatClampNeg = 33 from rfl]
      have er : ∀ k, 21 ≤ k → M2.1 k = M'.1 k := fun k hk => hE.row k (by omega) (by omega)
      obtain ⟨p1, p2, p3, p4⟩ := hF
      refine ih _ (uN l g (lfA A w g)) ((hX.tr hE.pf).tr ⟨rfl, fun k hk => sA_1 k (by omega), by rw [sA_1 21 (by omega)]⟩) (hC2.sh (fun k _ _ => sA_1 k (by omega))) (fun k hk' => by rw [sA_1 k (by omega), er k (by omega)]; exact hk k hk') ⟨fun v hv => ?_, fun b x hb hx => ?_, fun x hx => ?_, fun u v hu hv c1 c2 c3 => ?_⟩ (fun x hx => ?_)
      · rw [sA_1 69 (by omega), er 69 (by omega)]
        exact p1 v hv
      · rw [sA_1 (37 + b) (by omega), er (37 + b) (by omega)]
        exact p2 b x hb hx
      · rw [sA_g, er (45 + x) (by omega)]
        unfold uN
        by_cases c : x = g
        · rw [if_pos (by omega), if_pos c]
        · rw [if_neg (by omega), if_neg c]
          exact p3 x hx
      · rw [sA_g, if_neg (by omega), er (37 + u) (by omega)]
        exact p4 u v hu hv c1 c2 c3
      · unfold uN
        by_cases c : x = g
        · rw [if_pos c, c]
        · rw [if_neg c]
          exact hl x (by omega)
  have batch : ∀ b, b ≤ A 0 2 → ∀ M' f g, FX M M' → FP M' f g (fun _ => 0) → (∀ v, v < 8 → f v = if v < b then wkB A v else 0) → (∀ v x, v < 8 → x < 24 → g v x = if v < b then cpK A 0 v x else 0) → R12 (nI (sm (fun b => A 8 b) b)) (nI b) M' := by
    refine up_to (fun M' f g hX hF hf hg => ?_) (fun b hb ih M' f g hX hF hf hg => ?_)
    · apply h12
      unfold qX3_layPipes_b12
      rw [hX.2 21 (by omega), hPC.1]
      refine ⟨fun _ => ?_, fun c => absurd (nI_le (Nat.le_refl _) (by omega)) c⟩
      obtain ⟨p1, p2, p3, p4⟩ := hF
      refine left 0 (by omega) M' (fun _ => 0) hX.pf (hX.hc hC) (fun k hk => hX.2 k (by omega)) ⟨fun v hv => ?_, fun b x hb hx => ?_, p3, p4⟩ (fun x hx => absurd hx (by omega))
      · rw [p1 v hv, hf v hv]
        by_cases c : v < A 0 2
        · rw [if_pos c]
        · rw [if_neg c, show wkB A v = 0 from if_neg c]
      · rw [p2 b x hb hx, hg b x hb hx]
        by_cases c : b < A 0 2
        · rw [if_pos c]
        · rw [if_neg c, cpK_out (fun d => c d.1)]
    · obtain ⟨q1, q2, q3, q4⟩ := hPC.2.2 b hb
      obtain ⟨r1, r2, r3, r4, r5, r6⟩ := hP.2 b hb
      have hwk := wk_le hP (b + 1) hb
      have hwk' : sm (fun b => A 8 b) (b + 1) = sm (fun b => A 8 b) b + A 8 b := rfl
      have hours : ∀ x, x ≤ A 10 b → A 9 b ≤ x → ∀ M' g, FX M M' → FP M' (fun v => if v < b + 1 then wkB A v else 0) g (fun _ => 0) → (∀ v y, v < 8 → y < 24 → g v y = if v < b ∨ (v = b ∧ y < x) then cpK A 0 v y else 0) → R58 (nI (sm (fun b => A 8 b) (b + 1))) (nI b) (nI x) M' := by
        refine up_to (fun _ M' g hX hF hg => ?_) (fun x hx ih2 hx9 M' g hX hF hg => ?_)
        · apply h58
          unfold qX3_layPipes_b58
          rw [nI_clamp (show b < 2 ^ 31 by omega), hX.2 33 (by omega), q3]
          refine ⟨vp_in_nI (by omega) (by omega), fun _ => ?_, fun c => absurd (nI_le (Nat.le_refl _) (by omega)) c⟩
          rintro _ rfl
          rw [nI_1]
          refine ih M' _ g hX hF (fun v hv => rfl) (fun v y hv hy => ?_)
          rw [hg v y hv hy]
          by_cases c : v < b + 1
          · rw [if_pos c]
            by_cases d : v < b ∨ (v = b ∧ y < A 10 b)
            · rw [if_pos d]
            · rw [if_neg d, show v = b by omega, cpK_out (fun e => by have := e.2.2; omega)]
          · rw [if_neg c, if_neg (by omega)]
        · apply h58
          unfold qX3_layPipes_b58
          rw [nI_clamp (show b < 2 ^ 31 by omega), hX.2 33 (by omega), q3, hX.2 34 (by omega), q4]
          refine ⟨vp_in_nI (by omega) (by omega), fun c => absurd c (nI_ge hx (by omega)), fun _ => ⟨vp_in_nI (by omega) (by omega), ?_⟩⟩
          unfold qX0_pipe
          rw [show (8 : Int32) = nI 8 from rfl, nI_add, nI_clamp (show b < 2 ^ 31 by omega), nI_clamp (show 8 + x < 2 ^ 31 by omega)]
          refine ⟨vp_in_nI (by omega) (by omega), vp_in_nI (by omega) (by omega), ?_⟩
          rintro _ rfl _ rfl
          rw [nI_1]
          obtain ⟨p1, p2, p3, p4⟩ := hF
          refine ih2 (by omega) _ (fun v y => if v = b ∧ y = x then A 11 b else g v y) ⟨hX.1, fun k hk => ?_⟩ ⟨fun v hv => ?_, fun v y hv hy => ?_, fun y hy => ?_, fun u v hu hv c1 c2 c3 => ?_⟩ (fun v y hv hy => ?_)
          · rw [sA_1 k (by omega)]
            exact hX.2 k hk
          · rw [sA_1 69 (by omega)]
            exact p1 v hv
          · rw [sA_g]
            dsimp only
            by_cases c : v = b ∧ y = x
            · rw [if_pos (by omega), if_pos c]
            · rw [if_neg (by omega), if_neg c]
              exact p2 v y hv hy
          · rw [sA_1 (45 + y) (by omega)]
            exact p3 y hy
          · rw [sA_g, if_neg (by omega)]
            exact p4 u v hu hv c1 c2 c3
          · try dsimp only
            by_cases c : v = b ∧ y = x
            · rw [if_pos c, if_pos (by omega), c.1, c.2, cpK_in ⟨hb, hx9, hx⟩ (Nat.zero_le _)]
            · rw [if_neg c, hg v y hv hy]
              by_cases d : v < b ∨ (v = b ∧ y < x)
              · rw [if_pos d, if_pos (by omega)]
              · rw [if_neg d, if_neg (by omega)]
      apply h12
      unfold qX3_layPipes_b12
      rw [hX.2 21 (by omega), hPC.1, nI_clamp (show b < 2 ^ 31 by omega), hX.2 31 (by omega), q1, nI_add]
      refine ⟨fun c => absurd c (nI_ge hb (by omega)), fun _ => ⟨vp_in_nI (by omega) (by omega), ?_⟩⟩
      rintro _ rfl
      refine ⟨vp_in_nI (by omega) (by omega), ?_⟩
      unfold qX0_pipe
      rw [nI_clamp (show b < 2 ^ 31 by omega), show (32 : Int32).toNatClampNeg = 32 from rfl]
      refine ⟨vp_in_nI (n := 32) (by omega) (by omega), vp_in_nI (by omega) (by omega), ?_⟩
      rintro _ rfl
      refine ⟨vp_in_nI (by omega) (by omega), ?_⟩
      rw [sA_1 32 (by omega), hX.2 32 (by omega), q2]
      rintro _ rfl
      obtain ⟨p1, p2, p3, p4⟩ := hF
      refine hours (A 9 b) (by omega) (Nat.le_refl _) _ g ⟨hX.1, fun k hk => ?_⟩ ⟨fun v hv => ?_, fun v y hv hy => ?_, fun y hy => ?_, fun u v hu hv c1 c2 c3 => ?_⟩ (fun v y hv hy => ?_)
      · rw [sA_1 k (by omega)]
        exact hX.2 k hk
      · rw [sA_g]
        dsimp only
        by_cases c : v = b
        · rw [if_pos ⟨by omega, c⟩, if_pos (by omega), c, show wkB A b = A 8 b from if_pos hb]
        · rw [if_neg (fun d => c d.2), p1 v hv, hf v hv]
          by_cases d : v < b
          · rw [if_pos d, if_pos (by omega)]
          · rw [if_neg d, if_neg (by omega)]
      · rw [sA_1 (37 + v) (by omega)]
        exact p2 v y hv hy
      · rw [sA_1 (45 + y) (by omega)]
        exact p3 y hy
      · rw [sA_g, if_neg (by omega)]
        exact p4 u v hu hv c1 c2 c3
      · rw [hg v y hv hy]
        by_cases d : v < b
        · rw [if_pos d, if_pos (Or.inl d)]
        · rw [if_neg d]
          by_cases e : v < b ∨ (v = b ∧ y < A 9 b)
          · rw [if_pos e, show v = b by omega, cpK_out (fun q => by have := q.2.1; omega)]
          · rw [if_neg e]
  exact s_empty hPC.2.1 (fun M' hX hF => batch 0 (Nat.zero_le _) M' _ _ hX hF (fun v hv => rfl) (fun v x hv hx => rfl))

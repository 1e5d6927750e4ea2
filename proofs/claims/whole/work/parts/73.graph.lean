/-! FLOWS: the graph of batches (0 to 7), hours (8 to 31) and the two ends S and T -/
def ST (S T : Nat) : Prop := (S = 32 ∧ T = 33) ∨ (S = 33 ∧ T = 32)
def mkR (S T : Nat) (sb bs : Nat → Nat) (bh hb : Nat → Nat → Nat) (ht th : Nat → Nat) (u v : Nat) : Nat :=
  if u = S then (if v < 8 then sb v else 0)
  else if u = T then (if 8 ≤ v ∧ v < 32 then th (v - 8) else 0)
  else if u < 8 then (if v = S then bs u else if 8 ≤ v ∧ v < 32 then bh u (v - 8) else 0)
  else (if v = T then ht (u - 8) else if v < 8 then hb v (u - 8) else 0)
section
variable {S T : Nat} {sb bs : Nat → Nat} {bh hb : Nat → Nat → Nat} {ht th : Nat → Nat}
theorem mk_Sb {v : Nat} (hv : v < 8) : mkR S T sb bs bh hb ht th S v = sb v := by
  unfold mkR
  rw [if_pos rfl, if_pos hv]
theorem mk_So {v : Nat} (hv : 8 ≤ v) : mkR S T sb bs bh hb ht th S v = 0 := by
  unfold mkR
  rw [if_pos rfl, if_neg (by omega)]
theorem mk_Th (h : ST S T) {v : Nat} (hv : v < 24) : mkR S T sb bs bh hb ht th T (8 + v) = th v := by
  unfold mkR
  unfold ST at h
  rw [if_neg (by omega), if_pos rfl, if_pos (by omega), show 8 + v - 8 = v by omega]
theorem mk_To (h : ST S T) {v : Nat} (hv : v < 8 ∨ 32 ≤ v) : mkR S T sb bs bh hb ht th T v = 0 := by
  unfold mkR
  unfold ST at h
  rw [if_neg (by omega), if_pos rfl, if_neg (by omega)]
theorem mk_bS (h : ST S T) {u : Nat} (hu : u < 8) : mkR S T sb bs bh hb ht th u S = bs u := by
  unfold mkR
  unfold ST at h
  rw [if_neg (by omega), if_neg (by omega), if_pos hu, if_pos rfl]
theorem mk_bh (h : ST S T) {u v : Nat} (hu : u < 8) (hv : v < 24) : mkR S T sb bs bh hb ht th u (8 + v) = bh u v := by
  unfold mkR
  unfold ST at h
  rw [if_neg (by omega), if_neg (by omega), if_pos hu, if_neg (by omega), if_pos (by omega), show 8 + v - 8 = v by omega]
theorem mk_bo (h : ST S T) {u v : Nat} (hu : u < 8) (hv : v < 8 ∨ v = T) : mkR S T sb bs bh hb ht th u v = 0 := by
  unfold mkR
  unfold ST at h
  rw [if_neg (by omega), if_neg (by omega), if_pos hu, if_neg (by omega), if_neg (by omega)]
theorem mk_hT (h : ST S T) {u : Nat} (hu : u < 24) : mkR S T sb bs bh hb ht th (8 + u) T = ht u := by
  unfold mkR
  unfold ST at h
  rw [if_neg (by omega), if_neg (by omega), if_neg (by omega), if_pos rfl, show 8 + u - 8 = u by omega]
theorem mk_hb (h : ST S T) {u v : Nat} (hu : u < 24) (hv : v < 8) : mkR S T sb bs bh hb ht th (8 + u) v = hb v u := by
  unfold mkR
  unfold ST at h
  rw [if_neg (by omega), if_neg (by omega), if_neg (by omega), if_neg (by omega), if_pos hv, show 8 + u - 8 = u by omega]
theorem mk_ho (h : ST S T) {u v : Nat} (hu : u < 24) (hv : 8 ≤ v) (hv2 : v ≠ T) : mkR S T sb bs bh hb ht th (8 + u) v = 0 := by
  unfold mkR
  unfold ST at h
  rw [if_neg (by omega), if_neg (by omega), if_neg (by omega), if_neg hv2, if_neg (by omega)]
end
theorem kinds {S T : Nat} (h : ST S T) {u : Nat} (hu : u < 34) : u = S ∨ u = T ∨ u < 8 ∨ ∃ w, w < 24 ∧ u = 8 + w := by
  unfold ST at h
  by_cases c : u < 8
  · exact Or.inr (Or.inr (Or.inl c))
  · by_cases c2 : u < 32
    · exact Or.inr (Or.inr (Or.inr ⟨u - 8, by omega, by omega⟩))
    · omega
theorem mk_sym {S T : Nat} (h : ST S T) {sb bs cs : Nat → Nat} {bh hb cp : Nat → Nat → Nat} {ht th cl : Nat → Nat} (h1 : ∀ b, b < 8 → sb b + bs b = cs b) (h2 : ∀ b w, b < 8 → w < 24 → bh b w + hb b w = cp b w) (h3 : ∀ w, w < 24 → ht w + th w = cl w) :
    ∀ u v, u < 34 → v < 34 → mkR S T sb bs bh hb ht th u v + mkR S T sb bs bh hb ht th v u = mkR S T cs cs cp cp cl cl u v := by
  have hst := h
  unfold ST at hst
  intro u v hu hv
  rcases kinds h hu with e | e | e | ⟨w, hw, e⟩
  · subst e
    by_cases c : v < 8
    · rw [mk_Sb c, mk_bS h c, mk_Sb c]
      exact h1 v c
    · rw [mk_So (by omega), mk_So (by omega)]
      rcases kinds h hv with f | f | f | ⟨x, hx, f⟩
      · subst f; rw [mk_So (by omega)]
      · subst f; rw [mk_To h (by omega)]
      · omega
      · subst f; rw [mk_ho h hx (by omega) (by omega)]
  · subst e
    rcases kinds h hv with f | f | f | ⟨x, hx, f⟩
    · subst f; rw [mk_To h (by omega), mk_So (by omega), mk_To h (by omega)]
    · subst f; rw [mk_To h (by omega), mk_To h (by omega)]
    · rw [mk_To h (by omega), mk_bo h f (by omega), mk_To h (by omega)]
    · subst f
      rw [mk_Th h hx, mk_hT h hx, mk_Th h hx]
      have := h3 x hx
      omega
  · rcases kinds h hv with f | f | f | ⟨x, hx, f⟩
    · subst f
      rw [mk_bS h e, mk_Sb e, mk_bS h e]
      have := h1 u e
      omega
    · subst f; rw [mk_bo h e (by omega), mk_To h (by omega), mk_bo h e (by omega)]
    · rw [mk_bo h e (by omega), mk_bo h f (by omega), mk_bo h e (by omega)]
    · subst f
      rw [mk_bh h e hx, mk_hb h hx e, mk_bh h e hx]
      exact h2 u x e hx
  · subst e
    rcases kinds h hv with f | f | f | ⟨x, hx, f⟩
    · subst f; rw [mk_ho h hw (by omega) (by omega), mk_So (by omega), mk_ho h hw (by omega) (by omega)]
    · subst f
      rw [mk_hT h hw, mk_Th h hw, mk_hT h hw]
      exact h3 w hw
    · rw [mk_hb h hw f, mk_bh h f hw, mk_hb h hw f]
      have := h2 v w f hw
      omega
    · subst f; rw [mk_ho h hw (by omega) (by omega), mk_ho h hx (by omega) (by omega), mk_ho h hw (by omega) (by omega)]
/-- both sums of a row, whichever end comes first -/
theorem sm_ST {S T : Nat} (h : ST S T) {f : Nat → Nat} : sm f 34 = sm f 8 + sm (fun w => f (8 + w)) 24 + f S + f T := by
  rw [sm_34]
  rcases h with ⟨rfl, rfl⟩ | ⟨rfl, rfl⟩
  · rfl
  · omega
section
variable {S T : Nat} {sb bs : Nat → Nat} {bh hb : Nat → Nat → Nat} {ht th : Nat → Nat}
theorem row_S (h : ST S T) : sm (mkR S T sb bs bh hb ht th S) 34 = sm sb 8 := by
  have hst := h
  unfold ST at hst
  rw [sm_ST h, sm_congr (g := sb) 8 (fun i hi => mk_Sb hi), sm_z (fun i _ => mk_So (by omega)), mk_So (by omega), mk_So (by omega)]
  omega
theorem row_T (h : ST S T) : sm (mkR S T sb bs bh hb ht th T) 34 = sm th 24 := by
  have hst := h
  unfold ST at hst
  rw [sm_ST h, sm_z (n := 8) (fun i hi => mk_To h (by omega)), sm_congr (g := th) 24 (fun i hi => mk_Th h hi), mk_To h (by omega), mk_To h (by omega)]
  omega
theorem row_b (h : ST S T) {b : Nat} (hb' : b < 8) : sm (mkR S T sb bs bh hb ht th b) 34 = sm (bh b) 24 + bs b := by
  rw [sm_ST h, sm_z (n := 8) (fun i hi => mk_bo h hb' (by omega)), sm_congr (g := bh b) 24 (fun i hi => mk_bh h hb' hi), mk_bS h hb', mk_bo h hb' (by omega)]
  omega
theorem row_h (h : ST S T) {w : Nat} (hw : w < 24) : sm (mkR S T sb bs bh hb ht th (8 + w)) 34 = sm (fun b => hb b w) 8 + ht w := by
  have hst := h
  unfold ST at hst
  rw [sm_ST h, sm_congr 8 (fun i hi => mk_hb h hw hi), sm_z (n := 24) (fun i hi => mk_ho h hw (by omega) (by omega)), mk_ho h hw (by omega) (by omega), mk_hT h hw]
  omega
end
/-- what any table over such a graph is -/
theorem MX.z {C R : Nat → Nat → Nat} {rs : Nat → Nat} (hM : MX C rs R) {u v : Nat} (hu : u < 34) (hv : v < 34) (h : C u v = 0) : R u v = 0 := by
  have := hM.1 u v hu hv
  omega
section
variable {S T : Nat} {cs : Nat → Nat} {cp : Nat → Nat → Nat} {cl : Nat → Nat} {R : Nat → Nat → Nat} {rs : Nat → Nat}
theorem MX.rowS (h : ST S T) (hM : MX (mkR S T cs cs cp cp cl cl) rs R) : sm (R S) 8 = rs S := by
  have hst := h
  unfold ST at hst
  rw [← hM.2 S (by omega), sm_ST h, sm_z (n := 24) (fun i hi => hM.z (by omega) (by omega) (mk_So (by omega))), hM.z (u := S) (v := S) (by omega) (by omega) (mk_So (by omega)), hM.z (u := S) (v := T) (by omega) (by omega) (mk_So (by omega))]
  omega
theorem MX.rowb (h : ST S T) (hM : MX (mkR S T cs cs cp cp cl cl) rs R) {b : Nat} (hb : b < 8) : sm (fun w => R b (8 + w)) 24 + R b S = rs b := by
  have hst := h
  unfold ST at hst
  rw [← hM.2 b (by omega), sm_ST h, sm_z (n := 8) (fun i hi => hM.z (by omega) (by omega) (mk_bo h hb (by omega))), hM.z (u := b) (v := T) (by omega) (by omega) (mk_bo h hb (by omega))]
  omega
theorem MX.rowh (h : ST S T) (hM : MX (mkR S T cs cs cp cp cl cl) rs R) {w : Nat} (hw : w < 24) : sm (R (8 + w)) 8 + R (8 + w) T = rs (8 + w) := by
  have hst := h
  unfold ST at hst
  rw [← hM.2 (8 + w) (by omega), sm_ST h, sm_z (n := 24) (fun i hi => hM.z (by omega) (by omega) (mk_ho h hw (by omega) (by omega))), hM.z (u := 8 + w) (v := S) (by omega) (by omega) (mk_ho h hw (by omega) (by omega))]
  omega
theorem MX.psb (h : ST S T) (hM : MX (mkR S T cs cs cp cp cl cl) rs R) {b : Nat} (hb : b < 8) : R S b + R b S = cs b := by
  have hst := h
  unfold ST at hst
  have := hM.1 S b (by omega) (by omega)
  rw [mk_Sb hb] at this
  exact this
theorem MX.pbh (h : ST S T) (hM : MX (mkR S T cs cs cp cp cl cl) rs R) {b w : Nat} (hb : b < 8) (hw : w < 24) : R b (8 + w) + R (8 + w) b = cp b w := by
  have := hM.1 b (8 + w) (by omega) (by omega)
  rw [mk_bh h hb hw] at this
  exact this
theorem MX.pht (h : ST S T) (hM : MX (mkR S T cs cs cp cp cl cl) rs R) {w : Nat} (hw : w < 24) : R (8 + w) T + R T (8 + w) = cl w := by
  have hst := h
  unfold ST at hst
  have := hM.1 (8 + w) T (by omega) (by omega)
  rw [mk_hT h hw] at this
  exact this
end

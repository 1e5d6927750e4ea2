/-! PLAIN FACTS on memories, and what the smallest methods do -/
theorem mem_ext {M N : Mem} (h1 : ∀ k j, M.1 k j = N.1 k j) (h2 : ∀ k j, M.2 k j = N.2 k j) : M = N := Prod.ext (funext fun k => funext fun j => h1 k j) (funext fun k => funext fun j => h2 k j)
theorem sA_g {M : Mem} {k j : Nat} {v : Int32} (k' j' : Nat) : (sA M k j v).1 k' j' = if k' = k ∧ j' = j then v else M.1 k' j' := by
  unfold sA upd
  by_cases h : k' = k
  · subst h
    by_cases h2 : j' = j
    · subst h2; simp
    · simp [h2]
  · simp [h]
theorem sA_2 {M : Mem} {k j : Nat} {v : Int32} : (sA M k j v).2 = M.2 := rfl
theorem sB_g {M : Mem} {k j : Nat} {v : Int64} (k' j' : Nat) : (sB M k j v).2 k' j' = if k' = k ∧ j' = j then v else M.2 k' j' := by
  unfold sB vp_updL
  by_cases h : k' = k
  · subst h
    by_cases h2 : j' = j
    · subst h2; simp
    · simp [h2]
  · simp [h]
theorem sB_x {M : Mem} {k j : Nat} {v : Int64} : (sB M k j v).1 = M.1 := rfl
theorem sAr_g {M : Mem} {k : Nat} {f : Nat → Int32} (k' : Nat) : (sAr M k f).1 k' = if k' = k then f else M.1 k' := rfl
theorem sAr_2 {M : Mem} {k : Nat} {f : Nat → Int32} : (sAr M k f).2 = M.2 := rfl
theorem sBr_g {M : Mem} {k : Nat} {f : Nat → Int64} (k' : Nat) : (sBr M k f).2 k' = if k' = k then f else M.2 k' := rfl
theorem sBr_x {M : Mem} {k : Nat} {f : Nat → Int64} : (sBr M k f).1 = M.1 := rfl
theorem sAr_id {M : Mem} {k : Nat} : sAr M k (M.1 k) = M := by
  refine Prod.ext (funext fun k' => ?_) rfl
  show (if k' = k then M.1 k else M.1 k') = M.1 k'
  by_cases h : k' = k
  · rw [if_pos h, h]
  · rw [if_neg h]
theorem sBr_id {M : Mem} {k : Nat} : sBr M k (M.2 k) = M := by
  refine Prod.ext rfl (funext fun k' => ?_)
  show (if k' = k then M.2 k else M.2 k') = M.2 k'
  by_cases h : k' = k
  · rw [if_pos h, h]
  · rw [if_neg h]
theorem sAr_up {M : Mem} {k j : Nat} {f : Nat → Int32} {v : Int32} : sA (sAr M k f) k j v = sAr M k (upd f j v) := by
  refine mem_ext (fun k' j' => ?_) (fun _ _ => rfl)
  rw [sA_g, sAr_g, sAr_g]
  by_cases h : k' = k
  · simp only [h, true_and, if_true, upd]
  · simp only [h, false_and, if_false]
theorem sBr_up {M : Mem} {k j : Nat} {f : Nat → Int64} {v : Int64} : sB (sBr M k f) k j v = sBr M k (vp_updL f j v) := by
  refine mem_ext (fun _ _ => rfl) (fun k' j' => ?_)
  rw [sB_g, sBr_g, sBr_g]
  by_cases h : k' = k
  · simp only [h, true_and, if_true, vp_updL]
  · simp only [h, false_and, if_false]
theorem upd_below {f : Nat → Int32} {a i : Nat} {v : Int32} (h : a ≤ i) : upd (fun j => if a ≤ j ∧ j < i then v else f j) i v = (fun j => if a ≤ j ∧ j < i + 1 then v else f j) := by
  funext j
  unfold upd
  by_cases h1 : j = i
  · rw [if_pos h1, if_pos (by omega)]
  · rw [if_neg h1]
    show (if a ≤ j ∧ j < i then v else f j) = _
    by_cases h2 : a ≤ j ∧ j < i
    · rw [if_pos h2, if_pos (by omega)]
    · rw [if_neg h2, if_neg (by omega)]
theorem updL_below {f : Nat → Int64} {a i : Nat} {v : Int64} (h : a ≤ i) : vp_updL (fun j => if a ≤ j ∧ j < i then v else f j) i v = (fun j => if a ≤ j ∧ j < i + 1 then v else f j) := by
  funext j
  unfold vp_updL
  by_cases h1 : j = i
  · rw [if_pos h1, if_pos (by omega)]
  · rw [if_neg h1]
    show (if a ≤ j ∧ j < i then v else f j) = _
    by_cases h2 : a ≤ j ∧ j < i
    · rw [if_pos h2, if_pos (by omega)]
    · rw [if_neg h2, if_neg (by omega)]
theorem fill_nil {α : Type} {f : Nat → α} {a : Nat} {v : α} : (fun j => if a ≤ j ∧ j < a then v else f j) = f := by
  funext j
  rw [if_neg (by omega)]
/-- a loop that counts up: from i to e -/
theorem up_to {P : Nat → Prop} {e : Nat} (he : P e) (hs : ∀ i, i < e → P (i + 1) → P i) : ∀ i, i ≤ e → P i := by
  intro i hi
  obtain ⟨d, rfl⟩ : ∃ d, e = i + d := ⟨e - i, by omega⟩
  induction d generalizing i with
  | zero => exact he
  | succ d ih => exact hs i (by omega) (ih (i + 1) (by rw [show i + 1 + d = i + (d + 1) by omega]; exact he) (fun j hj hp => hs j (by omega) hp) (by omega))
theorem s_fill {k n : Nat} {v : Int32} {M : Mem} {post : Mem → Prop} (hn : n < 2 ^ 31) (h : post (sAr M k (fun j => if j < n then v else M.1 k j))) : qJ7_fill_53178 k n v M post := by
  intro R5 h5 v1 e1
  subst e1
  have key : ∀ i, i ≤ n → R5 (nI i) (nI n) (sAr M k (fun j => if 0 ≤ j ∧ j < i then v else M.1 k j)) := by
    refine up_to ?_ (fun i hi hp => ?_)
    · apply h5
      refine ⟨fun _ => ?_, fun h2 => absurd (nI_le (Nat.le_refl n) hn) h2⟩
      simp only [Nat.zero_le, true_and]
      exact h
    · apply h5
      refine ⟨fun h2 => absurd h2 (nI_ge hi hn), fun _ => ⟨vp_in_nI hi hn, ?_⟩⟩
      rintro M1 rfl v rfl
      rw [nI_1, nI_clamp (by omega), sAr_up, upd_below (by omega)]
      exact hp
  have h0 := key 0 (Nat.zero_le _)
  rw [fill_nil, sAr_id] at h0
  exact h0
theorem s_fillL {k n : Nat} {v : Int64} {M : Mem} {post : Mem → Prop} (hn : n < 2 ^ 31) (h : post (sBr M k (fun j => if j < n then v else M.2 k j))) : qJ7_fill_d0a16 k n v M post := by
  intro R5 h5 v1 e1
  subst e1
  have key : ∀ i, i ≤ n → R5 (nI i) (nI n) (sBr M k (fun j => if 0 ≤ j ∧ j < i then v else M.2 k j)) := by
    refine up_to ?_ (fun i hi hp => ?_)
    · apply h5
      refine ⟨fun _ => ?_, fun h2 => absurd (nI_le (Nat.le_refl n) hn) h2⟩
      simp only [Nat.zero_le, true_and]
      exact h
    · apply h5
      refine ⟨fun h2 => absurd h2 (nI_ge hi hn), fun _ => ⟨vp_in_nI hi hn, ?_⟩⟩
      rintro M1 rfl v rfl
      rw [nI_1, nI_clamp (by omega), sBr_up, updL_below (by omega)]
      exact hp
  have h0 := key 0 (Nat.zero_le _)
  rw [fill_nil, sBr_id] at h0
  exact h0
theorem s_fillR {k n a b : Nat} {v : Int32} {M : Mem} {post : Mem → Prop} (hn : n < 2 ^ 31) (hab : a ≤ b) (hbn : b ≤ n) (h : post (sAr M k (fun j => if a ≤ j ∧ j < b then v else M.1 k j))) : qJ7_fill_fda19 k n (nI a) (nI b) v M post := by
  intro R5 h5
  refine ⟨fun _ => ⟨fun _ => ⟨fun _ => ?_, fun h2 => absurd (nI_le hbn hn) h2⟩, fun h2 => absurd (nI_pos' (n := a) (by omega)) h2⟩, fun h2 => absurd (nI_le hab (by omega)) h2⟩
  have key : ∀ i, i ≤ b → a ≤ i → R5 (nI i) (sAr M k (fun j => if a ≤ j ∧ j < i then v else M.1 k j)) := by
    refine up_to (fun _ => ?_) (fun i hi hp hai => ?_)
    · apply h5
      exact ⟨fun _ => h, fun h2 => absurd (nI_le (Nat.le_refl b) (by omega)) h2⟩
    · apply h5
      refine ⟨fun h2 => absurd h2 (nI_ge hi (by omega)), fun _ => ⟨vp_in_nI (by omega) hn, ?_⟩⟩
      rintro M1 rfl v rfl
      rw [nI_1, nI_clamp (by omega), sAr_up, upd_below (by omega)]
      exact hp (by omega)
  have h0 := key a hab (Nat.le_refl _)
  rw [fill_nil, sAr_id] at h0
  exact h0

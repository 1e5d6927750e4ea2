/-! HAVE, and a type comes -/
def hvA (A : Abs) (v : Nat) : Abs := sR A 0 4 v
theorem hvA_r {A : Abs} {v : Nat} (i : Nat) (h : i ≠ 0) : hvA A v i = A i := sR_r i h
theorem hk_have (M N : Mem) (h : Rel M N) (a : Int32) : qX6_have a M (fun r M => qX7_have a N (fun r2 N => r = r2 ∧ Rel M N)) := by
  obtain ⟨_, A, hA⟩ := h
  have k0 : (0 : Int32).toInt = 0 := rfl
  have k5 : (500 : Int32).toInt = 500 := rfl
  refine s_withinI (fun p q => b1_n ?_) (fun hx => b0_n ?_)
  · rw [k0] at p
    rw [k5] at q
    obtain ⟨v, hv, _, ea⟩ := nat_of (a := a) (n := 500) p q
    subst ea
    rintro _ rfl _ rfl _ rfl
    refine ⟨rfl, ?_⟩
    refine ⟨fun x => absurd x (nI_pos (by omega)), fun _ => ⟨fun _ => ?_, fun x => ?_⟩⟩
    · rintro _ rfl
      refine is_yes ⟨rfl, st_eq, hvA A v, ?_⟩
      have hKR := hA.2.2.2.2.2.2.2.1.2
      have hKC := hA.2.2.2.2.2.2.2.2.1.1
      have hKN := hA.2.2.2.2.2.2.2.2.2
      refine hA.mk ⟨rfl, rfl, rfl, rfl, rfl, rfl, rfl, rfl, rfl⟩ ⟨rfl, rfl, rfl, rfl, rfl⟩ (fun k h1 h2 => ?_) rfl (fun k h1 h2 => ?_) rfl (fun j h1 h2 h3 => ?_) ⟨hKR.1, hv, hKR.2.2.1, fun t ht => ?_⟩ ⟨⟨hKC.1, rfl, hKC.2.2.1, fun t ht => ?_⟩, Or.inl rfl⟩ ⟨hKN.1, rfl, hKN.2.2.1, fun t ht => ?_⟩
      · rw [sA_1 k h1, sA_1 k (by omega), sA_1 k (by omega)]
      · rw [sA_1 k h1, sA_1 k h1]
      · rw [sA_g, if_neg (by omega), sA_g, if_neg (by omega)]
      · rw [hvA_r (16 + t) (by omega)]
        exact hKR.2.2.2 t ht
      · rw [hvA_r (16 + t) (by omega), sA_1 (94 + t) (by omega), sA_1 (94 + t) (by omega), sA_1 (94 + t) (by omega)]
        exact hKC.2.2.2 t ht
      · rw [hvA_r (16 + t) (by omega)]
        exact hKN.2.2.2 t ht
    · rw [show (500 : Int32) = nI 500 from rfl, nI_leI (by omega) (by omega)] at x
      exact absurd hv x
  · rintro _ rfl
    rw [k0, k5] at hx
    refine ⟨rfl, ?_⟩
    unfold qX7_have
    rw [Int32.lt_iff_toInt_lt, Int32.le_iff_toInt_le, k0, k5]
    refine ⟨fun _ => is_no (by decide) ⟨rfl, Rel.no hA 1⟩, fun p => ⟨fun q => absurd hx (by omega), fun _ => is_no (by decide) ⟨rfl, Rel.no hA 1⟩⟩⟩
/-- a type is written down -/
theorem s_addType {s n sz ld pw : Nat} {c : Nat → Nat} {M : Mem} (hs : s < 6) (hn : n < 4) (e : M.1 75 0 = nI n) (hc : ∀ j, j < 12 → M.2 (3 + s) j = lN (c j)) {post : Int32 → Mem → Prop}
    (h : post (nI n) (sA (sAr (sA (sA (sA (sA M 75 0 (nI (n + 1))) 90 n (nI sz)) 91 n (nI ld)) 92 n (nI pw)) (94 + n) (rowT (M.1 (94 + n)) c)) 75 11 0)) : qX2_addType (nI sz) (nI ld) (nI pw) (nI s) M post := by
  intro R40 h40
  rintro _ rfl _ rfl
  rw [e, nI_1, nI_clamp (show n < 2 ^ 31 by omega)]
  refine ⟨vp_in_nI hn (by omega), ?_⟩
  rintro _ rfl
  refine ⟨vp_in_nI hn (by omega), ?_⟩
  rintro _ rfl
  refine ⟨vp_in_nI hn (by omega), ?_⟩
  rintro _ rfl
  have key : ∀ i, i ≤ 12 → R40 (nI n) (nI i) (sAr (sA (sA (sA (sA M 75 0 (nI (n + 1))) 90 n (nI sz)) 91 n (nI ld)) 92 n (nI pw)) (94 + n) (fun j => if j < i then nI (c j) else M.1 (94 + n) j)) := by
    refine up_to ?_ (fun i hi ih => ?_)
    · apply h40
      refine ⟨fun _ => ?_, fun x => absurd (by decide) x⟩
      rintro _ rfl
      exact h
    · apply h40
      refine ⟨fun x => ?_, fun _ => ⟨vp_in_nI hn (by omega), ?_⟩⟩
      · rw [show (12 : Int32) = nI 12 from rfl, nI_leI (by omega) (by omega)] at x
        omega
      · unfold qX4_at
        rw [nI_clamp (show s < 2 ^ 31 by omega), nI_clamp (show i < 2 ^ 31 by omega), nI_clamp (show n < 2 ^ 31 by omega)]
        refine ⟨vp_in_nI hs (by omega), vp_in_nI (by omega) (by omega), vp_in_nI hi (by omega), ?_⟩
        rintro _ rfl _ rfl
        rw [nI_1, sAr_up, upd_to (by rw [sAr_2, sA_2, sA_2, sA_2, sA_2, hc i hi, lN_i])]
        exact ih
  have h0 := key 0 (Nat.zero_le _)
  rw [to_0] at h0
  have e2 : M.1 (94 + n) = (sA (sA (sA (sA M 75 0 (nI (n + 1))) 90 n (nI sz)) 91 n (nI ld)) 92 n (nI pw)).1 (94 + n) := by
    rw [sA_1 (94 + n) (by omega), sA_1 (94 + n) (by omega), sA_1 (94 + n) (by omega), sA_1 (94 + n) (by omega)]
  rw [e2, sAr_id] at h0
  exact h0
def row48 (f : Nat → Int32) (n : Nat) (c : Nat → Nat) : Nat → Int32 := fun j => if 12 * n ≤ j ∧ j < 12 * n + 12 then nI (c (j - 12 * n)) else f j
theorem r_addType {s n sz ld pw : Nat} {c : Nat → Nat} {N : Mem} (hs : s < 6) (hn : n < 4) (e : N.1 0 7 = nI n) (hc : ∀ j, j < 12 → N.2 3 (64 * s + j) = lN (c j)) {post : Int32 → Mem → Prop} {R34 : Mem → Prop} {R66 R112 : Int32 → Mem → Prop} (h66 : ∀ x5 M, qX7_type_b66 (nI sz) (nI ld) (nI s) (nI pw) post R34 R66 R112 x5 M → R66 x5 M) (h112 : ∀ x6 M, qX7_type_b112 (nI sz) (nI ld) (nI s) (nI pw) post R34 R66 R112 x6 M → R112 x6 M)
    (h : post (nI n) (sA (sA (sAr (sA (sA (sA N 27 n (nI sz)) 28 n (nI ld)) 29 n (nI pw)) 30 (row48 (N.1 30) n c)) 0 7 (nI (n + 1))) 0 0 0)) : R66 0 N := by
  apply h66
  refine ⟨fun _ => ?_, fun x => absurd (by decide) x⟩
  rw [e, nI_clamp (show n < 2 ^ 31 by omega)]
  refine ⟨vp_in_nI hn (by omega), ?_⟩
  rintro _ rfl
  rw [show (sA N 27 n (nI sz)).1 0 7 = nI n from e, nI_clamp (show n < 2 ^ 31 by omega)]
  refine ⟨vp_in_nI hn (by omega), ?_⟩
  rintro _ rfl
  rw [show (sA (sA N 27 n (nI sz)) 28 n (nI ld)).1 0 7 = nI n from e, nI_clamp (show n < 2 ^ 31 by omega)]
  refine ⟨vp_in_nI hn (by omega), ?_⟩
  rintro _ rfl
  have key : ∀ i, i ≤ 12 → R112 (nI i) (sAr (sA (sA (sA N 27 n (nI sz)) 28 n (nI ld)) 29 n (nI pw)) 30 (fun j => if 12 * n ≤ j ∧ j < 12 * n + i then nI (c (j - 12 * n)) else N.1 30 j)) := by
    refine up_to ?_ (fun i hi ih => ?_)
    · apply h112
      refine ⟨fun _ => ?_, fun x => absurd (by decide) x⟩
      rintro _ rfl _ rfl
      have e3 : (sAr (sA (sA (sA N 27 n (nI sz)) 28 n (nI ld)) 29 n (nI pw)) 30 (fun j => if 12 * n ≤ j ∧ j < 12 * n + 12 then nI (c (j - 12 * n)) else N.1 30 j)).1 0 7 = nI n := e
      rw [e3, nI_1]
      have e4 : (sA (sA (sAr (sA (sA (sA N 27 n (nI sz)) 28 n (nI ld)) 29 n (nI pw)) 30 (fun j => if 12 * n ≤ j ∧ j < 12 * n + 12 then nI (c (j - 12 * n)) else N.1 30 j)) 0 7 (nI (n + 1))) 0 0 0).1 0 7 = nI (n + 1) := rfl
      rw [e4, nI_pred]
      exact h
    · apply h112
      refine ⟨fun x => ?_, fun _ => ?_⟩
      · rw [show (12 : Int32) = nI 12 from rfl, nI_leI (by omega) (by omega)] at x
        omega
      · have e3 : (sAr (sA (sA (sA N 27 n (nI sz)) 28 n (nI ld)) 29 n (nI pw)) 30 (fun j => if 12 * n ≤ j ∧ j < 12 * n + i then nI (c (j - 12 * n)) else N.1 30 j)).1 0 7 = nI n := e
        rw [e3, ix64, show (12 : Int32) = nI 12 from rfl, pk_mul, nI_add, nI_clamp (show 64 * s + i < 2 ^ 31 by omega), nI_clamp (show 12 * n + i < 2 ^ 31 by omega)]
        refine ⟨vp_in_nI (by omega) (by omega), vp_in_nI (by omega) (by omega), ?_⟩
        rintro _ rfl _ rfl
        rw [nI_1, sAr_up]
        have e5 : upd (fun j => if 12 * n ≤ j ∧ j < 12 * n + i then nI (c (j - 12 * n)) else N.1 30 j) (12 * n + i) ((sAr (sA (sA (sA N 27 n (nI sz)) 28 n (nI ld)) 29 n (nI pw)) 30 (fun j => if 12 * n ≤ j ∧ j < 12 * n + i then nI (c (j - 12 * n)) else N.1 30 j)).2 3 (64 * s + i)).toInt32 = (fun j => if 12 * n ≤ j ∧ j < 12 * n + (i + 1) then nI (c (j - 12 * n)) else N.1 30 j) := by
          rw [sAr_2, sA_2, sA_2, sA_2, hc i hi, lN_i]
          funext j
          unfold upd
          by_cases h1 : j = 12 * n + i
          · subst h1
            rw [if_pos rfl, if_pos (by omega), show 12 * n + i - 12 * n = i by omega]
          · rw [if_neg h1]
            dsimp only
            by_cases h2 : 12 * n ≤ j ∧ j < 12 * n + i
            · rw [if_pos h2, if_pos (by omega)]
            · rw [if_neg h2, if_neg (by omega)]
        rw [e5]
        exact ih
  have h0 := key 0 (Nat.zero_le _)
  have e6 : (fun j => if 12 * n ≤ j ∧ j < 12 * n + 0 then nI (c (j - 12 * n)) else N.1 30 j) = (sA (sA (sA N 27 n (nI sz)) 28 n (nI ld)) 29 n (nI pw)).1 30 := by
    funext j
    rw [if_neg (by omega)]
    rfl
  rw [e6, sAr_id] at h0
  exact h0

/-! THE START: two new objects stand to each other as they must -/
theorem Rel0 : Rel MX6 MX7 := by
  refine ⟨rfl, fun _ _ => 0, fun s hs => ?_, ⟨by decide, by decide, fun k hk => absurd hk (Nat.not_lt_zero _), fun a ha => absurd ha (Nat.not_lt_zero _)⟩, ⟨⟨rfl, rfl, rfl, fun k hk => absurd hk (Nat.not_lt_zero _), fun r hr => ?_, fun a ha => absurd ha (Nat.not_lt_zero _), fun a ha => ?_, fun h hh => ?_, fun h s hh h0 hsb => ?_, fun s t h1 => absurd rfl h1⟩, fun s hs => ?_, Or.inl rfl⟩, ⟨rfl, rfl, fun k hk => absurd hk (Nat.not_lt_zero _), fun a ha => absurd ha (Nat.not_lt_zero _)⟩, ⟨by decide, fun b hb => absurd hb (Nat.not_lt_zero _)⟩, ⟨⟨rfl, rfl, fun b hb => absurd hb (Nat.not_lt_zero _)⟩, fun b h hb hh hn => ?_, Or.inl rfl⟩, ⟨rfl, fun b hb => absurd hb (Nat.not_lt_zero _)⟩, ⟨fun a b ha => absurd ha (Nat.not_lt_zero _), by decide, by decide, fun m hm => Nat.zero_le _, fun t ht => absurd ht (Nat.not_lt_zero _)⟩, ⟨⟨rfl, rfl, fun m hm => rfl, fun t ht => absurd ht (Nat.not_lt_zero _)⟩, Or.inl rfl⟩, ⟨rfl, rfl, fun m hm => rfl, fun t ht => absurd ht (Nat.not_lt_zero _)⟩⟩
  · match s, hs with
    | 0, _ => exact ⟨rfl, rfl, Or.inl rfl⟩
    | 1, _ => exact ⟨rfl, rfl, Or.inl rfl⟩
    | 2, _ => exact ⟨rfl, rfl, Or.inl rfl⟩
    | 3, _ => exact ⟨rfl, rfl, Or.inl rfl⟩
    | 4, _ => exact ⟨rfl, rfl, Or.inl rfl⟩
    | 5, _ => exact ⟨rfl, rfl, Or.inl rfl⟩
  · rfl
  · show (0 : Int32) = nI (if a < 0 then _ else 0)
    rw [if_neg (Nat.not_lt_zero _)]
    rfl
  · rfl
  · exfalso
    apply h0
    have h2 : s &&& 0 = s := hsb
    rw [Nat.and_zero] at h2
    exact h2.symm
  · have e : s = 0 := by
      have h1 : s < 2 ^ 0 := hs
      omega
    subst e
    refine ⟨rfl, fun _ => ?_, fun _ => rfl⟩
    rintro ⟨a, ha, _⟩
    exact absurd ha (Nat.not_lt_zero _)
  · match b, hb with
    | 0, _ => rfl
    | 1, _ => rfl
    | 2, _ => rfl
    | 3, _ => rfl
    | 4, _ => rfl
    | 5, _ => rfl
    | 6, _ => rfl
    | 7, _ => rfl
theorem in_app {D : va_G} {cl : List vw_C} {w1 w2 : va_W} {H : Heap} (hP : va_P D cl (w1 ++ w2) H) : va_P D cl w1 H := fun k q h => hP k q (by rw [List.getElem?_append_left (List.getElem?_eq_some_iff.mp h).1]; exact h)
theorem in_appD {A : Nat → Prop} {w1 w2 : va_W} (hD : va_D A (w1 ++ w2)) : va_D A w1 := by
  have a1 : ∀ (k : Nat) (q : Nat × va_E), w1[k]? = some q → (w1 ++ w2)[k]? = some q := fun k q h => by rw [List.getElem?_append_left (List.getElem?_eq_some_iff.mp h).1]; exact h
  exact ⟨fun i j x y hi hj hxy => hD.1 i j x y (a1 i x hi) (a1 j y hj) hxy, fun k q h => hD.2 k q (a1 k q h)⟩
theorem in_dis {A : Nat → Prop} {T : Nat → ClassId} {L1 L2 : Lay} {σ τ : Nat → Nat} {M N : Mem} (hD : va_D A (wd T L1 σ M ++ wd T L2 τ N)) : ∀ i, i < L1.length → ∀ j, j < L2.length → σ i ≠ τ j := by
  intro i hi j hj e
  have h1 := wd_get (T := T) (σ := σ) (M := M) (List.getElem?_eq_getElem hi)
  have h2 := wd_get (T := T) (σ := τ) (M := N) (List.getElem?_eq_getElem hj)
  have := hD.1 i (L1.length + j) _ _ (by rw [List.getElem?_append_left (by rw [wd_len]; exact hi)]; exact h1) (by rw [List.getElem?_append_right (by rw [wd_len]; omega), wd_len, Nat.add_sub_cancel_left]; exact h2) e
  omega

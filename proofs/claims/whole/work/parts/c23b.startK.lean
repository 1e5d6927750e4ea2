/-! THE LAW FROM ITS ENTRY -/
set_option maxRecDepth 100000 in
theorem start_K {p : Program} {s : State} {m : MethodId} {meth : Method} {c : Code} {b L : Nat} {xs : Nat → Int32} (C0 : lw_At p s m meth c b L xs) : CallFix p m c cL_law 4 s #[Value.ref b] wsL_law RL ∧ NW s ∧ AO s ∧ ∃ (D : va_G) (T : Nat → ClassId), va_K D vwCl (tyT T) s := by
  obtain ⟨hx, hb, hr, hml, hown, hts, hX, hbl, hlocks, hgv⟩ := id C0
  have S : CallFix p m c cL_law 4 s #[Value.ref b] wsL_law RL := ⟨hx, hb, hml, hown, fun w hw => hts w (wsL_law_in w hw)⟩
  have o4 := hts (.arrayOver (.array .int)) (List.mem_of_getElem? (i := 137) (by decide +kernel))
  have o5 := hts (.arrayOver (.array .long)) (List.mem_of_getElem? (i := 65) (by decide +kernel))
  have hN : NW s := ⟨va_tabs rfl rfl (hts (.methodLinkNest RX4 29 yX6_within RX6) (List.mem_of_getElem? (i := 292) (by decide +kernel))), va_tabs rfl rfl (hts (.methodLinkNest RX1 44 yX6_within RX6) (List.mem_of_getElem? (i := 392) (by decide +kernel))), va_tabs rfl rfl (hts (.methodLinkNest RX3 45 yX6_within RX6) (List.mem_of_getElem? (i := 593) (by decide +kernel))), va_tabs rfl rfl (hts (.methodLinkNest RX2 43 yX6_within RX6) (List.mem_of_getElem? (i := 699) (by decide +kernel)))⟩
  have hO : AO s := ⟨over_moved (Vm.Alike.refl s.vm) o4, over_moved (Vm.Alike.refl s.vm) o5⟩
  refine ⟨S, hN, hO, ?_⟩
  obtain ⟨c0, i0, k0⟩ := u_known (C := RX0) (T := TX0) (N := 4) (n := 4) hts inX0 (S.2.2.2.2 (.instantiable RX0 4) (by decide +kernel))
  obtain ⟨c1, i1, k1⟩ := u_known (C := RX1) (T := TX1) (N := 13) (n := 13) hts inX1 (S.2.2.2.2 (.instantiable RX1 13) (by decide +kernel))
  obtain ⟨c2, i2, k2⟩ := u_known (C := RX2) (T := TX2) (N := 12) (n := 12) hts inX2 (S.2.2.2.2 (.instantiable RX2 12) (by decide +kernel))
  obtain ⟨c3, i3, k3⟩ := u_known (C := RX3) (T := TX3) (N := 9) (n := 9) hts inX3 (S.2.2.2.2 (.instantiable RX3 9) (by decide +kernel))
  obtain ⟨c4, i4, k4⟩ := u_known (C := RX4) (T := TX4) (N := 3) (n := 3) hts inX4 (S.2.2.2.2 (.instantiable RX4 3) (by decide +kernel))
  obtain ⟨c5, i5, k5⟩ := u_known (C := RX5) (T := TX5) (N := 6) (n := 6) hts inX5 (S.2.2.2.2 (.instantiable RX5 6) (by decide +kernel))
  obtain ⟨c6, i6, k6⟩ := u_known (C := RX6) (T := TX6) (N := 6) (n := 6) hts inX6 (S.2.2.2.2 (.instantiable RX6 6) (by decide +kernel))
  obtain ⟨c7, i7, k7⟩ := u_known (C := RX7) (T := TX7) (N := 42) (n := 42) hts inX7 (S.2.2.2.2 (.instantiable RX7 42) (by decide +kernel))
  obtain ⟨a1, q1, m1, f1, g1, h1⟩ := Cond.arrayClass_spec (S.2.2.2.2 (.arrayClass .int) (by decide +kernel))
  obtain ⟨a2, q2, m2, f2, g2, h2⟩ := Cond.arrayClass_spec (S.2.2.2.2 (.arrayClass .boolean) (by decide +kernel))
  obtain ⟨a3, q3, m3, f3, g3, h3⟩ := Cond.arrayClass_spec (S.2.2.2.2 (.arrayClass .long) (by decide +kernel))
  obtain ⟨m4, a4, q4, -, -, g4, h4, f4⟩ := arrayOverA_spec o4
  obtain ⟨m5, a5, q5, -, -, g5, h5, f5⟩ := arrayOverA_spec o5
  refine ⟨(fun k => if k = 0 then c0 else if k = 1 then c1 else if k = 2 then c2 else if k = 3 then c3 else if k = 4 then c4 else if k = 5 then c5 else if k = 6 then c6 else c7, fun k => if k = 0 then i0 else if k = 1 then i1 else if k = 2 then i2 else if k = 3 then i3 else if k = 4 then i4 else if k = 5 then i5 else if k = 6 then i6 else i7), fun j => if j = 1 then a1 else if j = 2 then a2 else if j = 3 then a3 else if j = 4 then a4 else a5, fun k q hq => ?_, fun k q hq => ?_⟩
  · match k, hq with
    | 0, hq => cases hq; exact k0
    | 1, hq => cases hq; exact k1
    | 2, hq => cases hq; exact k2
    | 3, hq => cases hq; exact k3
    | 4, hq => cases hq; exact k4
    | 5, hq => cases hq; exact k5
    | 6, hq => cases hq; exact k6
    | 7, hq => cases hq; exact k7
    | k + 8, hq => exact absurd hq (by simp [vwCl])
  · match k, hq with
    | 0, hq => cases hq; exact ⟨fun n z => ⟨(fun k h => by cases h), q1, g1, m1, h1⟩, f1⟩
    | 1, hq => cases hq; exact ⟨fun n z => ⟨(fun k h => by cases h), q2, g2, m2, h2⟩, f2⟩
    | 2, hq => cases hq; exact ⟨fun n z => ⟨(fun k h => by cases h), q3, g3, m3, h3⟩, f3⟩
    | 3, hq => cases hq; exact ⟨fun n z => ⟨(fun k h => by cases h), q4, g4, m4, h4⟩, f4⟩
    | 4, hq => cases hq; exact ⟨fun n z => ⟨(fun k h => by cases h), q5, g5, m5, h5⟩, f5⟩
    | k + 5, hq => exact absurd hq (by simp [tyT])

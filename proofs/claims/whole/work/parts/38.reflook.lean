/-! THE REFERENCE'S LOOK: its tables -/
theorem EqN.up {N0 N : Mem} (h : EqN N0 N) {k j : Nat} {v : Int32} (hk : k = 11 ∨ k = 12 ∨ k = 13) : EqN N0 (sA N k j v) :=
  ⟨h.1, fun a b c d => (sA_1 a (by rcases hk with rfl | rfl | rfl <;> assumption)).trans (h.2 a b c d)⟩
theorem can_step {A : Abs} {w c i : Nat} (hc : c ≤ 11) : canA A w (12 - c) i ↔ (canA A w (11 - c) i ∨ (wSt w c = true ∧ ∃ t, t ≠ 0 ∧ goodT A w c i t)) := by
  have e : 12 - c = (11 - c) + 1 := by omega
  have e2 : 11 - (11 - c) = c := by omega
  rw [e]
  show (_ ∨ _) ↔ _
  rw [e2]
  exact Iff.rfl
theorem clashP_s {fo : Nat → Nat} {a s : Nat} : clashP fo (a + 1) s ↔ (clashP fo a s ∨ (s.testBit a = true ∧ ¬ s &&& fo a = 0)) := by
  constructor
  · rintro ⟨b, hb, h1, h2⟩
    by_cases e : b = a
    · subst e; exact Or.inr ⟨h1, h2⟩
    · exact Or.inl ⟨b, by omega, h1, h2⟩
  · rintro (⟨b, hb, h1, h2⟩ | ⟨h1, h2⟩)
    · exact ⟨b, by omega, h1, h2⟩
    · exact ⟨a, by omega, h1, h2⟩
theorem nar0 : vp_nar .boolean 0 = 0 := rfl
theorem nar1 : vp_nar .boolean 1 = 1 := rfl
theorem r_look {A : Abs} {N0 : Mem} {f : Nat} (hR : HR A) (hN : HN A N0) (hf : f ≤ 16) {post : Mem → Prop} (hp : ∀ N, EqN N0 N → LK A f N → post N) : qX7_look (nI f) N0 post := by
  have h10 := pw10 hR
  have hn12 := hR.1
  have hna10 := hR.2.1
  have hw : stA A f < 2 ^ A 0 0 := stA_lt A f
  intro R9 R31 R143 R150 R177 R247 R262 h9 h31 h143 h150 h177 h247 h262 v1 e1
  subst e1
  rw [hN.2.1, bx_shl (by omega)]
  have ad : ∀ m s : Nat, (1024 : Int32) * nI m + nI s = nI (1024 * m + s) := fun m s => by
    rw [show (1024 : Int32) = nI 1024 from rfl, pk_mul, nI_add]
  have mone : ∀ c : Nat, nI c + (-1) = nI c - 1 := fun c => (Int32.sub_eq_add_neg (nI c) 1).symm
  -- the second part
  have part2 : ∀ c, c ≤ A 0 0 → ∀ N, EqN N0 N → NM A (2 ^ A 0 1) N → (∀ m, c ≤ m → m ≤ A 0 0 → CN A (stA A f) m (2 ^ A 0 1) N) → R143 (nI (2 ^ A 0 1)) (nI c - 1) N := by
    intro c
    induction c with
    | zero =>
      intro _ N hE hM hC
      apply h143
      exact ⟨fun _ => hp N hE ⟨hM, fun m hm => hC m (Nat.zero_le _) hm⟩, fun h => absurd (show nI 0 - 1 < 0 by decide) h⟩
    | succ c ihc =>
      intro hc N hE hM hC
      rw [nI_pred]
      apply h143
      refine ⟨fun h => absurd h (nI_pos (by omega)), fun _ => ?_⟩
      have rows : ∀ i, i ≤ 2 ^ A 0 1 → ∀ N, EqN N0 N → NM A (2 ^ A 0 1) N → (∀ m, c + 1 ≤ m → m ≤ A 0 0 → CN A (stA A f) m (2 ^ A 0 1) N) → CN A (stA A f) c i N → R150 (nI (2 ^ A 0 1)) (nI c) (nI i) N := by
        refine up_to (fun N hE hM hC hC1 => ?_) (fun i hi ihi N hE hM hC hC1 => ?_)
        · apply h150
          refine ⟨fun _ => ?_, fun h => absurd (nI_le (Nat.le_refl _) (by omega)) h⟩
          rintro _ rfl
          rw [mone]
          refine ihc (by omega) N hE hM (fun m h1 h2 => ?_)
          by_cases e : m = c
          · subst e; exact hC1
          · exact hC m (by omega) h2
        · have hN' := hN.eq hE
          -- the end of a row
          have done : ∀ is, is = bI (canA A (stA A f) (12 - c) i) → R262 (nI (2 ^ A 0 1)) (nI c) (nI i) is N := by
            rintro _ rfl
            apply h262
            unfold qX7_look_b262
            rw [ad, nI_clamp (by omega), bI_nar]
            refine ⟨vp_in_nI (by omega) (by omega), ?_⟩
            rintro _ rfl _ rfl
            rw [nI_1]
            refine ihi _ (hE.up (Or.inr (Or.inr rfl))) hM (fun m h1 h2 s hs => ?_) (fun s hs => ?_)
            · rw [sA_g, if_neg (by omega)]
              exact hC m h1 h2 s hs
            · rw [sA_g]
              by_cases e : s = i
              · subst e
                rw [if_pos ⟨rfl, rfl⟩]
              · rw [if_neg (by omega)]
                exact hC1 s (by omega)
          have one : canA A (stA A f) (12 - c) i → ∀ x6, R177 (nI (2 ^ A 0 1)) (nI c) (nI i) 1 x6 N := by
            intro hcan x6
            apply h177
            have hd := done 1 (bI_t hcan).symm
            exact ⟨fun _ => hd, fun _ => ⟨fun _ => hd, fun e => absurd e (by decide)⟩⟩
          have sets : ∀ t, sb t i → (∀ x, t < x → x ≤ i → ¬ goodT A (stA A f) c i x) → ∀ is, is = bI (canA A (stA A f) (11 - c) i) → R177 (nI (2 ^ A 0 1)) (nI c) (nI i) is (nI t) N := by
            intro t
            induction t using Nat.strongRecOn with
            | ind t iht =>
              rintro hti hno _ rfl
              have hle := sb_le hti
              have hx := sb_le (sb_xor hti)
              have next : 0 < t → ¬ canA A (stA A f) (11 - c) i → ¬ goodT A (stA A f) c i t → R247 (nI (2 ^ A 0 1)) (nI c) (nI i) (nI t) N := by
                intro h0 hnc hng
                apply h247
                rintro _ rfl
                rw [show (1 : Int32) = nI 1 from rfl, pk_sub (by omega), bx_and]
                have hlt : (t - 1) &&& i < t := Nat.lt_of_le_of_lt Nat.and_le_left (by omega)
                refine iht _ hlt (sb_and _ _) (fun x h1 h2 hg => ?_) 0 (bI_f hnc).symm
                rcases Nat.lt_trichotomy x t with h3 | h3 | h3
                · have := sb_next t i x hti hg.1 h3
                  omega
                · subst h3; exact hng hg
                · exact hno x h3 h2 hg
              apply h177
              refine ⟨fun h => ?_, fun h => ⟨fun e => ?_, fun e => ?_⟩⟩
              · have hz : t = 0 := by
                  have h1 : nI t ≤ nI 0 := h
                  rw [nI_leI (by omega) (by omega)] at h1
                  omega
                subst hz
                refine done _ (bI_iff ?_)
                rw [can_step (by omega)]
                refine ⟨Or.inl, fun h1 => ?_⟩
                rcases h1 with h1 | ⟨_, x, hx0, hg⟩
                · exact h1
                · exact absurd hg (hno x (by omega) (sb_le hg.1))
              · have hcan : canA A (stA A f) (11 - c) i := Classical.byContradiction fun hn => e (bI_f hn)
                refine done _ (bI_iff ?_)
                exact ⟨fun h1 => (can_step (by omega)).mpr (Or.inl h1), fun _ => hcan⟩
              · have hnc : ¬ canA A (stA A f) (11 - c) i := bI_0.mp e
                have hpos : 0 < t := by
                  rcases Nat.eq_zero_or_pos t with e0 | e0
                  · subst e0; exact absurd (show nI 0 ≤ 0 by decide) h
                  · exact e0
                refine r_stands hR hN' (by omega) hf (fun hb => b1_e ?_) (fun hb => b0_e ?_)
                · have hst : wSt (stA A f) c = true := by
                    show (stA A f).testBit c = true
                    rw [stA_bit (by omega)]
                    exact hb
                  have hC2 := hC (c + 1) (Nat.le_refl _) (by omega) (i ^^^ t) (by omega)
                  rw [show 12 - (c + 1) = 11 - c by omega] at hC2
                  rw [nI_1, bx_xor, ad, nI_clamp (show t < 2 ^ 31 by omega), nI_clamp (show c < 2 ^ 31 by omega), nI_clamp (show 1024 * (c + 1) + (i ^^^ t) < 2 ^ 31 by omega), (hM t (by omega)).1, (hM t (by omega)).2, (hN'.2.2.1 c (by omega)).1, hC2, nI_ltI (by have := (hR.2.2.1 c (by omega)).2.1; omega) (by have := ldA_le hR t; omega), bI_0, bI_0]
                  refine ⟨vp_in_nI (by omega) (by omega), fun h3 => ?_, fun h3 => ⟨vp_in_nI (by omega) (by omega), vp_in_nI (by omega) (by omega), fun h4 => ?_, fun h4 => ⟨vp_in_nI (by omega) (by omega), fun h5 => ?_, fun h5 => ?_⟩⟩⟩
                  · exact next hpos hnc (fun hg => h3 hg.2.1.2)
                  · exact next hpos hnc (fun hg => by have := hg.2.1.1; unfold ldA at h4; omega)
                  · exact next hpos hnc (fun hg => h5 hg.2.2)
                  · rintro _ rfl
                    have hg : goodT A (stA A f) c i t := ⟨hti, ⟨by unfold ldA at h4; omega, Classical.byContradiction fun hn => h3 hn⟩, Classical.byContradiction fun hn => h5 hn⟩
                    exact one ((can_step (by omega)).mpr (Or.inr ⟨hst, t, by omega, hg⟩)) _
                · refine done _ (bI_iff ?_)
                  rw [can_step (by omega)]
                  refine ⟨Or.inl, fun h1 => ?_⟩
                  rcases h1 with h1 | ⟨h2, _⟩
                  · exact h1
                  · have h3 : (stA A f).testBit c = true := h2
                    rw [stA_bit (by omega), hb] at h3
                    exact absurd h3 (by decide)
          have hC3 := hC (c + 1) (Nat.le_refl _) (by omega) i hi
          rw [show 12 - (c + 1) = 11 - c by omega] at hC3
          apply h150
          unfold qX7_look_b150
          rw [nI_1, ad, nI_clamp (by omega), hC3]
          refine ⟨fun h => absurd h (nI_ge hi (by omega)), fun _ => ⟨vp_in_nI (by omega) (by omega), ?_⟩⟩
          rintro _ rfl
          exact sets i (sb_rf i) (fun x h1 h2 => by omega) _ rfl
      exact rows 0 (Nat.zero_le _) N hE hM (fun m h1 h2 => hC m h1 h2) (fun s hs => by omega)
  -- the first part
  have part1 : ∀ i, i ≤ 2 ^ A 0 1 → ∀ N, EqN N0 N → NM A i N → CN A (stA A f) (A 0 0) i N → R9 (nI (2 ^ A 0 1)) (nI i) N := by
    refine up_to (fun N hE hM hC => ?_) (fun i hi ih N hE hM hC => ?_)
    · apply h9
      unfold qX7_look_b9
      rw [show N.1 0 4 = nI (A 0 0) from (hN.eq hE).1]
      refine ⟨fun _ => ?_, fun h => absurd (nI_le (Nat.le_refl _) (by omega)) h⟩
      rintro _ rfl
      refine part2 (A 0 0) (Nat.le_refl _) N hE hM (fun m h1 h2 => ?_)
      rw [show m = A 0 0 by omega]
      exact hC
    · have inner : ∀ a, a ≤ A 0 1 → ∀ N, EqN N0 N → NM A i N → CN A (stA A f) (A 0 0) i N → N.1 11 i = nI (sumB (A 4) i a) → N.1 12 i = bI (¬ clashP (A 7) a i) → R31 (nI (2 ^ A 0 1)) (nI i) (nI a) N := by
        refine up_to (fun N hE hM hC h11 h12 => ?_) (fun a ha iha N hE hM hC h11 h12 => ?_)
        · have hN' := hN.eq hE
          have hz := can_none (st := wSt (stA A f)) (ok := okA A) (j := 12 - A 0 0) (s := i) (fun k hk => bit_lt hw (by omega))
          have go : ∀ v, v = bI (canA A (stA A f) (12 - A 0 0) i) → R9 (nI (2 ^ A 0 1)) (nI (i + 1)) (sA N 13 (1024 * A 0 0 + i) v) := by
            rintro _ rfl
            refine ih _ (hE.up (Or.inr (Or.inr rfl))) (fun s hs => ?_) (fun s hs => ?_)
            · show N.1 11 s = _ ∧ N.1 12 s = _
              by_cases e : s = i
              · subst e; exact ⟨h11, h12⟩
              · exact hM s (by omega)
            · rw [sA_g]
              by_cases e : s = i
              · subst e
                rw [if_pos ⟨rfl, rfl⟩]
              · rw [if_neg (by omega)]
                exact hC s (by omega)
          apply h31
          unfold qX7_look_b31
          rw [hN'.1, hN'.2.1, ad, nI_clamp (show 1024 * A 0 0 + i < 2 ^ 31 by omega), nar0, nar1]
          refine ⟨fun _ => ⟨fun e => ⟨vp_in_nI (by omega) (by omega), ?_⟩, fun e => ⟨vp_in_nI (by omega) (by omega), ?_⟩⟩, fun h => absurd (nI_le (Nat.le_refl _) (by omega)) h⟩
          · rintro _ rfl _ rfl
            rw [nI_1]
            refine go _ (bI_f (fun hc => e ?_)).symm
            rw [hz.mp hc]
            rfl
          · rintro _ rfl _ rfl
            rw [nI_1]
            refine go _ (bI_t (hz.mpr ?_)).symm
            have e2 : nI i = nI 0 := e
            rwa [nI_eq (by omega) (by omega)] at e2
        · have hN' := hN.eq hE
          have hnd := (hN'.2.2.2 a ha).1
          have hfo := (hN'.2.2.2 a ha).2.2.2
          apply h31
          unfold qX7_look_b31
          rw [hN'.2.1, bx_bit (show i < 2 ^ 31 by omega) (by omega), nI_clamp (show i < 2 ^ 31 by omega), nI_clamp (show a < 2 ^ 31 by omega), h11, hnd, nI_add, nar0, nar1]
          refine ⟨fun h => absurd h (nI_ge ha (by omega)), fun _ => ⟨fun hb => ?_, fun hb => ?_⟩⟩
          · have hbit : i.testBit a = true := by
              cases hq : i.testBit a with
              | true => rfl
              | false => rw [hq, if_neg (by decide)] at hb; exact absurd rfl hb
            have es : sumB (A 4) i a + A 4 a = sumB (A 4) i (a + 1) := by
              show _ = sumB (A 4) i a + _
              rw [if_pos hbit]
            rw [es]
            -- what holds behind both stores
            have go : ∀ v, v = bI (¬ clashP (A 7) (a + 1) i) → R31 (nI (2 ^ A 0 1)) (nI i) (nI (a + 1)) (sA (sA N 11 i (nI (sumB (A 4) i (a + 1)))) 12 i v) := by
              rintro _ rfl
              refine iha _ ((hE.up (Or.inl rfl)).up (Or.inr (Or.inl rfl))) (fun s hs => ?_) (fun s hs => hC s hs) ?_ ?_
              · rw [sA_g, sA_g, sA_g, sA_g, if_neg (by omega), if_neg (by omega), if_neg (by omega), if_neg (by omega)]
                exact hM s hs
              · rw [sA_g, sA_g, if_neg (by omega), if_pos ⟨rfl, rfl⟩]
              · rw [sA_g, if_pos ⟨rfl, rfl⟩]
            refine ⟨vp_in_nI (by omega) (by omega), vp_in_nI (by omega) (by omega), vp_in_nI (by omega) (by omega), ?_⟩
            rintro _ rfl
            rw [show (sA N 11 i (nI (sumB (A 4) i (a + 1)))).1 12 i = bI (¬ clashP (A 7) a i) from h12, show (sA N 11 i (nI (sumB (A 4) i (a + 1)))).1 10 a = nI (A 7 a) from hfo, bx_and, bI_0]
            refine ⟨vp_in_nI (by omega) (by omega), fun h => ⟨vp_in_nI (by omega) (by omega), ?_⟩, fun h => ⟨vp_in_nI (by omega) (by omega), fun h2 => ⟨vp_in_nI (by omega) (by omega), ?_⟩, fun h2 => ⟨vp_in_nI (by omega) (by omega), ?_⟩⟩⟩
            all_goals
              rintro _ rfl _ rfl
              rw [nI_1]
              apply go
            · exact (bI_f (fun hq => h (fun hc => hq (clashP_s.mpr (Or.inl hc))))).symm
            · refine (bI_f (fun hq => hq (clashP_s.mpr (Or.inr ⟨hbit, fun e0 => h2 ?_⟩)))).symm
              rw [e0]
              rfl
            · refine (bI_t (fun hq => ?_)).symm
              rcases clashP_s.mp hq with h3 | ⟨_, h3⟩
              · exact h (fun hc => hc h3)
              · apply h3
                have h4 : nI (i &&& A 7 a) = nI 0 := h2
                have h5 : i &&& A 7 a ≤ i := Nat.and_le_left
                rwa [nI_eq (by omega) (by omega)] at h4
          · have hbit : i.testBit a = false := by
              cases hq : i.testBit a with
              | false => rfl
              | true => rw [hq, if_pos rfl] at hb; exact absurd hb (by decide)
            rintro _ rfl
            rw [nI_1]
            refine iha N hE hM hC ?_ ?_
            · rw [h11]
              have es : sumB (A 4) i (a + 1) = sumB (A 4) i a := by
                show sumB (A 4) i a + _ = _
                rw [if_neg (by rw [hbit]; decide)]
                rfl
              rw [es]
            · rw [h12]
              refine bI_iff (not_congr ?_)
              rw [clashP_s, hbit]
              exact ⟨Or.inl, fun h => h.elim id (fun h => absurd h.1 (by decide))⟩
      apply h9
      unfold qX7_look_b9
      rw [nI_clamp (show i < 2 ^ 31 by omega), nar1]
      refine ⟨fun h => absurd h (nI_ge hi (by omega)), fun _ => ⟨vp_in_nI (by omega) (by omega), ?_⟩⟩
      rintro _ rfl
      refine ⟨vp_in_nI (by omega) (by omega), ?_⟩
      rintro _ rfl
      refine inner 0 (Nat.zero_le _) _ ((hE.up (Or.inl rfl)).up (Or.inr (Or.inl rfl))) (fun s hs => ?_) (fun s hs => hC s hs) ?_ ?_
      · rw [sA_g, sA_g, sA_g, sA_g, if_neg (by omega), if_neg (by omega), if_neg (by omega), if_neg (by omega)]
        exact hM s hs
      · rw [sA_g, sA_g, if_neg (by omega), if_pos ⟨rfl, rfl⟩]
        rfl
      · rw [sA_g, if_pos ⟨rfl, rfl⟩]
        exact (bI_t (fun ⟨b, hb, _⟩ => by omega)).symm
  exact part1 0 (Nat.zero_le _) N0 (EqN.rf N0) (fun s hs => by omega) (fun s hs => by omega)

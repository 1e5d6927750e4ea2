/-! FLOWS: sums, what may yet flow (a table R of 34 by 34; C: both ways together; rs: a row's sum), and cuts -/
theorem sm_congr {f g : Nat → Nat} : ∀ n, (∀ i, i < n → f i = g i) → sm f n = sm g n
  | 0, _ => rfl
  | n + 1, h => by
    show sm f n + f n = sm g n + g n
    rw [sm_congr n (fun i hi => h i (by omega)), h n (by omega)]
theorem sm_le {f g : Nat → Nat} : ∀ n, (∀ i, i < n → f i ≤ g i) → sm f n ≤ sm g n
  | 0, _ => Nat.le_refl _
  | n + 1, h => by
    show sm f n + f n ≤ sm g n + g n
    have := sm_le n (fun i hi => h i (by omega))
    have := h n (by omega)
    omega
theorem sm_add {f g : Nat → Nat} : ∀ n, sm (fun i => f i + g i) n = sm f n + sm g n
  | 0 => rfl
  | n + 1 => by
    show sm (fun i => f i + g i) n + (f n + g n) = (sm f n + f n) + (sm g n + g n)
    rw [sm_add n]
    omega
theorem sm_0 : ∀ n, sm (fun _ => 0) n = 0
  | 0 => rfl
  | n + 1 => by
    show sm (fun _ => 0) n + 0 = 0
    rw [sm_0 n]
theorem sm_z {f : Nat → Nat} {n : Nat} (h : ∀ i, i < n → f i = 0) : sm f n = 0 := by rw [sm_congr n h, sm_0]
theorem sm_in {f : Nat → Nat} {k : Nat} : ∀ n, k < n → f k ≤ sm f n
  | 0, h => absurd h (by omega)
  | n + 1, h => by
    show f k ≤ sm f n + f n
    by_cases e : k = n
    · subst e; omega
    · have := sm_in (f := f) (k := k) n (by omega)
      omega
theorem sm_up0 {f : Nat → Nat} {k v : Nat} : ∀ n, n ≤ k → sm (uN f k v) n = sm f n
  | 0, _ => rfl
  | n + 1, h => by
    show sm (uN f k v) n + uN f k v n = sm f n + f n
    rw [sm_up0 n (by omega), show uN f k v n = f n from if_neg (by omega)]
theorem sm_up {f : Nat → Nat} {k v : Nat} : ∀ n, k < n → sm (uN f k v) n + f k = sm f n + v
  | 0, h => absurd h (by omega)
  | n + 1, h => by
    show sm (uN f k v) n + uN f k v n + f k = sm f n + f n + v
    by_cases e : k = n
    · subst e
      rw [sm_up0 k (Nat.le_refl _), show uN f k v k = v from if_pos rfl]
      omega
    · have := sm_up (f := f) (k := k) (v := v) n (by omega)
      rw [show uN f k v n = f n from if_neg (by omega)]
      omega
theorem sm_split {f : Nat → Nat} {a : Nat} : ∀ b, sm f (a + b) = sm f a + sm (fun i => f (a + i)) b
  | 0 => rfl
  | b + 1 => by
    show sm f (a + b) + f (a + b) = sm f a + (sm (fun i => f (a + i)) b + f (a + b))
    rw [sm_split b]
    omega
theorem sm_swap {f : Nat → Nat → Nat} {n : Nat} : ∀ m, sm (fun i => sm (fun j => f i j) n) m = sm (fun j => sm (fun i => f i j) m) n
  | 0 => by
    show 0 = sm (fun j => 0) n
    rw [sm_0]
  | m + 1 => by
    show sm (fun i => sm (fun j => f i j) n) m + sm (fun j => f m j) n = sm (fun j => sm (fun i => f i j) m + f m j) n
    rw [sm_swap m, sm_add]
theorem sm_34 {f : Nat → Nat} : sm f 34 = sm f 8 + sm (fun h => f (8 + h)) 24 + f 32 + f 33 := by
  show sm f 32 + f 32 + f 33 = _
  rw [show (32 : Nat) = 8 + 24 from rfl, sm_split (f := f) (a := 8) 24]
def MX (C : Nat → Nat → Nat) (rs : Nat → Nat) (R : Nat → Nat → Nat) : Prop := (∀ u v, u < 34 → v < 34 → R u v + R v u = C u v) ∧ ∀ u, u < 34 → sm (R u) 34 = rs u
/-- what lies within Z -/
def dz (Z : Nat → Bool) (R : Nat → Nat → Nat) : Nat := sm (fun u => sm (fun v => if Z u = true ∧ Z v = true then R u v else 0) 34) 34
def zs (Z : Nat → Bool) (f : Nat → Nat) : Nat := sm (fun u => if Z u = true then f u else 0) 34
theorem dz_two {Z : Nat → Bool} {C R : Nat → Nat → Nat} (h : ∀ u v, u < 34 → v < 34 → R u v + R v u = C u v) : dz Z R + dz Z R = dz Z C := by
  have e : dz Z R = sm (fun u => sm (fun v => if Z u = true ∧ Z v = true then R v u else 0) 34) 34 := by
    unfold dz
    rw [sm_swap (f := fun u v => if Z u = true ∧ Z v = true then R u v else 0) 34]
    refine sm_congr 34 (fun u _ => sm_congr 34 (fun v _ => ?_))
    by_cases c : Z v = true ∧ Z u = true
    · rw [if_pos c, if_pos ⟨c.2, c.1⟩]
    · rw [if_neg c, if_neg (fun d => c ⟨d.2, d.1⟩)]
  have e2 : dz Z R + dz Z R = dz Z R + sm (fun u => sm (fun v => if Z u = true ∧ Z v = true then R v u else 0) 34) 34 := by rw [← e]
  rw [e2]
  unfold dz
  rw [← sm_add]
  refine sm_congr 34 (fun u hu => ?_)
  rw [← sm_add]
  refine sm_congr 34 (fun v hv => ?_)
  by_cases c : Z u = true ∧ Z v = true
  · rw [if_pos c, if_pos c, if_pos c, h u v hu hv]
  · rw [if_neg c, if_neg c, if_neg c]
theorem zs_ge {Z : Nat → Bool} {rs : Nat → Nat} {R : Nat → Nat → Nat} (h : ∀ u, u < 34 → sm (R u) 34 = rs u) : dz Z R ≤ zs Z rs := by
  unfold dz zs
  refine sm_le 34 (fun u hu => ?_)
  by_cases c : Z u = true
  · rw [if_pos c, ← h u hu]
    refine sm_le 34 (fun v _ => ?_)
    by_cases d : Z u = true ∧ Z v = true
    · rw [if_pos d]; exact Nat.le_refl _
    · rw [if_neg d]; exact Nat.zero_le _
  · rw [if_neg c, sm_z (fun v _ => if_neg (fun d => c d.1))]
    exact Nat.le_refl _
theorem zs_eq {Z : Nat → Bool} {rs : Nat → Nat} {R : Nat → Nat → Nat} (h : ∀ u, u < 34 → sm (R u) 34 = rs u) (hz : ∀ u v, u < 34 → v < 34 → Z u = true → Z v = false → R u v = 0) : zs Z rs = dz Z R := by
  unfold dz zs
  refine sm_congr 34 (fun u hu => ?_)
  by_cases c : Z u = true
  · rw [if_pos c, ← h u hu]
    refine sm_congr 34 (fun v hv => ?_)
    by_cases d : Z v = true
    · rw [if_pos ⟨c, d⟩]
    · rw [if_neg (fun e => d e.2)]
      exact hz u v hu hv c (by simpa using d)
  · rw [if_neg c, sm_z (fun v _ => if_neg (fun d => c d.1))]
/-- a cut: what else could have flowed is no more -/
theorem mincut {Z : Nat → Bool} {C R R' : Nat → Nat → Nat} {rs rs' : Nat → Nat} {s t : Nat} (h : MX C rs R) (h' : MX C rs' R') (hz : ∀ u v, u < 34 → v < 34 → Z u = true → Z v = false → R u v = 0) (hs : s < 34) (hZs : Z s = true) (hZt : Z t = false) (he : ∀ u, u < 34 → u ≠ s → u ≠ t → rs u = rs' u) : rs s ≤ rs' s := by
  have e1 := dz_two (Z := Z) h.1
  have e2 := dz_two (Z := Z) h'.1
  have e3 := zs_eq h.2 hz
  have e4 := zs_ge (Z := Z) h'.2
  have e5 : zs Z rs' + rs s = zs Z rs + rs' s := by
    have e6 : zs Z rs' = sm (uN (fun u => if Z u = true then rs u else 0) s (rs' s)) 34 := by
      unfold zs
      refine sm_congr 34 (fun u hu => ?_)
      unfold uN
      by_cases c : u = s
      · rw [if_pos c, c, if_pos hZs]
      · rw [if_neg c]
        dsimp only
        by_cases d : Z u = true
        · rw [if_pos d, if_pos d, he u hu c (fun e => by rw [e, hZt] at d; exact absurd d (by decide))]
        · rw [if_neg d, if_neg d]
    have e7 := sm_up (f := fun u => if Z u = true then rs u else 0) (k := s) (v := rs' s) 34 hs
    rw [if_pos hZs] at e7
    rw [e6]
    exact e7
  omega
/-- two ways changed by d -/
def up2 (R : Nat → Nat → Nat) (u v d : Nat) : Nat → Nat → Nat := fun a b => if a = u ∧ b = v then R u v - d else if a = v ∧ b = u then R v u + d else R a b
/-- the first k steps of a way p gone -/
def gone (R : Nat → Nat → Nat) (p : Nat → Nat) (d : Nat) : Nat → Nat → Nat → Nat
  | 0 => R
  | k + 1 => up2 (gone R p d k) (p (k + 1)) (p k) d
theorem gone_o {R : Nat → Nat → Nat} {p : Nat → Nat} {d a b : Nat} : ∀ k, (∀ i, i < k → a ≠ p i ∧ b ≠ p i) → gone R p d k a b = R a b
  | 0, _ => rfl
  | k + 1, h => by
    show up2 (gone R p d k) (p (k + 1)) (p k) d a b = R a b
    unfold up2
    rw [if_neg (fun c => (h k (by omega)).2 c.2), if_neg (fun c => (h k (by omega)).1 c.1)]
    exact gone_o k (fun i hi => h i (by omega))
/-- a way from s to t, told from t back -/
def WAY (R : Nat → Nat → Nat) (s t L : Nat) (p : Nat → Nat) : Prop := p 0 = t ∧ p L = s ∧ (∀ k, k ≤ L → p k < 34) ∧ (∀ i j, i < j → j ≤ L → p i ≠ p j) ∧ ∀ k, k < L → 0 < R (p (k + 1)) (p k)
theorem gone_e {R : Nat → Nat → Nat} {s t L d : Nat} {p : Nat → Nat} (h : WAY R s t L p) {k : Nat} (hk : k < L) : gone R p d k (p (k + 1)) (p k) = R (p (k + 1)) (p k) := gone_o k (fun i hi => ⟨fun e => h.2.2.2.1 i (k + 1) (by omega) (by omega) e.symm, fun e => h.2.2.2.1 i k hi (by omega) e.symm⟩)
theorem gone_sym {C R : Nat → Nat → Nat} {s t L d : Nat} {p : Nat → Nat} (h : WAY R s t L p) (hd : ∀ k, k < L → d ≤ R (p (k + 1)) (p k)) (hR : ∀ u v, u < 34 → v < 34 → R u v + R v u = C u v) : ∀ k, k ≤ L → ∀ u v, u < 34 → v < 34 → gone R p d k u v + gone R p d k v u = C u v
  | 0, _ => hR
  | k + 1, hk => by
    intro u v hu hv
    have ih := gone_sym h hd hR k (by omega)
    have e := gone_e (d := d) h (show k < L by omega)
    have e2 := hd k (by omega)
    have ne := h.2.2.2.1 k (k + 1) (by omega) hk
    have i1 := ih (p (k + 1)) (p k) (h.2.2.1 _ hk) (h.2.2.1 _ (by omega))
    have i2 := ih u v hu hv
    show up2 (gone R p d k) (p (k + 1)) (p k) d u v + up2 (gone R p d k) (p (k + 1)) (p k) d v u = C u v
    unfold up2
    by_cases c1 : u = p (k + 1) ∧ v = p k
    · rw [if_pos c1, if_neg (fun c => ne (c1.2.symm.trans c.1)), if_pos ⟨c1.2, c1.1⟩]
      rw [c1.1, c1.2]
      omega
    · rw [if_neg c1]
      by_cases c2 : u = p k ∧ v = p (k + 1)
      · rw [if_pos c2, if_pos ⟨c2.2, c2.1⟩]
        rw [c2.1, c2.2] at i2 ⊢
        omega
      · rw [if_neg c2, if_neg (fun c => c2 ⟨c.2, c.1⟩), if_neg (fun c => c1 ⟨c.2, c.1⟩)]
        exact i2
theorem up2_row {R : Nat → Nat → Nat} {u v d a : Nat} (hne : u ≠ v) (hv : v < 34) (hu : u < 34) (hd : d ≤ R u v) : sm (up2 R u v d a) 34 + (if a = u then d else 0) = sm (R a) 34 + (if a = v then d else 0) := by
  by_cases c1 : a = u
  · subst c1
    rw [if_pos rfl, if_neg hne]
    have e : sm (up2 R a v d a) 34 = sm (uN (R a) v (R a v - d)) 34 := by
      refine sm_congr 34 (fun b _ => ?_)
      unfold up2 uN
      by_cases c : b = v
      · rw [if_pos ⟨rfl, c⟩, if_pos c]
      · rw [if_neg (fun e => c e.2), if_neg (fun e => hne e.1), if_neg c]
    have e2 := sm_up (f := R a) (k := v) (v := R a v - d) 34 hv
    omega
  · rw [if_neg c1]
    by_cases c2 : a = v
    · subst c2
      rw [if_pos rfl]
      have e : sm (up2 R u a d a) 34 = sm (uN (R a) u (R a u + d)) 34 := by
        refine sm_congr 34 (fun b _ => ?_)
        unfold up2 uN
        by_cases c : b = u
        · rw [if_neg (fun e => c1 e.1), if_pos ⟨rfl, c⟩, if_pos c]
        · rw [if_neg (fun e => c1 e.1), if_neg (fun e => c e.2), if_neg c]
      have e2 := sm_up (f := R a) (k := u) (v := R a u + d) 34 hu
      omega
    · rw [if_neg c2]
      rw [sm_congr 34 (fun b _ => show up2 R u v d a b = R a b by unfold up2; rw [if_neg (fun e => c1 e.1), if_neg (fun e => c2 e.1)])]
theorem gone_row {R : Nat → Nat → Nat} {s t L d : Nat} {p : Nat → Nat} (h : WAY R s t L p) (hd : ∀ k, k < L → d ≤ R (p (k + 1)) (p k)) (a : Nat) : ∀ k, k ≤ L → sm (gone R p d k a) 34 + (if a = p k then d else 0) = sm (R a) 34 + (if a = p 0 then d else 0)
  | 0, _ => rfl
  | k + 1, hk => by
    have ih := gone_row h hd a k (by omega)
    have ne := h.2.2.2.1 k (k + 1) (by omega) hk
    have e := gone_e (d := d) h (show k < L by omega)
    have r := up2_row (R := gone R p d k) (a := a) (d := d) (Ne.symm ne) (h.2.2.1 k (by omega)) (h.2.2.1 (k + 1) hk) (by rw [e]; exact hd k (by omega))
    have r' : sm (gone R p d (k + 1) a) 34 + (if a = p (k + 1) then d else 0) = sm (gone R p d k a) 34 + (if a = p k then d else 0) := r
    omega
/-- rows as they stand after d has gone from s to t -/
def RW (rs rs' : Nat → Nat) (s t d : Nat) : Prop := ∀ u, u < 34 → rs' u + (if u = s then d else 0) = rs u + (if u = t then d else 0)
theorem gone_MX {C R : Nat → Nat → Nat} {rs : Nat → Nat} {s t L d : Nat} {p : Nat → Nat} (h : WAY R s t L p) (hd : ∀ k, k < L → d ≤ R (p (k + 1)) (p k)) (hM : MX C rs R) : ∃ rs', MX C rs' (gone R p d L) ∧ RW rs rs' s t d := by
  refine ⟨fun u => sm (gone R p d L u) 34, ⟨gone_sym h hd hM.1 L (Nat.le_refl _), fun _ _ => rfl⟩, fun u hu => ?_⟩
  have := gone_row h hd u L (Nat.le_refl _)
  rw [h.1, h.2.1, hM.2 u hu] at this
  exact this
theorem RW.tr {a b c : Nat → Nat} {s t d e : Nat} (h : RW a b s t d) (k : RW b c s t e) : RW a c s t (d + e) := by
  intro u hu
  have h1 := h u hu
  have h2 := k u hu
  have q : ∀ x : Nat, (if u = x then d + e else 0) = (if u = x then d else 0) + (if u = x then e else 0) := by
    intro x
    by_cases c : u = x
    · rw [if_pos c, if_pos c, if_pos c]
    · rw [if_neg c, if_neg c, if_neg c]
  rw [q, q]
  omega
theorem RW.rf (a : Nat → Nat) (s t : Nat) : RW a a s t 0 := by
  intro u _
  by_cases c1 : u = s <;> by_cases c2 : u = t <;> simp [c1, c2]

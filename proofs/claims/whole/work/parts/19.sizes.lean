section SIZES
/-! SKIP: b BLOCKS for t PLACES below a way y -/
def skG (W s : Nat) : Nat → Nat → Int → Prop
  | 0, t, _ => t = 0
  | b + 1, t, y => ∃ z, 1 ≤ z ∧ z ≤ t ∧ z ≤ W ∧ z ≤ 15 ∧ y + z - 1 ≤ (W : Int) ∧ skG W s b (t - z) (max (y + s) z)
theorem skG_mono {W W' s : Nat} (h : W ≤ W') : ∀ {b t : Nat} {y : Int}, skG W s b t y → skG W' s b t y
  | 0, _, _, q => q
  | b + 1, t, y, ⟨z, h1, h2, h3, h4, h5, h6⟩ => ⟨z, h1, h2, by omega, h4, by omega, skG_mono h h6⟩
theorem skG_len {W s : Nat} : ∀ {b t : Nat} {y : Int}, skG W s b t y → b ≤ t
  | 0, _, _, _ => Nat.zero_le _
  | b + 1, t, y, ⟨z, h1, h2, _, _, _, h6⟩ => by have := skG_len h6; omega
theorem skG_cut {W s : Nat} : ∀ {b t : Nat} {y : Int}, skG W s (b + 1) t y → y + s * b ≤ (W : Int)
  | 0, t, y, ⟨z, h1, _, _, _, h5, _⟩ => by
    have e : (s : Int) * ((0 : Nat) : Int) = 0 := by simp
    omega
  | b + 1, t, y, ⟨z, h1, _, _, _, _, h6⟩ => by
    have := skG_cut h6
    have e : (s : Int) * ((b + 1 : Nat) : Int) = s * b + s := by rw [Int.natCast_add, Int.mul_add]; simp
    rw [e]
    have : y + s ≤ max (y + s) z := Int.le_max_left _ _
    omega
theorem skG_cut2 {W s b n : Nat} (hb : 2 ≤ b) (h : skG W s b n (-(s : Int))) : 1 + (s : Int) * (b - 2 : Nat) ≤ W := by
  obtain ⟨c, rfl⟩ : ∃ c, b = c + 2 := ⟨b - 2, by omega⟩
  obtain ⟨z, h1, _, _, _, _, h6⟩ := h
  have := skG_cut h6
  have h7 : (z : Int) ≤ max (-(s : Int) + s) z := Int.le_max_right _ _
  rw [show c + 2 - 2 = c by omega]
  omega
/-- the greatest of f 1 .. f r, and -1000 -/
def mxz (f : Nat → Int) : Nat → Int
  | 0 => -1000
  | r + 1 => max (mxz f r) (f (r + 1))
theorem le_mxz {f : Nat → Int} : ∀ {r z : Nat}, 1 ≤ z → z ≤ r → f z ≤ mxz f r
  | r + 1, z, h1, h2 => by
    show f z ≤ max (mxz f r) (f (r + 1))
    by_cases e : z = r + 1
    · subst e; omega
    · have := le_mxz (f := f) (r := r) h1 (by omega); omega
  | 0, z, h1, h2 => by omega
theorem mxz_at (f : Nat → Int) : ∀ r, mxz f r = -1000 ∨ ∃ z, 1 ≤ z ∧ z ≤ r ∧ mxz f r = f z
  | 0 => Or.inl rfl
  | r + 1 => by
    have e : mxz f (r + 1) = max (mxz f r) (f (r + 1)) := rfl
    by_cases q : mxz f r ≤ f (r + 1)
    · exact Or.inr ⟨r + 1, by omega, by omega, by rw [e]; omega⟩
    · have e2 : mxz f (r + 1) = mxz f r := by rw [e]; omega
      rcases mxz_at f r with h | ⟨z, h1, h2, h3⟩
      · exact Or.inl (by rw [e2, h])
      · exact Or.inr ⟨z, h1, by omega, by rw [e2, h3]⟩
theorem mxz_ge (f : Nat → Int) : ∀ r, -1000 ≤ mxz f r
  | 0 => Int.le_refl _
  | r + 1 => by have := mxz_ge f r; show -1000 ≤ max _ _; omega
/-- the reference's room for BLOCK a below 'above' m, and the most PLACES of the lowest a BLOCKS -/
def skR (W s a m : Nat) : Int := min (min 15 (W : Int)) (if m = 0 then 15 else (W : Int) + 1 + s + s * a - m)
def skB (W s : Nat) : Nat → Nat → Int
  | 0, _ => 0
  | a + 1, m => mxz (fun z => z + skB W s a (max m (z + s * a))) (skR W s a m).toNat
def yOf (s a m : Nat) : Int := if m = 0 then -(s : Int) else (m : Int) - s * a
theorem yOf_next {s a m z : Nat} (hz : 1 ≤ z) : max (yOf s (a + 1) m + s) z = yOf s a (max m (z + s * a)) := by
  have e : (s : Int) * ((a + 1 : Nat) : Int) = s * a + s := by rw [Int.natCast_add, Int.mul_add]; simp
  have e2 : ((s * a : Nat) : Int) = (s : Int) * a := Int.natCast_mul s a
  generalize hp : (s : Int) * a = p at *
  generalize hq : s * a = q at *
  unfold yOf
  by_cases h0 : m = 0
  · subst h0
    rw [if_pos rfl, if_neg (by omega)]
    omega
  · rw [if_neg h0, if_neg (by omega), e]
    omega
theorem skR_iff {W s a m z : Nat} (hz : 1 ≤ z) : (z : Int) ≤ skR W s a m ↔ (z ≤ W ∧ z ≤ 15 ∧ yOf s (a + 1) m + z - 1 ≤ (W : Int)) := by
  have e : (s : Int) * ((a + 1 : Nat) : Int) = s * a + s := by rw [Int.natCast_add, Int.mul_add]; simp
  unfold skR yOf
  by_cases h0 : m = 0
  · rw [if_pos h0, if_pos h0]; omega
  · rw [if_neg h0, if_neg h0, e]; omega
theorem skB_two (W s : Nat) : ∀ a m, skB W s a m ≤ -1000 + 15 * a ∨ (a : Int) ≤ skB W s a m
  | 0, m => Or.inr (Int.le_refl _)
  | a + 1, m => by
    show mxz _ _ ≤ _ ∨ _ ≤ mxz _ _
    rcases mxz_at (fun z => z + skB W s a (max m (z + s * a))) (skR W s a m).toNat with h | ⟨z, h1, h2, h3⟩
    · left; rw [h]; omega
    · rw [h3]
      have hr : (z : Int) ≤ skR W s a m := by omega
      have h15 : z ≤ 15 := ((skR_iff h1).mp hr).2.1
      rcases skB_two W s a (max m (z + s * a)) with q | q
      · left; show (z : Int) + _ ≤ _; omega
      · right; show _ ≤ (z : Int) + _; omega
theorem skB_le (W s : Nat) : ∀ a m, skB W s a m ≤ 15 * a
  | 0, m => Int.le_refl _
  | a + 1, m => by
    show mxz _ _ ≤ _
    rcases mxz_at (fun z => z + skB W s a (max m (z + s * a))) (skR W s a m).toNat with h | ⟨z, h1, h2, h3⟩
    · rw [h]; omega
    · rw [h3]
      have h15 : z ≤ 15 := ((skR_iff h1).mp (by omega : (z : Int) ≤ skR W s a m)).2.1
      have := skB_le W s a (max m (z + s * a))
      show (z : Int) + _ ≤ _
      omega
theorem skB_anti (W s : Nat) : ∀ a {m m' : Nat}, m ≤ m' → skB W s a m' ≤ skB W s a m
  | 0, m, m', _ => Int.le_refl _
  | a + 1, m, m', h => by
    show mxz _ _ ≤ mxz _ _
    rcases mxz_at (fun z => z + skB W s a (max m' (z + s * a))) (skR W s a m').toNat with q | ⟨z, h1, h2, h3⟩
    · rw [q]; exact mxz_ge _ _
    · rw [h3]
      have hr : skR W s a m' ≤ skR W s a m := by
        unfold skR
        by_cases h0 : m' = 0
        · rw [if_pos h0, if_pos (by omega)]; exact Int.le_refl _
        · rw [if_neg h0]
          by_cases h00 : m = 0
          · rw [if_pos h00]; omega
          · rw [if_neg h00]; omega
      have := le_mxz (f := fun z => z + skB W s a (max m (z + s * a))) (r := (skR W s a m).toNat) h1 (by omega)
      have h4 := skB_anti W s a (m := max m (z + s * a)) (m' := max m' (z + s * a)) (by omega)
      refine Int.le_trans ?_ this
      show (z : Int) + _ ≤ (z : Int) + _
      omega
theorem skB_iff (W s : Nat) : ∀ {a t m : Nat}, a ≤ 12 → (skG W s a t (yOf s a m) ↔ (a ≤ t ∧ (t : Int) ≤ skB W s a m))
  | 0, t, m, _ => by
    show t = 0 ↔ (0 ≤ t ∧ (t : Int) ≤ 0)
    omega
  | a + 1, t, m, ha12 => by
    constructor
    · rintro ⟨z, h1, h2, h3, h4, h5, h6⟩
      rw [yOf_next h1] at h6
      have h7 := (skB_iff W s (by omega)).mp h6
      have hr : (z : Int) ≤ skR W s a m := (skR_iff h1).mpr ⟨h3, h4, h5⟩
      have := le_mxz (f := fun z => z + skB W s a (max m (z + s * a))) (r := (skR W s a m).toNat) h1 (by omega)
      refine ⟨by omega, Int.le_trans ?_ this⟩
      show (t : Int) ≤ (z : Int) + _
      omega
    · rintro ⟨h1, h2⟩
      have h2 : (t : Int) ≤ mxz (fun z => z + skB W s a (max m (z + s * a))) (skR W s a m).toNat := h2
      rcases mxz_at (fun z => z + skB W s a (max m (z + s * a))) (skR W s a m).toNat with q | ⟨z0, g1, g2, g3⟩
      · omega
      · rw [g3] at h2
        have h2 : (t : Int) ≤ (z0 : Int) + skB W s a (max m (z0 + s * a)) := h2
        have hr0 := (skR_iff (W := W) (s := s) (a := a) (m := m) g1).mp (by omega)
        have hB : (a : Int) ≤ skB W s a (max m (z0 + s * a)) := by
          rcases skB_two W s a (max m (z0 + s * a)) with q | q
          · exfalso; have := hr0.2.1; omega
          · exact q
        by_cases c : a ≤ t - z0 ∧ z0 ≤ t
        · refine ⟨z0, g1, c.2, hr0.1, hr0.2.1, hr0.2.2, ?_⟩
          rw [yOf_next g1]
          exact (skB_iff W s (by omega)).mpr ⟨c.1, by omega⟩
        · have hz : 1 ≤ t - a ∧ t - a ≤ z0 := by omega
          have hrz := (skR_iff (W := W) (s := s) (a := a) (m := m) hz.1).mp (by omega)
          refine ⟨t - a, hz.1, by omega, hrz.1, hrz.2.1, hrz.2.2, ?_⟩
          rw [yOf_next hz.1]
          refine (skB_iff W s (by omega)).mpr ⟨by omega, ?_⟩
          have := skB_anti W s a (m := max m (t - a + s * a)) (m' := max m (z0 + s * a)) (by omega)
          omega
/-! the class's table: the greatest way that b BLOCKS for t PLACES can meet -/
def agz (W s : Nat) (A : Nat → Int) (t : Nat) : Nat → Int
  | 0 => -1000
  | r + 1 => if A (t - (r + 1)) < (r + 1 : Nat) then agz W s A t r else max (agz W s A t r) (min ((W : Int) + 1 - (r + 1 : Nat)) (A (t - (r + 1)) - s))
def skA (W s : Nat) : Nat → Nat → Int
  | 0, t => if t = 0 then 1000 else -1000
  | b + 1, t => agz W s (skA W s b) t (min t (min W 15))
theorem agz_iff {W s : Nat} {A : Nat → Int} {t : Nat} {y : Int} (hy : -1000 < y) : ∀ {r : Nat}, y ≤ agz W s A t r ↔ ∃ z, 1 ≤ z ∧ z ≤ r ∧ (z : Int) ≤ A (t - z) ∧ y ≤ (W : Int) + 1 - z ∧ y ≤ A (t - z) - s
  | 0 => ⟨fun h => absurd h (by show ¬ y ≤ -1000; omega), fun ⟨z, h1, h2, _⟩ => by omega⟩
  | r + 1 => by
    have ih := agz_iff (W := W) (s := s) (A := A) (t := t) hy (r := r)
    show y ≤ (if A (t - (r + 1)) < (r + 1 : Nat) then agz W s A t r else max (agz W s A t r) (min ((W : Int) + 1 - (r + 1 : Nat)) (A (t - (r + 1)) - s))) ↔ _
    by_cases c : A (t - (r + 1)) < (r + 1 : Nat)
    · rw [if_pos c, ih]
      exact ⟨fun ⟨z, h1, h2, h3⟩ => ⟨z, h1, by omega, h3⟩, fun ⟨z, h1, h2, h3, h4⟩ => ⟨z, h1, by
        by_cases e : z = r + 1
        · subst e; omega
        · omega, h3, h4⟩⟩
    · rw [if_neg c]
      constructor
      · intro h
        by_cases q : y ≤ agz W s A t r
        · obtain ⟨z, h1, h2, h3⟩ := ih.mp q
          exact ⟨z, h1, by omega, h3⟩
        · exact ⟨r + 1, by omega, by omega, by omega, by omega, by omega⟩
      · rintro ⟨z, h1, h2, h3, h4, h5⟩
        by_cases e : z = r + 1
        · subst e; omega
        · have := ih.mpr ⟨z, h1, by omega, h3, h4, h5⟩
          omega
theorem skA_iff (W s : Nat) (hs : s ≤ 9) (b : Nat) : b ≤ 12 → ∀ (t : Nat) (y : Int), -900 ≤ y → y + 10 * b ≤ 900 → (skG W s b t y ↔ y ≤ skA W s b t) := by
  induction b with
  | zero =>
    intro _ t y h1 h2
    show t = 0 ↔ y ≤ (if t = 0 then 1000 else -1000)
    by_cases e : t = 0
    · rw [if_pos e]; exact ⟨fun _ => by omega, fun _ => e⟩
    · rw [if_neg e]; exact ⟨fun q => absurd q e, fun q => by omega⟩
  | succ b ih =>
    intro hb12 t y h1 h2
    show skG W s (b + 1) t y ↔ y ≤ agz W s (skA W s b) t (min t (min W 15))
    rw [agz_iff (by omega)]
    have nx : ∀ z : Nat, z ≤ 15 → (skG W s b (t - z) (max (y + s) z) ↔ max (y + s) z ≤ skA W s b (t - z)) := fun z hz => ih (by omega) (t - z) _ (by omega) (by omega)
    · constructor
      · rintro ⟨z, g1, g2, g3, g4, g5, g6⟩
        have := (nx z g4).mp g6
        exact ⟨z, g1, by omega, by omega, by omega, by omega⟩
      · rintro ⟨z, g1, g2, g3, g4, g5⟩
        exact ⟨z, g1, by omega, by omega, by omega, by omega, (nx z (by omega)).mpr (by omega)⟩
/-! BLOCKS as a list, the highest first -/
def skOk (W s : Nat) : Int → List Nat → Prop
  | _, [] => True
  | y, z :: l => 1 ≤ z ∧ z ≤ 15 ∧ z ≤ W ∧ y + z - 1 ≤ (W : Int) ∧ skOk W s (max (y + s) z) l
theorem skG_list {W s : Nat} : ∀ {l : List Nat} {y : Int}, skOk W s y l → skG W s l.length l.sum y
  | [], _, _ => rfl
  | z :: l, y, ⟨h1, h2, h3, h4, h5⟩ => ⟨z, h1, by simp, h3, h2, h4, by
    have := skG_list h5
    rw [List.sum_cons, show z + l.sum - z = l.sum by omega]; exact this⟩
/-- the least sizes, from the highest BLOCK down -/
def skLst (W s : Nat) : Nat → Nat → Int → List Nat → Prop
  | 0, _, _, l => l = []
  | b + 1, t, y, l => ∃ z r, l = z :: r ∧ (1 ≤ z ∧ z ≤ t ∧ z ≤ W ∧ z ≤ 15 ∧ y + z - 1 ≤ (W : Int) ∧ skG W s b (t - z) (max (y + s) z)) ∧ (∀ z', 1 ≤ z' → z' < z → ¬ (z' ≤ t ∧ z' ≤ W ∧ z' ≤ 15 ∧ y + z' - 1 ≤ (W : Int) ∧ skG W s b (t - z') (max (y + s) z'))) ∧ skLst W s b (t - z) (max (y + s) z) r
theorem skLst_one {W s : Nat} : ∀ {b t : Nat} {y : Int} {l l' : List Nat}, skLst W s b t y l → skLst W s b t y l' → l = l'
  | 0, _, _, _, _, h, h' => h.trans h'.symm
  | b + 1, t, y, l, l', ⟨z, r, e, h1, h2, h3⟩, ⟨z', r', e', h1', h2', h3'⟩ => by
    have hz : z = z' := by
      rcases Nat.lt_trichotomy z z' with q | q | q
      · exact absurd h1.2 (h2' z h1.1 q)
      · exact q
      · exact absurd h1'.2 (h2 z' h1'.1 q)
    subst hz
    rw [e, e', skLst_one h3 h3']
theorem skLst_ok {W s : Nat} : ∀ {b t : Nat} {y : Int} {l : List Nat}, skLst W s b t y l → skG W s b t y → skOk W s y l ∧ l.length = b ∧ l.sum = t
  | 0, t, _, _, h, g => by subst h; exact ⟨trivial, rfl, g.symm⟩
  | b + 1, t, y, l, ⟨z, r, e, h1, _, h3⟩, _ => by
    obtain ⟨i1, i2, i3⟩ := skLst_ok h3 h1.2.2.2.2.2
    subst e
    exact ⟨⟨h1.1, h1.2.2.2.1, h1.2.2.1, h1.2.2.2.2.1, i1⟩, by simp [i2], by rw [List.sum_cons, i3]; have := h1.2.1; omega⟩
/-- pairs of BLOCKS -/
theorem skOk_iff {W s : Nat} : ∀ {l : List Nat} {y : Int}, skOk W s y l ↔ ((∀ j, j < l.length → 1 ≤ l.getD j 0 ∧ l.getD j 0 ≤ 15 ∧ l.getD j 0 ≤ W ∧ y + s * j + l.getD j 0 - 1 ≤ (W : Int)) ∧ ∀ i j, i < j → j < l.length → (l.getD i 0 : Int) + s * ((j - i - 1 : Nat) : Int) + l.getD j 0 - 1 ≤ W)
  | [], y => ⟨fun _ => ⟨fun j h => absurd h (Nat.not_lt_zero j), fun i j _ h => absurd h (Nat.not_lt_zero j)⟩, fun _ => trivial⟩
  | z :: l, y => by
    have ih := skOk_iff (W := W) (s := s) (l := l) (y := max (y + s) z)
    have es : ∀ j : Nat, (s : Int) * ((j + 1 : Nat) : Int) = s * j + s := fun j => by rw [Int.natCast_add, Int.mul_add]; simp
    constructor
    · rintro ⟨h1, h2, h3, h4, h5⟩
      obtain ⟨i1, i2⟩ := ih.mp h5
      refine ⟨fun j hj => ?_, fun i j hij hj => ?_⟩
      · cases j with
        | zero => simp only [List.getD_cons_zero]; refine ⟨h1, h2, h3, ?_⟩; simp; omega
        | succ j =>
          simp only [List.getD_cons_succ, List.length_cons] at hj ⊢
          obtain ⟨a, b, c, e⟩ := i1 j (by omega)
          refine ⟨a, b, c, ?_⟩
          rw [es]
          have : y + s ≤ max (y + s) z := Int.le_max_left _ _
          omega
      · cases j with
        | zero => omega
        | succ j =>
          simp only [List.length_cons] at hj
          cases i with
          | zero =>
            simp only [List.getD_cons_succ, List.getD_cons_zero]
            obtain ⟨a, b, c, e⟩ := i1 j (by omega)
            have : (z : Int) ≤ max (y + s) z := Int.le_max_right _ _
            rw [show j + 1 - 0 - 1 = j by omega]
            omega
          | succ i =>
            simp only [List.getD_cons_succ]
            have := i2 i j (by omega) (by omega)
            rw [show j + 1 - (i + 1) - 1 = j - i - 1 by omega]
            exact this
    · rintro ⟨h1, h2⟩
      have h0 := h1 0 (by simp)
      simp only [List.getD_cons_zero] at h0
      have h04 : y + (z : Int) - 1 ≤ W := by have := h0.2.2.2; simp at this; omega
      refine ⟨h0.1, h0.2.1, h0.2.2.1, h04, ih.mpr ⟨fun j hj => ?_, fun i j hij hj => ?_⟩⟩
      · have a := h1 (j + 1) (by simp; omega)
        simp only [List.getD_cons_succ] at a
        have b := h2 0 (j + 1) (by omega) (by simp; omega)
        simp only [List.getD_cons_succ, List.getD_cons_zero] at b
        rw [show j + 1 - 0 - 1 = j by omega] at b
        refine ⟨a.1, a.2.1, a.2.2.1, ?_⟩
        have a4 := a.2.2.2
        rw [es] at a4
        rcases Int.le_total (y + s) z with q | q
        · rw [Int.max_eq_right q]; omega
        · rw [Int.max_eq_left q]; omega
      · have := h2 (i + 1) (j + 1) (by omega) (by simp; omega)
        simp only [List.getD_cons_succ] at this
        rw [show j + 1 - (i + 1) - 1 = j - i - 1 by omega] at this
        exact this
/-! figures of a list -/
def fgV (l : List Nat) : Nat := l.foldl (fun a z => 16 * a + z) 0
theorem fold_acc : ∀ (l : List Nat) (a : Nat), l.foldl (fun a z => 16 * a + z) a = 16 ^ l.length * a + fgV l
  | [], a => by simp [fgV]
  | z :: l, a => by
    show l.foldl _ (16 * a + z) = 16 ^ (l.length + 1) * a + l.foldl _ (16 * 0 + z)
    rw [fold_acc l (16 * a + z), fold_acc l (16 * 0 + z), Nat.pow_succ]
    rw [Nat.mul_add, ← Nat.mul_assoc, Nat.mul_zero, Nat.zero_add, Nat.add_assoc]
theorem fgV_cons (z : Nat) (l : List Nat) : fgV (z :: l) = 16 ^ l.length * z + fgV l := by
  show l.foldl _ (16 * 0 + z) = _
  rw [fold_acc, Nat.mul_zero, Nat.zero_add]
theorem fgV_lt : ∀ {l : List Nat}, (∀ z, z ∈ l → z ≤ 15) → fgV l < 16 ^ l.length
  | [], _ => by simp [fgV]
  | z :: l, h => by
    rw [fgV_cons, List.length_cons, Nat.pow_succ]
    have h1 := fgV_lt (l := l) (fun q hq => h q (List.mem_cons_of_mem _ hq))
    have h2 := h z List.mem_cons_self
    have : 16 ^ l.length * z ≤ 16 ^ l.length * 15 := Nat.mul_le_mul_left _ h2
    omega
theorem fg_fgV : ∀ {l : List Nat} {q : Nat}, (∀ z, z ∈ l → z ≤ 15) → q < l.length → fg (fgV l) q = l.getD (l.length - 1 - q) 0
  | z :: l, q, h, hq => by
    have h1 := fgV_lt (l := l) (fun q hq => h q (List.mem_cons_of_mem _ hq))
    have h2 := h z List.mem_cons_self
    rw [fgV_cons]
    unfold fg
    simp only [List.length_cons] at hq ⊢
    by_cases e : q = l.length
    · subst e
      rw [Nat.mul_add_div (Nat.pow_pos (by decide)), Nat.div_eq_of_lt h1, show l.length + 1 - 1 - l.length = 0 by omega]
      simp only [List.getD_cons_zero]; omega
    · have ih := fg_fgV (l := l) (q := q) (fun q hq => h q (List.mem_cons_of_mem _ hq)) (by omega)
      unfold fg at ih
      rw [show l.length + 1 - 1 - q = (l.length - 1 - q) + 1 by omega]
      simp only [List.getD_cons_succ]
      rw [← ih]
      obtain ⟨k, hk⟩ : ∃ k, l.length = q + 1 + k := ⟨l.length - q - 1, by omega⟩
      rw [hk, show 16 ^ (q + 1 + k) * z = 16 ^ q * (16 * (16 ^ k * z)) by rw [Nat.pow_add, Nat.pow_succ]; simp only [Nat.mul_assoc], Nat.mul_add_div (Nat.pow_pos (by decide))]
      omega
theorem fgV_figs {l : List Nat} (h : ∀ j, j < l.length → 1 ≤ l.getD j 0 ∧ l.getD j 0 ≤ 15) (h1 : 1 ≤ l.length) (h12 : l.length ≤ 12) : figs (fgV l) l.length ∧ fgOk (fgV l) l.length = true ∧ fgV l < 2 ^ 48 ∧ 0 < fgV l := by
  have hm : ∀ z, z ∈ l → z ≤ 15 := fun z hz => by
    obtain ⟨j, hj, e⟩ := List.getElem_of_mem hz
    have := (h j hj).2
    rw [List.getD_eq_getElem?_getD, List.getElem?_eq_getElem hj] at this
    simpa [e] using this
  have hlt := fgV_lt hm
  have hp : (16 : Nat) ^ l.length ≤ 16 ^ 12 := Nat.pow_le_pow_right (by decide) h12
  have hne : ∀ q, q < l.length → fg (fgV l) q ≠ 0 := fun q hq => by
    rw [fg_fgV hm hq]; have := (h (l.length - 1 - q) (by omega)).1; omega
  have hd : ∀ q, q < l.length → fgV l / 16 ^ q ≠ 0 := fun q hq e => hne q hq (by unfold fg; rw [e])
  refine ⟨⟨h12, h1, Nat.div_eq_of_lt hlt, hd⟩, fgOk_iff.mpr hne, by omega, ?_⟩
  have := hd 0 (by omega)
  rw [Nat.pow_zero, Nat.div_one] at this
  omega
/-- the WORST of the BLOCKS that were found is the least one -/
theorem sk_worst {W s n b : Nat} {l : List Nat} (hg : skG W s b n (-(s : Int))) (hl : skLst W s b n (-(s : Int)) l) (hmin : ∀ W', 1 ≤ W' → W' < W → ∀ b', 1 ≤ b' → b' ≤ 12 → ¬ skG W' s b' n (-(s : Int))) (hb1 : 1 ≤ b) (hb : b ≤ 12) {W' : Nat} (h : skMax (fgV l) s b W') : W' = W := by
  obtain ⟨hok, hlen, hsum⟩ := skLst_ok hl hg
  obtain ⟨p1, p2⟩ := skOk_iff.mp hok
  have hm : ∀ z, z ∈ l → z ≤ 15 := fun z hz => by
    obtain ⟨j, hj, e⟩ := List.getElem_of_mem hz
    have := (p1 j hj).2.1
    rw [List.getD_eq_getElem?_getD, List.getElem?_eq_getElem hj] at this
    simpa [e] using this
  have hfg : ∀ q, q < b → fg (fgV l) q = l.getD (b - 1 - q) 0 := fun q hq => by rw [fg_fgV hm (by omega), hlen]
  have le : W' ≤ W := by
    rcases h.2 with e | ⟨a, c, h1, h2, e⟩
    · omega
    · rw [e]
      unfold skw
      by_cases q : a = c
      · rw [if_pos q, hfg a (by omega)]; exact (p1 _ (by omega)).2.2.1
      · rw [if_neg q, hfg a (by omega), hfg c (by omega)]
        have := p2 (b - 1 - c) (b - 1 - a) (by omega) (by omega)
        rw [show b - 1 - a - (b - 1 - c) - 1 = c - a - 1 by omega] at this
        have e2 : ((s * (c - a - 1) : Nat) : Int) = (s : Int) * ((c - a - 1 : Nat) : Int) := Int.natCast_mul _ _
        have := (p1 (b - 1 - a) (by omega)).1
        omega
  by_cases hlt : W' < W
  · exfalso
    have hW1 : 1 ≤ W' := by
      have h0 := h.1 0 0 (Nat.le_refl _) (by omega)
      unfold skw at h0
      rw [if_pos rfl, hfg 0 (by omega)] at h0
      have := (p1 (b - 1 - 0) (by omega)).1
      omega
    have hsz : ∀ j, j < b → l.getD j 0 ≤ W' := fun j hj => by
      have h0 := h.1 (b - 1 - j) (b - 1 - j) (Nat.le_refl _) (by omega)
      unfold skw at h0
      rw [if_pos rfl, hfg _ (by omega), show b - 1 - (b - 1 - j) = j by omega] at h0
      exact h0
    have hpr : ∀ i j, i < j → j < b → (l.getD i 0 : Int) + s * ((j - i - 1 : Nat) : Int) + l.getD j 0 - 1 ≤ W' := fun i j hij hj => by
      have h0 := h.1 (b - 1 - j) (b - 1 - i) (by omega) (by omega)
      unfold skw at h0
      rw [if_neg (by omega), hfg _ (by omega), hfg _ (by omega), show b - 1 - (b - 1 - j) = j by omega, show b - 1 - (b - 1 - i) = i by omega, show b - 1 - i - (b - 1 - j) - 1 = j - i - 1 by omega] at h0
      have e2 : ((s * (j - i - 1) : Nat) : Int) = (s : Int) * ((j - i - 1 : Nat) : Int) := Int.natCast_mul _ _
      omega
    have hok' : skOk W' s (-(s : Int)) l := skOk_iff.mpr ⟨fun j hj => ?_, fun i j hij hj => hpr i j hij (by omega)⟩
    · have := skG_list hok'
      rw [hlen, hsum] at this
      exact hmin W' hW1 hlt b hb1 hb this
    · have pj := p1 j hj
      refine ⟨pj.1, pj.2.1, hsz j (by omega), ?_⟩
      have hj' := hsz j (by omega)
      cases j with
      | zero => simp at hj' ⊢; omega
      | succ j =>
        have h3 := hpr 0 (j + 1) (by omega) (by omega)
        rw [show j + 1 - 0 - 1 = j by omega] at h3
        have e : (s : Int) * ((j + 1 : Nat) : Int) = s * j + s := by rw [Int.natCast_add, Int.mul_add]; simp
        have := (p1 0 (by omega)).1
        rw [e]; omega
  · omega
end SIZES

section CHOICE
/-! CHOICE: room of BLOCK q of m with a WORST of W; the most PLACES of the lowest k -/
def chR (W m q : Nat) : Int := min 15 ((W : Int) - (if q = 0 then (m : Int) - 1 else (m : Int) - q))
def chP (W m : Nat) : Nat → Int
  | 0 => 0
  | k + 1 => chP W m k + chR W m k
theorem chR_pos {W m q : Nat} (h : m ≤ W) (hq : q < m) : 1 ≤ chR W m q ∧ chR W m q ≤ 15 := by
  unfold chR; split <;> omega
theorem chP_bd {W m : Nat} (h : m ≤ W) : ∀ k, k ≤ m → (k : Int) ≤ chP W m k ∧ chP W m k ≤ 15 * k
  | 0, _ => by show (0 : Int) ≤ 0 ∧ (0 : Int) ≤ 15 * 0; omega
  | k + 1, hk => by
    have h1 := chP_bd h k (by omega)
    have h2 := chR_pos (q := k) h (by omega)
    have e : chP W m (k + 1) = chP W m k + chR W m k := rfl
    omega
theorem chP_mono {W W' m : Nat} (h : W ≤ W') : ∀ k, chP W m k ≤ chP W' m k
  | 0 => Int.le_refl _
  | k + 1 => by
    have h1 := chP_mono (m := m) h k
    have h2 : chR W m k ≤ chR W' m k := by unfold chR; split <;> omega
    show chP W m k + chR W m k ≤ chP W' m k + chR W' m k
    omega
/-- the least sizes, from the highest down -/
def chL (W m : Nat) : Nat → Nat → List Nat
  | 0, _ => []
  | q + 1, left => (max 1 ((left : Int) - chP W m q)).toNat :: chL W m q (left - (max 1 ((left : Int) - chP W m q)).toNat)
theorem chL_ok {W m : Nat} (hm : m ≤ W) : ∀ q left, q ≤ m → q ≤ left → (left : Int) ≤ chP W m q → (chL W m q left).length = q ∧ (chL W m q left).sum = left ∧ ∀ j, j < q → 1 ≤ (chL W m q left).getD j 0 ∧ ((chL W m q left).getD j 0 : Int) ≤ chR W m (q - 1 - j)
  | 0, left, _, _, h => by
    have : left = 0 := by have e : chP W m 0 = 0 := rfl; omega
    subst this
    exact ⟨rfl, rfl, fun j h => absurd h (Nat.not_lt_zero j)⟩
  | q + 1, left, hq, h1, h2 => by
    have e : chP W m (q + 1) = chP W m q + chR W m q := rfl
    have hb := chP_bd hm q (by omega)
    have hr := chR_pos (q := q) hm (by omega)
    generalize hz : (max 1 ((left : Int) - chP W m q)).toNat = z
    have hz1 : 1 ≤ z ∧ (z : Int) ≤ chR W m q ∧ z ≤ left ∧ q ≤ left - z ∧ ((left - z : Nat) : Int) ≤ chP W m q := by omega
    obtain ⟨i1, i2, i3⟩ := chL_ok hm q (left - z) (by omega) hz1.2.2.2.1 hz1.2.2.2.2
    have el : chL W m (q + 1) left = z :: chL W m q (left - z) := by show _ :: _ = _; rw [hz]
    rw [el]
    refine ⟨by simp [i1], by rw [List.sum_cons, i2]; omega, fun j hj => ?_⟩
    cases j with
    | zero => simp only [List.getD_cons_zero]; exact ⟨hz1.1, by rw [show q + 1 - 1 - 0 = q by omega]; exact hz1.2.1⟩
    | succ j =>
      simp only [List.getD_cons_succ]
      have := i3 j (by omega)
      rw [show q + 1 - 1 - (j + 1) = q - 1 - j by omega]
      exact this
theorem chW_iff (V X : Nat) : ∀ k, chW V k ≤ X ↔ (fg V 0 + k ≤ X ∧ ∀ q, 1 ≤ q → q ≤ k → fg V q + (k - q + 1) ≤ X)
  | 0 => ⟨fun h => ⟨h, fun q h1 h2 => by omega⟩, fun h => h.1⟩
  | k + 1 => by
    have ih := chW_iff V (X - 1) k
    have e : chW V (k + 1) = 1 + max (chW V k) (fg V (k + 1)) := rfl
    rw [e]
    constructor
    · intro h
      have h1 := ih.mp (by omega)
      refine ⟨by omega, fun q g1 g2 => ?_⟩
      by_cases c : q = k + 1
      · subst c; omega
      · have := h1.2 q g1 (by omega); omega
    · rintro ⟨h1, h2⟩
      have h3 := h2 (k + 1) (by omega) (Nat.le_refl _)
      have := ih.mpr ⟨by omega, fun q g1 g2 => by have := h2 q g1 (by omega); omega⟩
      omega
/-- what CHOICE sizes are due -/
def chOk (n W m : Nat) : Prop := m ≤ W ∧ m ≤ n ∧ (n : Int) ≤ chP W m m
def chBest (n W m : Nat) : Prop := (1 ≤ W ∧ W ≤ 32) ∧ (1 ≤ m ∧ m ≤ 12) ∧ chOk n W m ∧ (∀ W', 1 ≤ W' → W' < W → ∀ m', 1 ≤ m' → m' ≤ 12 → ¬ chOk n W' m') ∧ ∀ m', 1 ≤ m' → m' < m → ¬ chOk n W m'
theorem chBest_one {n W m W' m' : Nat} (h : chBest n W m) (h' : chBest n W' m') : W = W' ∧ m = m' := by
  obtain ⟨h1, h2, h3, h4, h5⟩ := h
  obtain ⟨g1, g2, g3, g4, g5⟩ := h'
  have eW : W = W' := by
    rcases Nat.lt_trichotomy W W' with q | q | q
    · exact absurd h3 (g4 W h1.1 q m h2.1 h2.2)
    · exact q
    · exact absurd g3 (h4 W' g1.1 q m' g2.1 g2.2)
  subst eW
  refine ⟨rfl, ?_⟩
  rcases Nat.lt_trichotomy m m' with q | q | q
  · exact absurd h3 (g5 m h2.1 q)
  · exact q
  · exact absurd g3 (h5 m' g2.1 q)
theorem ch_list {n W m : Nat} (h : chOk n W m) (h1 : 1 ≤ m) (h12 : m ≤ 12) : (chL W m m n).length = m ∧ (∀ j, j < m → 1 ≤ (chL W m m n).getD j 0 ∧ (chL W m m n).getD j 0 ≤ 15) ∧ (∀ q, q < m → fg (fgV (chL W m m n)) q = (chL W m m n).getD (m - 1 - q) 0) ∧ (chL W m m n).sum = n := by
  obtain ⟨i1, i2, i3⟩ := chL_ok h.1 m n (Nat.le_refl _) h.2.1 h.2.2
  have hj : ∀ j, j < m → 1 ≤ (chL W m m n).getD j 0 ∧ (chL W m m n).getD j 0 ≤ 15 := fun j hj => by
    have := i3 j hj
    have := chR_pos (q := m - 1 - j) h.1 (by omega)
    omega
  have hm : ∀ z, z ∈ chL W m m n → z ≤ 15 := fun z hz => by
    obtain ⟨j, hj', e⟩ := List.getElem_of_mem hz
    have := (hj j (by omega)).2
    rw [List.getD_eq_getElem?_getD, List.getElem?_eq_getElem hj'] at this
    simpa [e] using this
  exact ⟨i1, hj, fun q hq => by rw [fg_fgV hm (by omega), i1], i2⟩
theorem sum_getD : ∀ (l : List Nat), sm (fun q => l.getD (l.length - 1 - q) 0) l.length = l.sum
  | [] => rfl
  | z :: l => by
    show sm (fun q => (z :: l).getD (l.length + 1 - 1 - q) 0) l.length + (z :: l).getD (l.length + 1 - 1 - l.length) 0 = _
    rw [show l.length + 1 - 1 - l.length = 0 by omega, List.getD_cons_zero, List.sum_cons, sm_cong (g := fun q => l.getD (l.length - 1 - q) 0) (fun c hc => by
      rw [show l.length + 1 - 1 - c = (l.length - 1 - c) + 1 by omega, List.getD_cons_succ]), sum_getD l]
    omega
theorem ch_worst {n W m : Nat} (h : chBest n W m) : chW (fgV (chL W m m n)) (m - 1) = W := by
  obtain ⟨hW, hm, hok, hmin, _⟩ := h
  obtain ⟨l1, l2, l3, l4⟩ := ch_list hok hm.1 hm.2
  obtain ⟨i1, i2, i3⟩ := chL_ok hok.1 m n (Nat.le_refl _) hok.2.1 hok.2.2
  have hr : ∀ q, q < m → (fg (fgV (chL W m m n)) q : Int) ≤ chR W m q := fun q hq => by
    rw [l3 q hq]
    have := (i3 (m - 1 - q) (by omega)).2
    rwa [show m - 1 - (m - 1 - q) = q by omega] at this
  have hmW := hok.1
  have le : chW (fgV (chL W m m n)) (m - 1) ≤ W := (chW_iff _ _ _).mpr ⟨by
    have := hr 0 (by omega)
    unfold chR at this; rw [if_pos rfl] at this
    omega, fun q h1 h2 => by
    have := hr q (by omega)
    unfold chR at this; rw [if_neg (by omega)] at this
    omega⟩
  by_cases hlt : chW (fgV (chL W m m n)) (m - 1) < W
  · exfalso
    generalize hX : chW (fgV (chL W m m n)) (m - 1) = X at *
    have hx := (chW_iff (fgV (chL W m m n)) X (m - 1)).mp (by omega)
    have hd0 : 1 ≤ fg (fgV (chL W m m n)) 0 := by rw [l3 0 (by omega)]; exact (l2 _ (by omega)).1
    have hmX : m ≤ X := by omega
    refine hmin X (by omega) hlt m hm.1 hm.2 ⟨hmX, hok.2.1, ?_⟩
    have hq : ∀ q, q < m → (fg (fgV (chL W m m n)) q : Int) ≤ chR X m q := fun q hq => by
      have h15 : fg (fgV (chL W m m n)) q ≤ 15 := by rw [l3 q hq]; exact (l2 _ (by omega)).2
      unfold chR
      by_cases e : q = 0
      · subst e; rw [if_pos rfl]; omega
      · rw [if_neg e]
        have := hx.2 q (by omega) (by omega)
        omega
    have hsum : ∀ k, k ≤ m → (sm (fg (fgV (chL W m m n))) k : Int) ≤ chP X m k := by
      intro k
      induction k with
      | zero => intro _; exact Int.le_refl _
      | succ k ih =>
        intro hk
        have := ih (by omega)
        have := hq k (by omega)
        show ((sm _ k + fg _ k : Nat) : Int) ≤ chP X m k + chR X m k
        omega
    have hs := hsum m (Nat.le_refl _)
    have es : sm (fg (fgV (chL W m m n))) m = n := by
      rw [sm_cong (g := fun q => (chL W m m n).getD (m - 1 - q) 0) (fun c hc => l3 c hc)]
      have := sum_getD (chL W m m n)
      rw [l1] at this
      rw [this, l4]
    omega
  · omega
/-! the class -/
theorem tX1_choicePlaces (d W m k : Nat) (hW : W ≤ 40) (hm : m ≤ 12) (hk : k ≤ m) (σ : St) : Ct yX1_choicePlaces MX1_choicePlaces (d + 1) [.int (nI k), .int (nI m), .int (nI W)] σ (fun v σ' => v = some (.int (zI (chP W m k))) ∧ σ' = σ) := by
  refine Ct.of mX1_choicePlaces.1 (Nat.le_of_ble_eq_true rfl) (bX1_choicePlaces_0 (nI k) (nI m) (nI W) σ ?_)
  refine loopI1 (fun x a => Run MX1_choicePlaces (d + 1) 5 [some (.int (nI k)), some (.int (nI m)), some (.int (nI W)), some (.int a), some (.int x), none] [] σ _) (fun q a => a = zI (chP W m q)) k ?_ ?_ 0 0 (by omega) rfl
  · intro a ha
    exact bX1_choicePlaces_5 (nI k) (nI m) (nI W) a (nI k) σ (fun _ => ⟨by rw [ha], rfl⟩) (fun q => absurd q (nI_nlt (Nat.le_refl _) (by omega)))
  · intro q a hq ha ih
    refine bX1_choicePlaces_5 (nI k) (nI m) (nI W) a (nI q) σ (fun z => absurd z (nI_ge hq (by omega))) (fun _ => ih _ ?_)
    have es : nI W - (if nI q = 0 then nI m - 1 else nI m - nI q) = zI ((W : Int) - (if q = 0 then (m : Int) - 1 else (m : Int) - q)) := by
      by_cases h0 : q = 0
      · rw [if_pos h0, if_pos (show nI q = 0 by rw [h0]; rfl)]; (simp only [nI_zI, zl0, zl1, zl2, zl3, zl4, zl5, zl6, zl7, zl8, zl9, zl10, zl11, zl12, zl13, zl14, zl15, zl16, zl24, zl30, zl31, zl32, zl48, zl56, zl57, zl60, zl63, zl99, zl100, zl130, zl199, zl200, zl240, zl999, zl1000, ← zI_add, ← zI_sub, ← zI_mul, ← zI_neg] <;> first | rfl | (congr 1; omega))
      · rw [if_neg h0, if_neg (show ¬ nI q = 0 from fun z => h0 ((nI_eq (b := 0) (by omega) (by decide)).mp z))]; (simp only [nI_zI, zl0, zl1, zl2, zl3, zl4, zl5, zl6, zl7, zl8, zl9, zl10, zl11, zl12, zl13, zl14, zl15, zl16, zl24, zl30, zl31, zl32, zl48, zl56, zl57, zl60, zl63, zl99, zl100, zl130, zl199, zl200, zl240, zl999, zl1000, ← zI_add, ← zI_sub, ← zI_mul, ← zI_neg] <;> first | rfl | (congr 1; omega))
    rw [es, show (15 : Int32) = zI 15 from rfl, mn_zI (by decide) (by split <;> omega), ha, ← zI_add]; rfl
theorem tX1_leastChoiceFigures (d n W m : Nat) (hn : n ≤ 32) (hW : W ≤ 32) (h : chOk n W m) (h12 : m ≤ 12) (σ : St) : Ct yX1_leastChoiceFigures MX1_leastChoiceFigures (d + 2) [.int (nI m), .int (nI n), .int (nI W)] σ (fun v σ' => v = some (.long (lN (fgV (chL W m m n)))) ∧ σ' = σ) := by
  refine Ct.of mX1_leastChoiceFigures.1 (Nat.le_of_ble_eq_true rfl) (bX1_leastChoiceFigures_0 (nI m) (nI n) (nI W) σ ?_)
  have e1 : nI m - 1 = nI m + (-1) := by (simp only [nI_zI, zl0, zl1, zl2, zl3, zl4, zl5, zl6, zl7, zl8, zl9, zl10, zl11, zl12, zl13, zl14, zl15, zl16, zl24, zl30, zl31, zl32, zl48, zl56, zl57, zl60, zl63, zl99, zl100, zl130, zl199, zl200, zl240, zl999, zl1000, ← zI_add, ← zI_sub, ← zI_mul, ← zI_neg] <;> first | rfl | (congr 1; omega))
  rw [e1]
  have key : ∀ q left a, q ≤ m → q ≤ left → left ≤ n → (left : Int) ≤ chP W m q → a < 16 ^ (m - q) → Run MX1_leastChoiceFigures (d + 2) 10 [some (.int (nI m)), none, some (.int (nI W)), some (.long (lN a)), none, some (.int (nI left)), some (.int (nI q + (-1))), none] [] σ (fun v σ' => v = some (.long (lN ((chL W m q left).foldl (fun a z => 16 * a + z) a))) ∧ σ' = σ) := by
    intro q
    induction q with
    | zero =>
      intro left a _ _ _ _ _
      exact bX1_leastChoiceFigures_10 (nI m) (nI W) (lN a) (nI left) (nI 0 + (-1)) σ (fun _ => ⟨rfl, rfl⟩) (fun z => absurd z (by decide))
    | succ q ih =>
      intro left a hq hql hln hlP ha
      rw [pk_m1]
      refine bX1_leastChoiceFigures_10 (nI m) (nI W) (lN a) (nI left) (nI q) σ (fun z => absurd z (nI_pos (by omega))) (fun _ => (tX1_choicePlaces d W m q (by omega) h12 (by omega) σ).mono ?_)
      rintro v1 s1 ⟨hv, hs⟩
      rw [hv, hs]
      refine bX1_leastChoiceFigures_25 (nI m) (nI W) (lN a) (nI left) (nI q) (zI (chP W m q)) (nI left) 1 σ ?_
      have e : chP W m (q + 1) = chP W m q + chR W m q := rfl
      have hb := chP_bd h.1 q (by omega)
      have hr := chR_pos (q := q) h.1 (by omega)
      have ez : mxI 1 (nI left - zI (chP W m q)) = nI (max 1 ((left : Int) - chP W m q)).toNat := by
        rw [show nI left - zI (chP W m q) = zI ((left : Int) - chP W m q) by rw [zI_sub, nI_zI], show (1 : Int32) = zI 1 from rfl, mx_zI (by omega) (by omega), nI_zI, Int.toNat_of_nonneg (by omega)]
      rw [ez]
      have el : chL W m (q + 1) left = (max 1 ((left : Int) - chP W m q)).toNat :: chL W m q (left - (max 1 ((left : Int) - chP W m q)).toNat) := rfl
      rw [el]
      generalize hz : (max 1 ((left : Int) - chP W m q)).toNat = z
      have hz1 : 1 ≤ z ∧ z ≤ 15 ∧ z ≤ left ∧ q ≤ left - z ∧ ((left - z : Nat) : Int) ≤ chP W m q := by omega
      rw [push4 ha (by omega) hz1.2.1, pk_sub hz1.2.2.1]
      have h16 : 16 * a + z < 16 ^ (m - q) := by
        rw [show m - q = (m - (q + 1)) + 1 by omega, Nat.pow_succ]; omega
      exact ih (left - z) (16 * a + z) (by omega) hz1.2.2.2.1 (by omega) hz1.2.2.2.2 h16
  exact key m n 0 (Nat.le_refl _) h.2.1 (Nat.le_refl _) h.2.2 (Nat.pow_pos (by decide))
theorem ch_top {n : Nat} (hn : 1 ≤ n ∧ n ≤ 32) : ∃ m, 1 ≤ m ∧ m ≤ 12 ∧ chOk n n m := by
  have key : ∀ n, n ≤ 32 → 1 ≤ n → (chOk n n 1 ∨ chOk n n 2 ∨ chOk n n 3) := by
    intro n h1 h2
    unfold chOk
    have e1 : chP n 1 1 = 0 + chR n 1 0 := rfl
    have e2 : chP n 2 2 = 0 + chR n 2 0 + chR n 2 1 := rfl
    have e3 : chP n 3 3 = 0 + chR n 3 0 + chR n 3 1 + chR n 3 2 := rfl
    rw [e1, e2, e3]
    unfold chR
    rw [if_pos rfl, if_pos rfl, if_pos rfl, if_neg (by decide), if_neg (by decide), if_neg (by decide)]
    omega
  rcases key n hn.2 hn.1 with h | h | h
  · exact ⟨1, by decide, by decide, h⟩
  · exact ⟨2, by decide, by decide, h⟩
  · exact ⟨3, by decide, by decide, h⟩
theorem tX1_choiceFigures (d n : Nat) (hn : 1 ≤ n ∧ n ≤ 32) (σ : St) : Ct yX1_choiceFigures MX1_choiceFigures (d + 3) [.int (nI n)] σ (fun v σ' => (∃ W m, chBest n W m ∧ v = some (.long (lN (fgV (chL W m m n))))) ∧ σ' = σ) := by
  refine Ct.of mX1_choiceFigures.1 (Nat.le_of_ble_eq_true rfl) (bX1_choiceFigures_0 (nI n) σ ?_)
  have outer : ∀ q W, W + q = n + 1 → 1 ≤ W → (∀ W', 1 ≤ W' → W' < W → ∀ m', 1 ≤ m' → m' ≤ 12 → ¬ chOk n W' m') → Run MX1_choiceFigures (d + 3) 2 [some (.int (nI n)), some (.int (nI W)), none] [] σ (fun v σ' => (∃ W m, chBest n W m ∧ v = some (.long (lN (fgV (chL W m m n))))) ∧ σ' = σ) := by
    intro q
    induction q with
    | zero =>
      intro W hq hW hno
      exfalso
      obtain ⟨m, h1, h2, h3⟩ := ch_top hn
      exact hno n hn.1 (by omega) m h1 h2 h3
    | succ q ih =>
      intro W hq hW hno
      refine bX1_choiceFigures_2 (nI n) (nI W) σ (fun z => absurd z (nI_nlt (by omega) (by omega))) (fun _ => ?_)
      have next : (∀ m', 1 ≤ m' → m' ≤ 12 → ¬ chOk n W m') → Run MX1_choiceFigures (d + 3) 2 [some (.int (nI n)), some (.int (nI W + 1)), none] [] σ (fun v σ' => (∃ W m, chBest n W m ∧ v = some (.long (lN (fgV (chL W m m n))))) ∧ σ' = σ) := fun hn' => by
        rw [nI_1]
        exact ih (W + 1) (by omega) (by omega) (fun W' g1 g2 m' g3 g4 => by
          by_cases e : W' = W
          · rw [e]; exact hn' m' g3 g4
          · exact hno W' g1 (by omega) m' g3 g4)
      have inner : ∀ p m, m + p = 13 → 1 ≤ m → (∀ m', 1 ≤ m' → m' < m → ¬ chOk n W m') → Run MX1_choiceFigures (d + 3) 9 [some (.int (nI n)), some (.int (nI W)), some (.int (nI m))] [] σ (fun v σ' => (∃ W m, chBest n W m ∧ v = some (.long (lN (fgV (chL W m m n))))) ∧ σ' = σ) := by
        intro p
        induction p with
        | zero =>
          intro m hp hm hno2
          have : m = 13 := by omega
          subst this
          exact bX1_choiceFigures_9 (nI n) (nI W) (nI 13) σ (fun _ => next (fun m' g1 g2 => hno2 m' g1 (by omega))) (fun z => absurd z (by decide)) (fun z => absurd z (by decide)) (fun z => absurd z (by decide))
        | succ p ihp =>
          intro m hp hm hno2
          have nx : ¬ chOk n W m → Run MX1_choiceFigures (d + 3) 9 [some (.int (nI n)), some (.int (nI W)), some (.int (nI m + 1))] [] σ (fun v σ' => (∃ W m, chBest n W m ∧ v = some (.long (lN (fgV (chL W m m n))))) ∧ σ' = σ) := fun hm' => by
            rw [nI_1]
            exact ihp (m + 1) (by omega) (by omega) (fun m' g1 g2 => by
              by_cases e : m' = m
              · rw [e]; exact hm'
              · exact hno2 m' g1 (by omega))
          refine bX1_choiceFigures_9 (nI n) (nI W) (nI m) σ (fun z => absurd z (nI_nlt (b := m) (a := 12) (by omega) (by decide))) (fun _ z => ?_) (fun _ _ z => ?_) (fun _ z1 z2 => ?_)
          · have z := (nI_ltI (by omega) (by omega)).mp z
            exact next (fun m' g1 g2 g3 => by
              rcases (show m' < m ∨ m ≤ m' by omega) with e | e
              · exact hno2 m' g1 e g3
              · have := g3.1; omega)
          · have z := (nI_ltI (by omega) (by omega)).mp z
            exact nx (fun g => by have := g.2.1; omega)
          · have z1 := (nI_leI (by omega) (by omega)).mp z1
            have z2 := (nI_leI (by omega) (by omega)).mp z2
            refine (tX1_choicePlaces (d + 1) W m m (by omega) (by omega) (Nat.le_refl _) σ).mono ?_
            rintro v1 s1 ⟨hv, hs⟩
            rw [hv, hs]
            have hb := chP_bd z1 m (Nat.le_refl _)
            refine bX1_choiceFigures_31 (nI n) (nI W) (nI m) _ σ (fun z => nx (fun g => ?_)) (fun z => ?_)
            · rw [nI_zI] at z
              have z := (zI_lt (by omega) (by omega)).mp z
              have := g.2.2; omega
            · rw [nI_zI] at z
              have z := (zI_le (by omega) (by omega)).mp z
              have ok : chOk n W m := ⟨z1, z2, z⟩
              refine (tX1_leastChoiceFigures d n W m hn.2 (by omega) ok (by omega) σ).mono ?_
              rintro v2 s2 ⟨hv2, hs2⟩
              rw [hv2, hs2]
              exact bX1_choiceFigures_41 _ σ ⟨⟨W, m, ⟨⟨hW, by omega⟩, ⟨hm, by omega⟩, ok, hno, hno2⟩, rfl⟩, rfl⟩
      exact inner 12 1 (by omega) (Nat.le_refl _) (fun m' g1 g2 => by omega)
  exact outer n 1 (by omega) (Nat.le_refl _) (fun W' g1 g2 => by omega)
/-! the reference -/
def chT (W m : Nat) : Nat → Nat → Int
  | 0, _ => 0
  | a + 1, i => mxz (fun z => z + chT W m a 0) (chR W m a).toNat
theorem chT_ok {W m : Nat} (h : m ≤ W) (hm : m ≤ 12) : ∀ a, a ≤ m → ∀ i, chT W m a i = chP W m a
  | 0, _, _ => rfl
  | a + 1, ha, i => by
    have ih := chT_ok h hm a (by omega) 0
    have hr := chR_pos (q := a) h (by omega)
    have hb := chP_bd h a (by omega)
    show mxz (fun z => z + chT W m a 0) (chR W m a).toNat = chP W m a + chR W m a
    have h1 := le_mxz (f := fun z => z + chT W m a 0) (r := (chR W m a).toNat) (z := (chR W m a).toNat) (by omega) (Nat.le_refl _)
    have h1 : ((chR W m a).toNat : Int) + chT W m a 0 ≤ _ := h1
    rcases mxz_at (fun z => z + chT W m a 0) (chR W m a).toNat with q | ⟨z, g1, g2, g3⟩
    · rw [q] at h1 ⊢; omega
    · rw [g3] at h1 ⊢
      have h1 : ((chR W m a).toNat : Int) + chT W m a 0 ≤ (z : Int) + chT W m a 0 := h1
      show (z : Int) + chT W m a 0 = _
      omega
theorem chT_no {W m : Nat} (h : W < m) (hm : m ≤ 12) : ∀ a, 1 ≤ a → a ≤ m → ∀ i, chT W m a i ≤ -1000 + 15 * a
  | a + 1, _, ha, i => by
    show mxz (fun z => z + chT W m a 0) (chR W m a).toNat ≤ _
    rcases mxz_at (fun z => z + chT W m a 0) (chR W m a).toNat with q | ⟨z, g1, g2, g3⟩
    · rw [q]; omega
    · rw [g3]
      show (z : Int) + chT W m a 0 ≤ _
      have hz : (z : Int) ≤ chR W m a := by omega
      have h15 : chR W m a ≤ 15 := by unfold chR; omega
      cases a with
      | zero =>
        exfalso
        unfold chR at hz; rw [if_pos rfl] at hz; omega
      | succ a =>
        have := chT_no h hm (a + 1) (by omega) (by omega) 0
        omega
theorem chT_bd {W m : Nat} : ∀ a i, a ≤ 12 → -4000 ≤ chT W m a i ∧ chT W m a i ≤ 15 * a
  | 0, i, _ => by show -4000 ≤ (0 : Int) ∧ (0 : Int) ≤ 15 * 0; omega
  | a + 1, i, h => by
    have ih := chT_bd (W := W) (m := m) a 0 (by omega)
    have hg := mxz_ge (fun z => z + chT W m a 0) (chR W m a).toNat
    have e : chT W m (a + 1) i = mxz (fun z => z + chT W m a 0) (chR W m a).toNat := rfl
    rw [e]
    refine ⟨by omega, ?_⟩
    rcases mxz_at (fun z => z + chT W m a 0) (chR W m a).toNat with q | ⟨z, g1, g2, g3⟩
    · rw [q]; omega
    · rw [g3]
      have h15 : chR W m a ≤ 15 := by unfold chR; omega
      show (z : Int) + chT W m a 0 ≤ _
      omega
theorem roomC {W m a : Nat} (hW : W ≤ 32) (hm : m ≤ 12) (ha : a < m) (i : Int32) (x3 : Int32) (σ : St) : rX11_roomOf (nI a) i (nI W) 1 x3 (nI m) σ = zI (chR W m a) := by
  unfold rX11_roomOf
  rw [if_pos rfl]
  have ei : (if nI a = 0 then nI W - nI m + 1 else nI W - nI m + nI a) = zI ((W : Int) - (if a = 0 then (m : Int) - 1 else (m : Int) - a)) := by
    by_cases h0 : a = 0
    · rw [if_pos h0, if_pos (show nI a = 0 by rw [h0]; rfl)]; (simp only [nI_zI, zl0, zl1, zl2, zl3, zl4, zl5, zl6, zl7, zl8, zl9, zl10, zl11, zl12, zl13, zl14, zl15, zl16, zl24, zl30, zl31, zl32, zl48, zl56, zl57, zl60, zl63, zl99, zl100, zl130, zl199, zl200, zl240, zl999, zl1000, ← zI_add, ← zI_sub, ← zI_mul, ← zI_neg] <;> first | rfl | (congr 1; omega))
    · rw [if_neg h0, if_neg (show ¬ nI a = 0 from fun q => h0 ((nI_eq (b := 0) (by omega) (by decide)).mp q))]; (simp only [nI_zI, zl0, zl1, zl2, zl3, zl4, zl5, zl6, zl7, zl8, zl9, zl10, zl11, zl12, zl13, zl14, zl15, zl16, zl24, zl30, zl31, zl32, zl48, zl56, zl57, zl60, zl63, zl99, zl100, zl130, zl199, zl200, zl240, zl999, zl1000, ← zI_add, ← zI_sub, ← zI_mul, ← zI_neg] <;> first | rfl | (congr 1; omega))
  rw [ei]
  unfold chR
  generalize hg : (W : Int) - (if a = 0 then (m : Int) - 1 else (m : Int) - a) = g
  have hgb : -1000 ≤ g ∧ g ≤ 1000 := by rw [← hg]; split <;> omega
  rw [show (15 : Int32) = zI 15 from rfl]
  by_cases c : g ≤ 15
  · rw [if_pos ((zI_le (by omega) (by omega)).mpr c), Int.min_eq_right c]
  · rw [if_neg (fun q => c ((zI_le (by omega) (by omega)).mp q)), Int.min_eq_left (by omega)]
theorem fillsC (d W m : Nat) (hW : W ≤ 32) (hm : m ≤ 12) (x3 : Int32) (σ : St) : Ct yX11_fillsBelow MX11_fillsBelow (d + 2) [.ref 88, .int (nI W), .int 1, .int x3, .int (nI m)] σ (fun v σ' => v = none ∧ Fr [103] [] σ σ' ∧ ∀ a, a ≤ m → σ'.1 103 (130 * a) = zI (chT W m a 0)) :=
  (tX11_fillsBelow d W m 1 1 x3 (chT W m) (fun a _ => chR W m a) (fun _ _ _ => 0) rfl (by decide) hm (fun a i z h1 h2 => roomC hW hm h1 _ x3 z) (fun a i h1 h2 => by unfold chR; split <;> omega) (fun a i z z' h1 h2 h3 h4 => ⟨by unfold rX11_aboveThen; rw [if_pos rfl]; rfl, by decide⟩) (fun _ => rfl) (fun _ _ => rfl) (fun a i h => by have := chT_bd (W := W) (m := m) a i (by omega); omega) σ).mono (fun v s h => ⟨h.1, h.2.1, fun a ha => h.2.2 a ha 0 (by decide)⟩)
theorem figsC (d W n m : Nat) (hW : W ≤ 32) (hn : n ≤ 32) (hm : m ≤ 12) (h : chOk n W m) (x3 : Int32) (z : St) (ht : ∀ a, a ≤ m → z.1 103 (130 * a) = zI (chP W m a)) (Q : Option Value → St → Prop) (hQ : Q (some (.long (lN (fgV (chL W m m n))))) z) :
    Run MX11_sizes (d + 3) 172 [some (.ref 88), none, some (.int 1), some (.int x3), none, none, none, none, some (.long 0), none, some (.int (nI n)), some (.int 0), some (.int (nI m - 1)), none] [] z Q := by
  have eab : ∀ i a y, rX11_aboveThen i a y 1 x3 z = 0 := fun i a y => by unfold rX11_aboveThen; rw [if_pos rfl]
  have key : ∀ q left a, q ≤ m → q ≤ left → left ≤ n → (left : Int) ≤ chP W m q → a < 16 ^ (m - q) → Q (some (.long (lN ((chL W m q left).foldl (fun a z => 16 * a + z) a)))) z → Run MX11_sizes (d + 3) 172 [some (.ref 88), none, some (.int 1), some (.int x3), none, none, none, none, some (.long (lN a)), none, some (.int (nI left)), some (.int 0), some (.int (nI q + (-1))), none] [] z Q := by
    intro q
    induction q with
    | zero =>
      intro left a _ _ _ _ _ hQ
      exact bX11_sizes_172 1 x3 (lN a) (nI left) 0 (nI 0 + (-1)) z (fun _ => hQ) (fun p => absurd p (by decide))
    | succ q ih =>
      intro left a hq hql hln hlP ha hQ
      rw [pk_m1]
      refine bX11_sizes_172 1 x3 (lN a) (nI left) 0 (nI q) z (fun p => absurd p (nI_pos (by omega))) (fun _ => ?_)
      have e : chP W m (q + 1) = chP W m q + chR W m q := rfl
      have hb := chP_bd h.1 q (by omega)
      have hr := chR_pos (q := q) h.1 (by omega)
      have el : chL W m (q + 1) left = (max 1 ((left : Int) - chP W m q)).toNat :: chL W m q (left - (max 1 ((left : Int) - chP W m q)).toNat) := rfl
      rw [el] at hQ
      generalize hz : (max 1 ((left : Int) - chP W m q)).toNat = zz at hQ
      have hz1 : 1 ≤ zz ∧ zz ≤ 15 ∧ zz ≤ left ∧ q ≤ left - zz ∧ ((left - zz : Nat) : Int) ≤ chP W m q := by omega
      have ei : ∀ y, (130 : Int32) * nI q + rX11_aboveThen 0 (nI q) y 1 x3 z = nI (130 * q) := fun y => by
        rw [eab, Int32.add_zero]; exact pk_mul 130 q
      have inner : ∀ p y, y + p = zz → 1 ≤ y → Run MX11_sizes (d + 3) 180 [some (.ref 88), none, some (.int 1), some (.int x3), none, none, none, none, some (.long (lN a)), none, some (.int (nI left)), some (.int 0), some (.int (nI q)), some (.int (nI y))] [] z Q := by
        intro p
        induction p with
        | zero =>
          intro y hy hy1
          have : y = zz := by omega
          subst this
          have hsub : nI left - nI y = nI (left - y) := pk_sub hz1.2.2.1
          refine bX11_sizes_180 1 x3 (lN a) (nI left) 0 (nI q) (nI y) z (fun _ => by rw [ei]; exact vp_in_nI (by omega) (by decide)) (fun p => ?_) (fun _ _ => ?_) (fun _ p => ?_)
          · rw [hsub] at p; exact absurd ((nI_ltI (by omega) (by omega)).mp p) (by omega)
          · rw [hsub, eab, push4 ha (by omega) hz1.2.1]
            have h16 : 16 * a + y < 16 ^ (m - q) := by
              rw [show m - q = (m - (q + 1)) + 1 by omega, Nat.pow_succ]; omega
            exact ih (left - y) (16 * a + y) (by omega) hz1.2.2.2.1 (by omega) hz1.2.2.2.2 h16 hQ
          · rw [ei, hsub, nI_clamp (by omega), ht q (by omega), nI_zI] at p
            exact absurd ((zI_lt (by omega) (by omega)).mp p) (by omega)
        | succ p ihp =>
          intro y hy hy1
          have hsub : nI left - nI y = nI (left - y) := pk_sub (by omega)
          have nx : Run MX11_sizes (d + 3) 180 [some (.ref 88), none, some (.int 1), some (.int x3), none, none, none, none, some (.long (lN a)), none, some (.int (nI left)), some (.int 0), some (.int (nI q)), some (.int (nI y + 1))] [] z Q := by
            rw [nI_1]; exact ihp (y + 1) (by omega) (by omega)
          refine bX11_sizes_180 1 x3 (lN a) (nI left) 0 (nI q) (nI y) z (fun _ => by rw [ei]; exact vp_in_nI (by omega) (by decide)) (fun _ => nx) (fun _ p => ?_) (fun _ _ => nx)
          exfalso
          rw [ei, hsub, nI_clamp (by omega), ht q (by omega), nI_zI] at p
          have p := (zI_le (by omega) (by omega)).mp p
          omega
      exact inner (zz - 1) 1 (by omega) (Nat.le_refl _)
  have e1 : nI m - 1 = nI m + (-1) := by (simp only [nI_zI, zl0, zl1, zl2, zl3, zl4, zl5, zl6, zl7, zl8, zl9, zl10, zl11, zl12, zl13, zl14, zl15, zl16, zl24, zl30, zl31, zl32, zl48, zl56, zl57, zl60, zl63, zl99, zl100, zl130, zl199, zl200, zl240, zl999, zl1000, ← zI_add, ← zI_sub, ← zI_mul, ← zI_neg] <;> first | rfl | (congr 1; omega))
  rw [e1]
  exact key m n 0 (Nat.le_refl _) h.2.1 (Nat.le_refl _) h.2.2 (Nat.pow_pos (by decide)) hQ
theorem refChoice (d n W m : Nat) (hn : 1 ≤ n ∧ n ≤ 32) (hB : chBest n W m) (x3 x4 : Int32) (σ : St) : Run MX11_sizes (d + 3) 62 [some (.ref 88), some (.int (nI n)), some (.int 1), some (.int x3), some (.int x4), some (.int 0), some (.int 0), some (.int 0), none, none, none, none, none, none] [] σ (fun v2 σ2 => v2 = some (.long (if x4 = 0 then (nI W).toInt64 else lN (fgV (chL W m m n)))) ∧ Fr [103] [] σ σ2) := by
  obtain ⟨hW, hm, hok, hWmin, hmmin⟩ := hB
  have hmn := hok.2.1
  have hL : (if nI n ≤ (12 : Int32) then nI n else (12 : Int32)) = nI (min n 12) := by
    rw [show (12 : Int32) = nI 12 from rfl]
    by_cases c : n ≤ 12
    · rw [if_pos ((nI_leI (by omega) (by decide)).mpr c), Nat.min_eq_left c]
    · rw [if_neg (fun q => c ((nI_leI (by omega) (by decide)).mp q)), Nat.min_eq_right (by omega)]
  have iff : ∀ w k, 1 ≤ k → k ≤ min n 12 → ((n : Int) ≤ chT w k k 0 ↔ chOk n w k) := fun w k h1 h2 => by
    rcases (show k ≤ w ∨ w < k by omega) with h | h
    · rw [chT_ok h (by omega) k (Nat.le_refl _)]
      exact ⟨fun q => ⟨h, by omega, q⟩, fun q => q.2.2⟩
    · have := chT_no h (by omega) k h1 (Nat.le_refl _) 0
      exact ⟨fun q => by omega, fun q => by have := q.1; omega⟩
  have scan : ∀ w, 1 ≤ w → w ≤ W → (w < W → ∀ z', Fr [103] [] σ z' → Run MX11_sizes (d + 3) 62 [some (.ref 88), some (.int (nI n)), some (.int 1), some (.int x3), some (.int x4), some (.int (nI w)), some (.int (nI (min n 12))), some (.int 0), none, none, none, none, none, none] [] z' (fun v2 σ2 => v2 = some (.long (if x4 = 0 then (nI W).toInt64 else lN (fgV (chL W m m n)))) ∧ Fr [103] [] σ σ2)) → ∀ q k z, k + q = min n 12 → Fr [103] [] σ z → (∀ m', 1 ≤ m' → m' ≤ k → ¬ chOk n w m') → Run MX11_sizes (d + 3) 73 [some (.ref 88), some (.int (nI n)), some (.int 1), some (.int x3), some (.int x4), some (.int (nI w)), some (.int (nI k)), some (.int 0), none, none, none, none, none, none] [] z (fun v2 σ2 => v2 = some (.long (if x4 = 0 then (nI W).toInt64 else lN (fgV (chL W m m n)))) ∧ Fr [103] [] σ σ2) := by
    intro w hw1 hwW hnext q
    induction q with
    | zero =>
      intro k z hk hF hno
      refine bX11_sizes_73 (nI n) 1 x3 x4 (nI w) (nI k) 0 z (fun _ q => absurd q (by rw [hL]; exact nI_nlt (by omega) (by omega))) (fun q => absurd rfl q) (fun _ _ => ?_) (fun _ q => absurd q (by rw [hL]; exact nI_nlt (by omega) (by omega))) (fun _ q => absurd q (by rw [hL]; exact nI_nlt (by omega) (by omega))) (fun _ q => absurd q (by rw [hL]; exact nI_nlt (by omega) (by omega)))
      have hlt : w < W := by
        rcases (show w < W ∨ w = W by omega) with h | h
        · exact h
        · subst h; exact absurd hok (hno m hm.1 (by omega))
      rw [show k = min n 12 by omega]
      exact hnext hlt z hF
    | succ q ih =>
      intro k z hk hF hno
      refine bX11_sizes_73 (nI n) 1 x3 x4 (nI w) (nI k) 0 z (fun _ _ q => absurd rfl q) (fun q => absurd rfl q) (fun _ q => absurd q (by rw [hL]; exact nI_ge (by omega) (by omega))) (fun _ _ _ => ?_) (fun _ _ q => absurd rfl q) (fun _ _ q => absurd rfl q)
      rw [if_pos rfl, nI_1]
      refine (fillsC d w (k + 1) (by omega) (by omega) x3 z).mono ?_
      rintro v1 s1 ⟨hv, hF1, ht⟩
      rw [hv]
      have hF2 := hF.tr hF1
      have e130 : (130 : Int32) * nI (k + 1) = nI (130 * (k + 1)) := pk_mul 130 _
      refine bX11_sizes_123 (nI n) 1 x3 x4 (nI w) (nI (k + 1)) s1 (by rw [e130]; exact vp_in_nI (by omega) (by decide)) ?_
      have hbd := chT_bd (W := w) (m := k + 1) (k + 1) 0 (by omega)
      have ec : (nI n ≤ s1.1 103 ((130 : Int32) * nI (k + 1)).toNatClampNeg) ↔ chOk n w (k + 1) := by
        rw [e130, nI_clamp (by omega), ht (k + 1) (Nat.le_refl _), ← iff w (k + 1) (by omega) (by omega), nI_zI]; exact zI_le (by omega) (by omega)
      by_cases c : chOk n w (k + 1)
      · rw [bI_pos (ec.mpr c)]
        refine bX11_sizes_73 (nI n) 1 x3 x4 (nI w) (nI (k + 1)) 1 s1 (fun q => absurd q (by decide)) (fun _ => ?_) (fun q => absurd q (by decide)) (fun q => absurd q (by decide)) (fun q => absurd q (by decide)) (fun q => absurd q (by decide))
        have ewW : w = W := by
          rcases (show w < W ∨ w = W by omega) with h | h
          · exact absurd c (hWmin w hw1 h (k + 1) (by omega) (by omega))
          · exact h
        subst ewW
        have ekm : k + 1 = m := by
          rcases Nat.lt_trichotomy (k + 1) m with h | h | h
          · exact absurd c (hmmin (k + 1) (by omega) h)
          · exact h
          · exact absurd hok (hno m hm.1 (by omega))
        refine bX11_sizes_62 (nI n) 1 x3 x4 (nI w) (nI (k + 1)) 1 s1 (fun _ q => ?_) (fun _ q => ⟨by rw [if_pos q], hF2⟩) (fun q => absurd q (by decide))
        subst ekm
        exact figsC d w n (k + 1) (by omega) hn.2 hm.2 c x3 s1 (fun a ha => by rw [ht a ha, chT_ok c.1 hm.2 a ha]) _ ⟨by rw [if_neg q], hF2⟩
      · rw [bI_neg (fun h => c (ec.mp h))]
        exact ih (k + 1) s1 (by omega) hF2 (fun m' g1 g2 => by
          by_cases e : m' = k + 1
          · rw [e]; exact c
          · exact hno m' g1 (by omega))
  have outer : ∀ q w x6 z, w + q = W → w < W → Fr [103] [] σ z → Run MX11_sizes (d + 3) 62 [some (.ref 88), some (.int (nI n)), some (.int 1), some (.int x3), some (.int x4), some (.int (nI w)), some (.int x6), some (.int 0), none, none, none, none, none, none] [] z (fun v2 σ2 => v2 = some (.long (if x4 = 0 then (nI W).toInt64 else lN (fgV (chL W m m n)))) ∧ Fr [103] [] σ σ2) := by
    intro q
    induction q with
    | zero => intro w x6 z h1 h2; omega
    | succ q ih =>
      intro w x6 z h1 h2 hF
      refine bX11_sizes_62 (nI n) 1 x3 x4 (nI w) x6 0 z (fun q => absurd rfl q) (fun q => absurd rfl q) (fun _ => ?_)
      rw [nI_1]
      exact scan (w + 1) (by omega) (by omega) (fun hlt z' hF' => ih (w + 1) _ z' (by omega) hlt hF') (min n 12) 0 z (by omega) hF (fun m' g1 g2 => by omega)
  exact outer W 0 0 σ (by omega) (by omega) Fr.rf
theorem pub_sizes (d : Nat) (x1 x2 x3 x4 : Int32) (σ : St) : PB yX10_sizes MX10_sizes (d + 5) yX11_sizes MX11_sizes (d + 3) [.int x1, .int x2, .int x3, .int x4] σ [24, 25, 103] [] (fun _ => True) := by
  by_cases hg : (1 ≤ x1.toInt ∧ x1.toInt < (33 : Nat)) ∧ (x2 = 1 ∨ (x2 = 0 ∧ ((1 : Int32) ≤ x3 ∧ x3 ≤ 9))) ∧ (0 ≤ x4.toInt ∧ x4.toInt ≤ 1)
  · obtain ⟨hx1, hk, hx4⟩ := hg
    obtain ⟨n, hn, e1⟩ := ofI (x := x1) (n := 33) (by omega) hx1.2 (by decide)
    have hn1 : 1 ≤ n ∧ n ≤ 32 := by have := hx1.1; rw [e1, nI_toInt (by omega)] at this; omega
    have ref : ∀ (s : St) (r : Int64), Fr [24, 25, 103] [] σ s → Run MX11_sizes (d + 3) 62 [some (.ref 88), some (.int x1), some (.int x2), some (.int x3), some (.int x4), some (.int 0), some (.int 0), some (.int 0), none, none, none, none, none, none] [] s (fun v2 σ2 => v2 = some (.long r) ∧ Fr [103] [] s σ2) → Ct yX11_sizes MX11_sizes (d + 3) [.ref 88, .int x1, .int x2, .int x3, .int x4] s (fun v2 σ2 => v2 = some (.long r) ∧ Fr [24, 25, 103] [] σ σ2 ∧ True) := by
      intro s r hF go
      have go2 := go.mono (Q2 := fun v2 σ2 => v2 = some (.long r) ∧ Fr [24, 25, 103] [] σ σ2 ∧ True) (fun v s' h => ⟨h.1, hF.tr (h.2.mono (by decide) (by decide)), trivial⟩)
      refine Ct.of mX11_sizes.1 (Nat.le_of_ble_eq_true rfl) (bX11_sizes_0 x1 x2 x3 x4 s (fun a => False.elim (by simp only [Int32.lt_iff_toInt_lt, Int32.le_iff_toInt_le, Int64.lt_iff_toInt_lt, Int64.le_iff_toInt_le, ← Int32.toInt_inj, ← Int64.toInt_inj, Int32.toInt_toInt64, tim20, tim13, tim12, tim11, tim10, tim4, tim3, tim2, tim1, ti0, ti1, ti2, ti3, ti4, ti5, ti6, ti7, ti8, ti9, ti10, ti11, ti12, ti13, ti14, ti15, ti16, ti24, ti30, ti31, ti32, ti48, ti56, ti57, ti60, ti63, ti99, ti100, ti130, ti199, ti200, ti240, ti999, ti1000, ti20, ti21, ti22, ti23, ti65535, ti32767, ti144, tjm20, tjm13, tjm12, tjm11, tjm10, tjm4, tjm3, tjm2, tjm1, tj0, tj1, tj2, tj3, tj4, tj5, tj6, tj7, tj8, tj9, tj10, tj11, tj12, tj13, tj14, tj15, tj16, tj24, tj30, tj31, tj32, tj48, tj56, tj57, tj60, tj63, tj99, tj100, tj130, tj199, tj200, tj240, tj999, tj1000, tj20, tj21, tj22, tj23, tj65535, tj32767, tj144] at a; omega)) (fun _ q => ?_) (fun _ _ _ _ => go2) (fun _ _ _ q => ?_) (fun _ _ e q => ?_) (fun _ _ _ _ _ => go2) (fun _ _ _ _ q => ?_))
      · exfalso
        rcases hk with h | ⟨h, _, _⟩ <;> rw [h] at q <;> exact q (by decide)
      · exfalso; simp only [Int32.lt_iff_toInt_lt, Int32.le_iff_toInt_le, Int64.lt_iff_toInt_lt, Int64.le_iff_toInt_le, ← Int32.toInt_inj, ← Int64.toInt_inj, Int32.toInt_toInt64, tim20, tim13, tim12, tim11, tim10, tim4, tim3, tim2, tim1, ti0, ti1, ti2, ti3, ti4, ti5, ti6, ti7, ti8, ti9, ti10, ti11, ti12, ti13, ti14, ti15, ti16, ti24, ti30, ti31, ti32, ti48, ti56, ti57, ti60, ti63, ti99, ti100, ti130, ti199, ti200, ti240, ti999, ti1000, ti20, ti21, ti22, ti23, ti65535, ti32767, ti144, tjm20, tjm13, tjm12, tjm11, tjm10, tjm4, tjm3, tjm2, tjm1, tj0, tj1, tj2, tj3, tj4, tj5, tj6, tj7, tj8, tj9, tj10, tj11, tj12, tj13, tj14, tj15, tj16, tj24, tj30, tj31, tj32, tj48, tj56, tj57, tj60, tj63, tj99, tj100, tj130, tj199, tj200, tj240, tj999, tj1000, tj20, tj21, tj22, tj23, tj65535, tj32767, tj144] at q; omega
      · exfalso
        rcases hk with h | ⟨_, h1, h2⟩
        · rw [h] at e; exact absurd e (by decide)
        · simp only [Int32.lt_iff_toInt_lt, Int32.le_iff_toInt_le, Int64.lt_iff_toInt_lt, Int64.le_iff_toInt_le, ← Int32.toInt_inj, ← Int64.toInt_inj, Int32.toInt_toInt64, tim20, tim13, tim12, tim11, tim10, tim4, tim3, tim2, tim1, ti0, ti1, ti2, ti3, ti4, ti5, ti6, ti7, ti8, ti9, ti10, ti11, ti12, ti13, ti14, ti15, ti16, ti24, ti30, ti31, ti32, ti48, ti56, ti57, ti60, ti63, ti99, ti100, ti130, ti199, ti200, ti240, ti999, ti1000, ti20, ti21, ti22, ti23, ti65535, ti32767, ti144, tjm20, tjm13, tjm12, tjm11, tjm10, tjm4, tjm3, tjm2, tjm1, tj0, tj1, tj2, tj3, tj4, tj5, tj6, tj7, tj8, tj9, tj10, tj11, tj12, tj13, tj14, tj15, tj16, tj24, tj30, tj31, tj32, tj48, tj56, tj57, tj60, tj63, tj99, tj100, tj130, tj199, tj200, tj240, tj999, tj1000, tj20, tj21, tj22, tj23, tj65535, tj32767, tj144] at h1 h2 q; omega
      · exfalso; simp only [Int32.lt_iff_toInt_lt, Int32.le_iff_toInt_le, Int64.lt_iff_toInt_lt, Int64.le_iff_toInt_le, ← Int32.toInt_inj, ← Int64.toInt_inj, Int32.toInt_toInt64, tim20, tim13, tim12, tim11, tim10, tim4, tim3, tim2, tim1, ti0, ti1, ti2, ti3, ti4, ti5, ti6, ti7, ti8, ti9, ti10, ti11, ti12, ti13, ti14, ti15, ti16, ti24, ti30, ti31, ti32, ti48, ti56, ti57, ti60, ti63, ti99, ti100, ti130, ti199, ti200, ti240, ti999, ti1000, ti20, ti21, ti22, ti23, ti65535, ti32767, ti144, tjm20, tjm13, tjm12, tjm11, tjm10, tjm4, tjm3, tjm2, tjm1, tj0, tj1, tj2, tj3, tj4, tj5, tj6, tj7, tj8, tj9, tj10, tj11, tj12, tj13, tj14, tj15, tj16, tj24, tj30, tj31, tj32, tj48, tj56, tj57, tj60, tj63, tj99, tj100, tj130, tj199, tj200, tj240, tj999, tj1000, tj20, tj21, tj22, tj23, tj65535, tj32767, tj144] at q; omega
    refine Ct.of mX10_sizes.1 (Nat.le_of_ble_eq_true rfl) (bX10_sizes_0 x1 x2 x3 x4 σ (fun a => False.elim (by simp only [Int32.lt_iff_toInt_lt, Int32.le_iff_toInt_le, Int64.lt_iff_toInt_lt, Int64.le_iff_toInt_le, ← Int32.toInt_inj, ← Int64.toInt_inj, Int32.toInt_toInt64, tim20, tim13, tim12, tim11, tim10, tim4, tim3, tim2, tim1, ti0, ti1, ti2, ti3, ti4, ti5, ti6, ti7, ti8, ti9, ti10, ti11, ti12, ti13, ti14, ti15, ti16, ti24, ti30, ti31, ti32, ti48, ti56, ti57, ti60, ti63, ti99, ti100, ti130, ti199, ti200, ti240, ti999, ti1000, ti20, ti21, ti22, ti23, ti65535, ti32767, ti144, tjm20, tjm13, tjm12, tjm11, tjm10, tjm4, tjm3, tjm2, tjm1, tj0, tj1, tj2, tj3, tj4, tj5, tj6, tj7, tj8, tj9, tj10, tj11, tj12, tj13, tj14, tj15, tj16, tj24, tj30, tj31, tj32, tj48, tj56, tj57, tj60, tj63, tj99, tj100, tj130, tj199, tj200, tj240, tj999, tj1000, tj20, tj21, tj22, tj23, tj65535, tj32767, tj144] at a; omega)) (fun a b => False.elim (by simp only [Int32.lt_iff_toInt_lt, Int32.le_iff_toInt_le, Int64.lt_iff_toInt_lt, Int64.le_iff_toInt_le, ← Int32.toInt_inj, ← Int64.toInt_inj, Int32.toInt_toInt64, tim20, tim13, tim12, tim11, tim10, tim4, tim3, tim2, tim1, ti0, ti1, ti2, ti3, ti4, ti5, ti6, ti7, ti8, ti9, ti10, ti11, ti12, ti13, ti14, ti15, ti16, ti24, ti30, ti31, ti32, ti48, ti56, ti57, ti60, ti63, ti99, ti100, ti130, ti199, ti200, ti240, ti999, ti1000, ti20, ti21, ti22, ti23, ti65535, ti32767, ti144, tjm20, tjm13, tjm12, tjm11, tjm10, tjm4, tjm3, tjm2, tjm1, tj0, tj1, tj2, tj3, tj4, tj5, tj6, tj7, tj8, tj9, tj10, tj11, tj12, tj13, tj14, tj15, tj16, tj24, tj30, tj31, tj32, tj48, tj56, tj57, tj60, tj63, tj99, tj100, tj130, tj199, tj200, tj240, tj999, tj1000, tj20, tj21, tj22, tj23, tj65535, tj32767, tj144] at a b; omega)) (fun _ _ q => absurd hk q) (fun _ _ _ q => ?_) (fun _ _ _ _ _ q => ?_) (fun _ _ _ _ _ q => ?_) (fun _ _ _ _ q => ?_))
    · exfalso; simp only [Int32.lt_iff_toInt_lt, Int32.le_iff_toInt_le, Int64.lt_iff_toInt_lt, Int64.le_iff_toInt_le, ← Int32.toInt_inj, ← Int64.toInt_inj, Int32.toInt_toInt64, tim20, tim13, tim12, tim11, tim10, tim4, tim3, tim2, tim1, ti0, ti1, ti2, ti3, ti4, ti5, ti6, ti7, ti8, ti9, ti10, ti11, ti12, ti13, ti14, ti15, ti16, ti24, ti30, ti31, ti32, ti48, ti56, ti57, ti60, ti63, ti99, ti100, ti130, ti199, ti200, ti240, ti999, ti1000, ti20, ti21, ti22, ti23, ti65535, ti32767, ti144, tjm20, tjm13, tjm12, tjm11, tjm10, tjm4, tjm3, tjm2, tjm1, tj0, tj1, tj2, tj3, tj4, tj5, tj6, tj7, tj8, tj9, tj10, tj11, tj12, tj13, tj14, tj15, tj16, tj24, tj30, tj31, tj32, tj48, tj56, tj57, tj60, tj63, tj99, tj100, tj130, tj199, tj200, tj240, tj999, tj1000, tj20, tj21, tj22, tj23, tj65535, tj32767, tj144] at q; omega
    · -- CHOICE
      have e2 : x2 = 1 := by
        rcases hk with h | ⟨h, _, _⟩
        · exact h
        · exact absurd h q
      rw [e1]
      refine (tX1_choiceFigures (d + 1) n hn1 σ).mono ?_
      rintro v1 s1 ⟨⟨W, m, hB, hv⟩, hs⟩
      rw [hv, hs]
      have go := refChoice d n W m hn1 hB x3 x4 σ
      rw [← e1, ← e2] at go
      have ref1 := ref σ _ Fr.rf go
      obtain ⟨l1, l2, l3, l4⟩ := ch_list hB.2.2.1 hB.2.1.1 hB.2.1.2
      obtain ⟨f1, f2, f3, f4⟩ := fgV_figs (l := chL W m m n) (by rw [l1]; exact l2) (by rw [l1]; exact hB.2.1.1) (by rw [l1]; exact hB.2.1.2)
      rw [l1] at f1 f2
      rw [← e1]
      refine bX10_sizes_54 x2 x3 x4 _ σ (fun q => ?_) (fun q => ?_)
      · rw [if_neg q] at ref1
        exact ⟨_, rfl, ref1⟩
      · rw [if_pos q] at ref1
        rw [e2] at ref1 ⊢
        refine (tX1_worst (d + 2) (fgV (chL W m m n)) m f3 f1 f2 1 (by decide) x3 (fun h => absurd h (by decide)) σ).mono ?_
        rintro v2 s2 ⟨⟨-, w1⟩, hs2⟩
        rw [w1 rfl, hs2, ch_worst hB]
        exact bX10_sizes_68 _ σ ⟨_, rfl, ref1⟩
    · -- SKIP
      have hs0 : (1 : Int32) ≤ x3 ∧ x3 ≤ 9 := by
        rcases hk with h | ⟨_, h⟩
        · rw [h] at q; exact absurd q (by decide)
        · exact h
      have hs1 := hs0.1
      have hs2 := hs0.2
      simp only [Int32.lt_iff_toInt_lt, Int32.le_iff_toInt_le, Int64.lt_iff_toInt_lt, Int64.le_iff_toInt_le, ← Int32.toInt_inj, ← Int64.toInt_inj, Int32.toInt_toInt64, tim20, tim13, tim12, tim11, tim10, tim4, tim3, tim2, tim1, ti0, ti1, ti2, ti3, ti4, ti5, ti6, ti7, ti8, ti9, ti10, ti11, ti12, ti13, ti14, ti15, ti16, ti24, ti30, ti31, ti32, ti48, ti56, ti57, ti60, ti63, ti99, ti100, ti130, ti199, ti200, ti240, ti999, ti1000, ti20, ti21, ti22, ti23, ti65535, ti32767, ti144, tjm20, tjm13, tjm12, tjm11, tjm10, tjm4, tjm3, tjm2, tjm1, tj0, tj1, tj2, tj3, tj4, tj5, tj6, tj7, tj8, tj9, tj10, tj11, tj12, tj13, tj14, tj15, tj16, tj24, tj30, tj31, tj32, tj48, tj56, tj57, tj60, tj63, tj99, tj100, tj130, tj199, tj200, tj240, tj999, tj1000, tj20, tj21, tj22, tj23, tj65535, tj32767, tj144] at hs1 hs2
      obtain ⟨s, hs, e3⟩ := ofI (x := x3) (n := 10) (by omega) (by omega) (by decide)
      have hss : 1 ≤ s ∧ s ≤ 9 := by rw [e3, nI_toInt (by omega)] at hs1; omega
      rw [e1, e3]
      refine (tX1_skipFigures d n s hn1 hss σ).mono ?_
      rintro v1 s1 ⟨⟨W, b, l, hB, hv⟩, hF1⟩
      rw [hv]
      have go := refSkip d n s W b l hn1 hss hB x4 s1
      rw [← e1, ← e3] at go
      have q' : x2 = 0 := q
      have ref1 := ref s1 _ (hF1.mono (by decide) (by decide)) (by rw [q']; exact go)
      obtain ⟨hok, hlen, hsum⟩ := skLst_ok hB.2.2.2.2.2 hB.2.2.1
      obtain ⟨p1, p2⟩ := skOk_iff.mp hok
      obtain ⟨f1, f2, f3, f4⟩ := fgV_figs (l := l) (fun j hj => ⟨(p1 j hj).1, (p1 j hj).2.1⟩) (by rw [hlen]; exact hB.2.1.1) (by rw [hlen]; exact hB.2.1.2)
      rw [hlen] at f1 f2
      rw [← e1, ← e3]
      refine bX10_sizes_47 x2 x3 x4 _ s1 (fun q4 => ?_) (fun q4 => ?_)
      · rw [if_neg q4] at ref1
        exact ⟨_, rfl, ref1⟩
      · rw [if_pos q4] at ref1
        rw [q] at ref1 ⊢
        refine (tX1_worst (d + 2) (fgV l) b f3 f1 f2 0 (by decide) x3 (fun _ => ⟨s, hss.1, hss.2, e3⟩) s1).mono ?_
        rintro v2 s2 ⟨⟨w0, -⟩, hs2⟩
        obtain ⟨s', W', g1, g2, g3, g4⟩ := w0 rfl
        have es : s' = s := (nI_eq (by omega) (by omega)).mp (g1.symm.trans e3)
        subst es
        rw [g3, hs2, sk_worst hB.2.2.1 hB.2.2.2.2.2 hB.2.2.2.1 hB.2.1.1 hB.2.1.2 g4]
        exact bX10_sizes_68 _ s1 ⟨_, rfl, ref1⟩
    · exfalso; simp only [Int32.lt_iff_toInt_lt, Int32.le_iff_toInt_le, Int64.lt_iff_toInt_lt, Int64.le_iff_toInt_le, ← Int32.toInt_inj, ← Int64.toInt_inj, Int32.toInt_toInt64, tim20, tim13, tim12, tim11, tim10, tim4, tim3, tim2, tim1, ti0, ti1, ti2, ti3, ti4, ti5, ti6, ti7, ti8, ti9, ti10, ti11, ti12, ti13, ti14, ti15, ti16, ti24, ti30, ti31, ti32, ti48, ti56, ti57, ti60, ti63, ti99, ti100, ti130, ti199, ti200, ti240, ti999, ti1000, ti20, ti21, ti22, ti23, ti65535, ti32767, ti144, tjm20, tjm13, tjm12, tjm11, tjm10, tjm4, tjm3, tjm2, tjm1, tj0, tj1, tj2, tj3, tj4, tj5, tj6, tj7, tj8, tj9, tj10, tj11, tj12, tj13, tj14, tj15, tj16, tj24, tj30, tj31, tj32, tj48, tj56, tj57, tj60, tj63, tj99, tj100, tj130, tj199, tj200, tj240, tj999, tj1000, tj20, tj21, tj22, tj23, tj65535, tj32767, tj144] at q; omega
  · have bad : Ct yX11_sizes MX11_sizes (d + 3) [.ref 88, .int x1, .int x2, .int x3, .int x4] σ (fun v2 σ2 => v2 = some (.long (-1)) ∧ Fr [24, 25, 103] [] σ σ2 ∧ True) := by
      refine Ct.of mX11_sizes.1 (Nat.le_of_ble_eq_true rfl) (bX11_sizes_0 x1 x2 x3 x4 σ (fun _ => ⟨rfl, Fr.rf, trivial⟩) (fun _ _ => ⟨rfl, Fr.rf, trivial⟩) (fun a b c e => ?_) (fun _ _ _ _ => ⟨rfl, Fr.rf, trivial⟩) (fun _ _ _ _ => ⟨rfl, Fr.rf, trivial⟩) (fun a b c e f => ?_) (fun _ _ _ _ _ => ⟨rfl, Fr.rf, trivial⟩))
      · exfalso
        apply hg
        have b2 := b
        simp only [Int32.lt_iff_toInt_lt, Int32.le_iff_toInt_le, Int64.lt_iff_toInt_lt, Int64.le_iff_toInt_le, ← Int32.toInt_inj, ← Int64.toInt_inj, Int32.toInt_toInt64, tim20, tim13, tim12, tim11, tim10, tim4, tim3, tim2, tim1, ti0, ti1, ti2, ti3, ti4, ti5, ti6, ti7, ti8, ti9, ti10, ti11, ti12, ti13, ti14, ti15, ti16, ti24, ti30, ti31, ti32, ti48, ti56, ti57, ti60, ti63, ti99, ti100, ti130, ti199, ti200, ti240, ti999, ti1000, ti20, ti21, ti22, ti23, ti65535, ti32767, ti144, tjm20, tjm13, tjm12, tjm11, tjm10, tjm4, tjm3, tjm2, tjm1, tj0, tj1, tj2, tj3, tj4, tj5, tj6, tj7, tj8, tj9, tj10, tj11, tj12, tj13, tj14, tj15, tj16, tj24, tj30, tj31, tj32, tj48, tj56, tj57, tj60, tj63, tj99, tj100, tj130, tj199, tj200, tj240, tj999, tj1000, tj20, tj21, tj22, tj23, tj65535, tj32767, tj144] at a b2 c e
        refine ⟨by omega, Or.inl ?_, by omega⟩
        rw [← Int32.toInt_inj, ti1]; omega
      · exfalso
        apply hg
        simp only [Int32.lt_iff_toInt_lt, Int32.le_iff_toInt_le, Int64.lt_iff_toInt_lt, Int64.le_iff_toInt_le, ← Int32.toInt_inj, ← Int64.toInt_inj, Int32.toInt_toInt64, tim20, tim13, tim12, tim11, tim10, tim4, tim3, tim2, tim1, ti0, ti1, ti2, ti3, ti4, ti5, ti6, ti7, ti8, ti9, ti10, ti11, ti12, ti13, ti14, ti15, ti16, ti24, ti30, ti31, ti32, ti48, ti56, ti57, ti60, ti63, ti99, ti100, ti130, ti199, ti200, ti240, ti999, ti1000, ti20, ti21, ti22, ti23, ti65535, ti32767, ti144, tjm20, tjm13, tjm12, tjm11, tjm10, tjm4, tjm3, tjm2, tjm1, tj0, tj1, tj2, tj3, tj4, tj5, tj6, tj7, tj8, tj9, tj10, tj11, tj12, tj13, tj14, tj15, tj16, tj24, tj30, tj31, tj32, tj48, tj56, tj57, tj60, tj63, tj99, tj100, tj130, tj199, tj200, tj240, tj999, tj1000, tj20, tj21, tj22, tj23, tj65535, tj32767, tj144] at a e f
        refine ⟨by omega, Or.inr ⟨c, ?_⟩, by omega⟩
        rw [Int32.le_iff_toInt_le, Int32.le_iff_toInt_le, ti1, ti9]; omega
    exact Ct.of mX10_sizes.1 (Nat.le_of_ble_eq_true rfl) (bX10_sizes_0 x1 x2 x3 x4 σ (fun _ => ⟨_, rfl, bad⟩) (fun _ _ => ⟨_, rfl, bad⟩) (fun _ _ _ => ⟨_, rfl, bad⟩) (fun _ _ _ _ => ⟨_, rfl, bad⟩) (fun a b c e f _ => False.elim (hg ⟨by simp only [Int32.lt_iff_toInt_lt, Int32.le_iff_toInt_le, Int64.lt_iff_toInt_lt, Int64.le_iff_toInt_le, ← Int32.toInt_inj, ← Int64.toInt_inj, Int32.toInt_toInt64, tim20, tim13, tim12, tim11, tim10, tim4, tim3, tim2, tim1, ti0, ti1, ti2, ti3, ti4, ti5, ti6, ti7, ti8, ti9, ti10, ti11, ti12, ti13, ti14, ti15, ti16, ti24, ti30, ti31, ti32, ti48, ti56, ti57, ti60, ti63, ti99, ti100, ti130, ti199, ti200, ti240, ti999, ti1000, ti20, ti21, ti22, ti23, ti65535, ti32767, ti144, tjm20, tjm13, tjm12, tjm11, tjm10, tjm4, tjm3, tjm2, tjm1, tj0, tj1, tj2, tj3, tj4, tj5, tj6, tj7, tj8, tj9, tj10, tj11, tj12, tj13, tj14, tj15, tj16, tj24, tj30, tj31, tj32, tj48, tj56, tj57, tj60, tj63, tj99, tj100, tj130, tj199, tj200, tj240, tj999, tj1000, tj20, tj21, tj22, tj23, tj65535, tj32767, tj144] at a b; omega, c, by simp only [Int32.lt_iff_toInt_lt, Int32.le_iff_toInt_le, Int64.lt_iff_toInt_lt, Int64.le_iff_toInt_le, ← Int32.toInt_inj, ← Int64.toInt_inj, Int32.toInt_toInt64, tim20, tim13, tim12, tim11, tim10, tim4, tim3, tim2, tim1, ti0, ti1, ti2, ti3, ti4, ti5, ti6, ti7, ti8, ti9, ti10, ti11, ti12, ti13, ti14, ti15, ti16, ti24, ti30, ti31, ti32, ti48, ti56, ti57, ti60, ti63, ti99, ti100, ti130, ti199, ti200, ti240, ti999, ti1000, ti20, ti21, ti22, ti23, ti65535, ti32767, ti144, tjm20, tjm13, tjm12, tjm11, tjm10, tjm4, tjm3, tjm2, tjm1, tj0, tj1, tj2, tj3, tj4, tj5, tj6, tj7, tj8, tj9, tj10, tj11, tj12, tj13, tj14, tj15, tj16, tj24, tj30, tj31, tj32, tj48, tj56, tj57, tj60, tj63, tj99, tj100, tj130, tj199, tj200, tj240, tj999, tj1000, tj20, tj21, tj22, tj23, tj65535, tj32767, tj144] at e f; omega⟩)) (fun a b c e f _ => False.elim (hg ⟨by simp only [Int32.lt_iff_toInt_lt, Int32.le_iff_toInt_le, Int64.lt_iff_toInt_lt, Int64.le_iff_toInt_le, ← Int32.toInt_inj, ← Int64.toInt_inj, Int32.toInt_toInt64, tim20, tim13, tim12, tim11, tim10, tim4, tim3, tim2, tim1, ti0, ti1, ti2, ti3, ti4, ti5, ti6, ti7, ti8, ti9, ti10, ti11, ti12, ti13, ti14, ti15, ti16, ti24, ti30, ti31, ti32, ti48, ti56, ti57, ti60, ti63, ti99, ti100, ti130, ti199, ti200, ti240, ti999, ti1000, ti20, ti21, ti22, ti23, ti65535, ti32767, ti144, tjm20, tjm13, tjm12, tjm11, tjm10, tjm4, tjm3, tjm2, tjm1, tj0, tj1, tj2, tj3, tj4, tj5, tj6, tj7, tj8, tj9, tj10, tj11, tj12, tj13, tj14, tj15, tj16, tj24, tj30, tj31, tj32, tj48, tj56, tj57, tj60, tj63, tj99, tj100, tj130, tj199, tj200, tj240, tj999, tj1000, tj20, tj21, tj22, tj23, tj65535, tj32767, tj144] at a b; omega, c, by simp only [Int32.lt_iff_toInt_lt, Int32.le_iff_toInt_le, Int64.lt_iff_toInt_lt, Int64.le_iff_toInt_le, ← Int32.toInt_inj, ← Int64.toInt_inj, Int32.toInt_toInt64, tim20, tim13, tim12, tim11, tim10, tim4, tim3, tim2, tim1, ti0, ti1, ti2, ti3, ti4, ti5, ti6, ti7, ti8, ti9, ti10, ti11, ti12, ti13, ti14, ti15, ti16, ti24, ti30, ti31, ti32, ti48, ti56, ti57, ti60, ti63, ti99, ti100, ti130, ti199, ti200, ti240, ti999, ti1000, ti20, ti21, ti22, ti23, ti65535, ti32767, ti144, tjm20, tjm13, tjm12, tjm11, tjm10, tjm4, tjm3, tjm2, tjm1, tj0, tj1, tj2, tj3, tj4, tj5, tj6, tj7, tj8, tj9, tj10, tj11, tj12, tj13, tj14, tj15, tj16, tj24, tj30, tj31, tj32, tj48, tj56, tj57, tj60, tj63, tj99, tj100, tj130, tj199, tj200, tj240, tj999, tj1000, tj20, tj21, tj22, tj23, tj65535, tj32767, tj144] at e f; omega⟩)) (fun _ _ _ _ _ => ⟨_, rfl, bad⟩))
end CHOICE

/-! NETS by LAWS, in the class -/
section LAWSC
def hb (kind r i : Nat) : Bool := match kind with
  | 0 => decide (i = r + 1)
  | 1 => decide (i / 2 ^ r % 2 = 1)
  | 2 => decide (2 ^ r ≤ i)
  | 3 => decide ((i + 1) % 2 ^ (r + 1) = 0)
  | 4 => decide ((i + 1) % 2 ^ (r + 1) = 2 ^ r ∧ 2 ^ (r + 1) ≤ i)
  | 5 => decide (i % 2 = 1 ∧ 2 ^ r ≤ i)
  | _ => decide (i % 2 = 0 ∧ 2 ≤ i)
theorem hb0 : ∀ r, r < 32 → ∀ i, i < 32 → bI (nI i = nI r + 1) = bI (hb 0 r i = true) := by decide +kernel
theorem hb1 : ∀ r, r < 5 → ∀ i, i < 32 → bI (¬ (nI i &&& ((1 : Int32) <<< (nI r &&& 31))) = 0) = bI (hb 1 r i = true) := by decide +kernel
theorem hb2 : ∀ r, r < 5 → ∀ i, i < 32 → bI (((1 : Int32) <<< (nI r &&& 31)) ≤ nI i) = bI (hb 2 r i = true) := by decide +kernel
theorem hb3 : ∀ r, r < 5 → ∀ i, i < 32 → bI (((nI i + 1) &&& (((2 : Int32) * ((1 : Int32) <<< (nI r &&& 31))) - 1)) = 0) = bI (hb 3 r i = true) := by decide +kernel
theorem hb4 : ∀ r, r < 5 → ∀ i, i < 32 → bI (((nI i + 1) &&& (((2 : Int32) * ((1 : Int32) <<< (nI r &&& 31))) - 1)) = ((1 : Int32) <<< (nI r &&& 31)) ∧ ((2 : Int32) * ((1 : Int32) <<< (nI r &&& 31))) ≤ nI i) = bI (hb 4 r i = true) := by decide +kernel
theorem hb5 : ∀ r, r < 5 → ∀ i, i < 32 → bI ((nI i &&& 1) = 1 ∧ ((1 : Int32) <<< (nI r &&& 31)) ≤ nI i) = bI (hb 5 r i = true) := by decide +kernel
theorem hb6 : ∀ i, i < 32 → bI ((nI i &&& 1) = 0 ∧ (2 : Int32) ≤ nI i) = bI (hb 6 0 i = true) := by decide +kernel
theorem tX5_hasCell (d kind r i : Nat) (hk : kind ≤ 6) (hr : r < 32) (hr2 : kind ≠ 0 → r < 5) (hr6 : kind = 6 → r = 0) (hi : i < 32) (σ : St) : Ct yX5_hasCell MX5_hasCell d [.int (nI kind), .int (nI r), .int (nI i)] σ (fun v σ' => v = some (.int (bI (hb kind r i = true))) ∧ σ' = σ) := by
  have ne : ∀ j, j < 7 → nI kind = nI j → kind = j := fun j hj q => (nI_eq (by omega) (by omega)).mp q
  refine Ct.of mX5_hasCell.1 (Nat.le_of_ble_eq_true rfl) (bX5_hasCell_0 (nI kind) (nI r) (nI i) σ (fun q => ?_) (fun q => ?_) (fun q => ?_) (fun q => ?_) (fun q => ?_) (fun q => ?_) (fun q => ?_))
  · have e := ne 0 (by decide) q; subst e; exact ⟨by rw [hb0 r hr i hi], rfl⟩
  · have e := ne 1 (by decide) q; subst e; exact ⟨by rw [hb1 r (hr2 (by decide)) i hi], rfl⟩
  · have e := ne 2 (by decide) q; subst e; exact ⟨by rw [hb2 r (hr2 (by decide)) i hi], rfl⟩
  · have e := ne 3 (by decide) q; subst e; exact ⟨by rw [hb3 r (hr2 (by decide)) i hi], rfl⟩
  · have e := ne 4 (by decide) q; subst e; exact ⟨by rw [hb4 r (hr2 (by decide)) i hi], rfl⟩
  · have e := ne 5 (by decide) q; subst e; exact ⟨by rw [hb5 r (hr2 (by decide)) i hi], rfl⟩
  · rw [nI_toInt (by omega)] at q
    have e : kind = 6 := by omega
    subst e
    have e2 := hr6 rfl
    subst e2
    exact ⟨by rw [hb6 i hi], rfl⟩
theorem tX5_addRow (d k n D : Nat) (R : Nat → Nat) (kind r : Nat) (k8 : k < 8) (hok : okN n D R) (hD : D < 32) (hk : kind ≤ 6) (hr : r < 32) (hr2 : kind ≠ 0 → r < 5) (hr6 : kind = 6 → r = 0) (σ : St) (hc : cN k n D R σ) : Ct yX5_addRow MX5_addRow (d + 3) [.ref (32 + 6 * k), .int (nI kind), .int (nI r)] σ (fun v σ' => v = none ∧ cN k n (ad n (D, R) (mk (hb kind r) n)).1 (ad n (D, R) (mk (hb kind r) n)).2 σ' ∧ Fr (FN k) [] σ σ') := by
  have g2 := (nt_a k k8).2.1
  have n32 := hok.2.1
  refine Ct.of mX5_addRow.1 (Nat.le_of_ble_eq_true rfl) (bX5_addRow_0 _ (nI kind) (nI r) σ g2 ?_)
  refine loopI1 (fun x a => Run MX5_addRow (d + 3) 5 [some (.ref (32 + 6 * k)), some (.int (nI kind)), some (.int (nI r)), some (.int a), some (.int x)] [] σ _) (fun j a => a = nI (mk (hb kind r) j)) n ?_ ?_ 0 0 (by omega) rfl
  · intro a ha
    refine bX5_addRow_5 _ (nI kind) (nI r) a (nI n) σ g2 (fun _ => ?_) (fun q => absurd q (by rw [hc.1]; exact nI_nlt (Nat.le_refl _) (by omega)))
    rw [ha]
    refine (tX6_addRow d k n D R (mk (hb kind r) n) k8 hok hD σ hc).mono ?_
    rintro v s ⟨hv, h1, h2⟩
    rw [hv]
    exact bX5_addRow_42 s ⟨rfl, h1, h2⟩
  · intro j a hj ha ih
    refine bX5_addRow_5 _ (nI kind) (nI r) a (nI j) σ g2 (fun q => absurd q (by rw [hc.1]; exact nI_ge hj (by omega))) (fun _ => ?_)
    refine (tX5_hasCell (d + 2) kind r j hk hr hr2 hr6 (by omega) σ).mono ?_
    rintro v s ⟨hv, hs⟩
    rw [hv, hs]
    refine bX5_addRow_21 _ _ _ _ _ _ σ g2 (ih _ ?_)
    rw [ha, one_sh j (by omega), fa_or]
    show _ = nI (if hb kind r j = true then _ else _)
    by_cases c : hb kind r j = true
    · rw [if_neg (fun q => bI1.mpr c q), if_pos c]
    · rw [if_pos (by unfold bI; rw [if_neg c]), if_neg c]
/-- rows f 0, f 1, .. added one after another -/
def sq (n : Nat) (f : Nat → Nat) (p : Nat × (Nat → Nat)) : Nat → Nat × (Nat → Nat)
  | 0 => p
  | j + 1 => ad n (sq n f p j) (f j)
theorem sq_ok {n : Nat} {f : Nat → Nat} {p : Nat × (Nat → Nat)} (h : okN n p.1 p.2) : ∀ j, p.1 + j ≤ 32 → okN n (sq n f p j).1 (sq n f p j).2 ∧ (sq n f p j).1 ≤ p.1 + j
  | 0, _ => ⟨h, Nat.le_refl _⟩
  | j + 1, hj => by
    obtain ⟨a, b⟩ := sq_ok h j (by omega)
    have := ad_ok (f j) a (by omega)
    exact ⟨this.1, by have := this.2; show (ad n (sq n f p j) (f j)).1 ≤ _; exact Nat.le_trans this (by omega)⟩
theorem sq_cong {n : Nat} {f g : Nat → Nat} {p : Nat × (Nat → Nat)} : ∀ {j : Nat}, (∀ q, q < j → ∀ i, i < n → (f q).testBit i = (g q).testBit i) → sq n f p j = sq n g p j
  | 0, _ => rfl
  | j + 1, h => by
    show ad n _ _ = ad n _ _
    rw [sq_cong (fun q hq => h q (by omega)), ad_cong (h j (by omega))]
def p0 : Nat × (Nat → Nat) := (0, fun _ => 0)
theorem p0_ok {n : Nat} (h2 : 2 ≤ n) (h : n ≤ 32) : okN n p0.1 p0.2 := ⟨h2, h, Nat.zero_le _, fun r hr => absurd hr (Nat.not_lt_zero r)⟩
theorem tX5_oneByOne (d k n : Nat) (p : Nat × (Nat → Nat)) (k8 : k < 8) (hok : okN n p.1 p.2) (hp : p.1 = 0) (σ : St) (hc : cN k n p.1 p.2 σ) : Ct yX5_oneByOne MX5_oneByOne (d + 4) [.ref (32 + 6 * k)] σ (fun v σ' => v = none ∧ cN k n (sq n (fun r => mk (hb 0 r) n) p (n - 1)).1 (sq n (fun r => mk (hb 0 r) n) p (n - 1)).2 σ' ∧ Fr (FN k) [] σ σ') := by
  have g2 := (nt_a k k8).2.1
  have n32 := hok.2.1
  have n2 := hok.1
  refine Ct.of mX5_oneByOne.1 (Nat.le_of_ble_eq_true rfl) (bX5_oneByOne_0 _ σ g2 ?_)
  refine loopI1 (fun x s => Run MX5_oneByOne (d + 4) 2 [some (.ref (32 + 6 * k)), some (.int x)] [] s _) (fun j s => cN k n (sq n (fun r => mk (hb 0 r) n) p j).1 (sq n (fun r => mk (hb 0 r) n) p j).2 s ∧ Fr (FN k) [] σ s) (n - 1) ?_ ?_ 0 σ (by omega) ⟨hc, Fr.rf⟩
  · intro s ⟨h1, hF⟩
    refine bX5_oneByOne_2 _ (nI (n - 1)) s g2 (fun _ => ⟨rfl, h1, hF⟩) (fun q => ?_)
    rw [h1.1, ← nI_succ] at q
    exact absurd q (nI_nlt (by omega) (by omega))
  · intro j s hj ⟨h1, hF⟩ ih
    obtain ⟨o1, o2⟩ := sq_ok (f := fun r => mk (hb 0 r) n) hok j (by omega)
    refine bX5_oneByOne_2 _ (nI j) s g2 (fun q => ?_) (fun _ => ?_)
    · rw [h1.1, ← nI_succ] at q
      exact absurd q (nI_ge (by omega) (by omega))
    · refine (tX5_addRow d k n _ _ 0 j k8 o1 (by omega) (by omega) (by omega) (fun q => absurd rfl q) (fun q => absurd q (by decide)) s h1).mono ?_
      rintro v s2 ⟨hv, h2, hF2⟩
      rw [hv]
      exact bX5_oneByOne_18 _ _ s2 g2 (ih s2 ⟨h2, hF.tr hF2⟩)
def uD (n : Nat) : Nat := if n ≤ 1 then 0 else if n ≤ 2 then 1 else if n ≤ 4 then 2 else if n ≤ 8 then 3 else if n ≤ 16 then 4 else 5
theorem uD_1 : ∀ n, n < 33 → ∀ r, r < 5 → (r < uD n ↔ 2 ^ r < n) := by decide +kernel
theorem uD_2 : ∀ n, n < 33 → uD n ≤ 5 ∧ n ≤ 2 ^ uD n := by decide +kernel
def uU (n : Nat) : Nat := if n < 2 then 0 else if n < 4 then 1 else if n < 8 then 2 else if n < 16 then 3 else if n < 32 then 4 else 5
theorem uU_1 : ∀ n, n < 33 → ∀ r, r < 5 → (r < uU n ↔ 2 ^ (r + 1) ≤ n) := by decide +kernel
theorem uU_2 : ∀ n, n < 33 → uU n ≤ 5 ∧ n < 2 ^ (uU n + 1) := by decide +kernel
theorem two_sh : ∀ i, i < 5 → (2 : Int32) <<< (nI i &&& 31) = nI (2 ^ (i + 1)) := by decide +kernel
theorem tX5_doubling (d k n kind : Nat) (p : Nat × (Nat → Nat)) (k8 : k < 8) (hk : 1 ≤ kind ∧ kind ≤ 5) (hok : okN n p.1 p.2) (hp : p.1 ≤ 20) (σ : St) (hc : cN k n p.1 p.2 σ) : Ct yX5_doubling MX5_doubling (d + 4) [.ref (32 + 6 * k), .int (nI kind)] σ (fun v σ' => v = none ∧ cN k n (sq n (fun r => mk (hb kind r) n) p (uD n)).1 (sq n (fun r => mk (hb kind r) n) p (uD n)).2 σ' ∧ Fr (FN k) [] σ σ') := by
  have g2 := (nt_a k k8).2.1
  have n32 := hok.2.1
  have n2 := hok.1
  obtain ⟨u5, un⟩ := uD_2 n (by omega)
  refine Ct.of mX5_doubling.1 (Nat.le_of_ble_eq_true rfl) (bX5_doubling_0 _ (nI kind) σ g2 ?_)
  refine loopI1 (fun x s => Run MX5_doubling (d + 4) 2 [some (.ref (32 + 6 * k)), some (.int (nI kind)), some (.int x)] [] s _) (fun j s => cN k n (sq n (fun r => mk (hb kind r) n) p j).1 (sq n (fun r => mk (hb kind r) n) p j).2 s ∧ Fr (FN k) [] σ s) (uD n) ?_ ?_ 0 σ (by omega) ⟨hc, Fr.rf⟩
  · intro s ⟨h1, hF⟩
    refine bX5_doubling_2 _ (nI kind) (nI (uD n)) s g2 (fun _ => ⟨rfl, h1, hF⟩) (fun _ _ => ⟨rfl, h1, hF⟩) (fun _ q => ?_)
    rw [h1.1, one_sh _ (by omega)] at q
    have : 2 ^ uD n ≤ 2 ^ 5 := Nat.pow_le_pow_right (by decide) u5
    exact absurd q (nI_nlt un (by omega))
  · intro j s hj ⟨h1, hF⟩ ih
    obtain ⟨o1, o2⟩ := sq_ok (f := fun r => mk (hb kind r) n) hok j (by omega)
    have lt := (uD_1 n (by omega) j (by omega)).mp hj
    refine bX5_doubling_2 _ (nI kind) (nI j) s g2 (fun q => absurd q (nI_ge (show j < 5 by omega) (by decide))) (fun _ q => ?_) (fun _ _ => ?_)
    · rw [h1.1, one_sh _ (by omega)] at q
      exact absurd q (nI_ge lt (by omega))
    · refine (tX5_addRow d k n _ _ kind j k8 o1 (by omega) (by omega) (by omega) (fun _ => by omega) (fun q => by omega) s h1).mono ?_
      rintro v s2 ⟨hv, h2, hF2⟩
      rw [hv]
      exact bX5_doubling_23 _ _ _ s2 g2 (ih s2 ⟨h2, hF.tr hF2⟩)
end LAWSC

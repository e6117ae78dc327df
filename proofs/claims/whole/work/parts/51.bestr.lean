/-! BEST: states of the reference -/
section BESTR
def fc : Nat → Nat
  | 0 => 1
  | k + 1 => fc k * (k + 1)
def de (s i : Nat) : Nat := s / fc i % (i + 1)
def dS (n s i : Nat) : Nat := if i < n then de s i else 0
def en (n : Nat) (L : Nat → Nat) : Nat := sm (fun i => fc i * L i) n
theorem fc_pos : ∀ n, 0 < fc n
  | 0 => by decide
  | n + 1 => Nat.mul_pos (fc_pos n) (by omega)
theorem fc_7 : ∀ n, n < 8 → fc n ≤ 5040 := by decide
theorem dS_ok (n s : Nat) : okS n (dS n s) := fun i => by
  unfold dS
  refine ⟨?_, fun q => if_neg (by omega)⟩
  split
  · have : de s i < i + 1 := Nat.mod_lt _ (by omega)
    omega
  · omega
theorem en_lt {L : Nat → Nat} : ∀ {n : Nat}, (∀ i, i < n → L i ≤ i) → en n L < fc n
  | 0, _ => (by decide : 0 < 1)
  | n + 1, h => by
    have a := en_lt (n := n) (fun i hi => h i (by omega))
    have c : fc n * L n ≤ fc n * n := Nat.mul_le_mul_left _ (h n (by omega))
    show en n L + fc n * L n < fc n * (n + 1)
    rw [Nat.mul_succ]; omega
theorem en_de (s : Nat) : ∀ n, en n (de s) = s % fc n
  | 0 => by show 0 = s % 1; omega
  | n + 1 => by
    show en n (de s) + fc n * (s / fc n % (n + 1)) = s % (fc n * (n + 1))
    rw [en_de s n, Nat.mod_mul]
theorem fc_dvd {i : Nat} : ∀ {n : Nat}, i < n → ∃ K, fc n = fc i * ((i + 1) * K)
  | n + 1, h => by
    by_cases c : i = n
    · exact ⟨1, by rw [c, Nat.mul_one]; rfl⟩
    · obtain ⟨K, e⟩ := fc_dvd (i := i) (n := n) (by omega)
      refine ⟨K * (n + 1), ?_⟩
      show fc n * (n + 1) = _
      rw [e, Nat.mul_assoc, Nat.mul_assoc]
theorem de_en {L : Nat → Nat} {i : Nat} : ∀ {n : Nat}, (∀ i, i < n → L i ≤ i) → i < n → de (en n L) i = L i
  | n + 1, h, hi => by
    have h' : ∀ i, i < n → L i ≤ i := fun i hi => h i (by omega)
    have a := en_lt h'
    have e : en (n + 1) L = en n L + fc n * L n := rfl
    unfold de
    by_cases c : i < n
    · obtain ⟨K, eK⟩ := fc_dvd c
      have ih := de_en h' c
      unfold de at ih
      rw [e, eK, Nat.mul_assoc, Nat.add_mul_div_left _ _ (fc_pos i), Nat.mul_assoc, Nat.add_mul_mod_self_left, ih]
    · have c2 : i = n := by omega
      subst c2
      rw [e, Nat.add_mul_div_left _ _ (fc_pos i), Nat.div_eq_of_lt a, Nat.zero_add, Nat.mod_eq_of_lt (by have := h i (by omega); omega)]
theorem en_cong {A C : Nat → Nat} {n : Nat} (h : ∀ i, i < n → A i = C i) : en n A = en n C := sm_cong (fun c hc => by rw [h c hc])
theorem dS_en {n : Nat} {L : Nat → Nat} (h : okS n L) : dS n (en n L) = L := by
  funext i
  unfold dS
  by_cases c : i < n
  · rw [if_pos c, de_en (fun i _ => (h i).1) c]
  · rw [if_neg c, (h i).2 (by omega)]
theorem dS_0 {n s : Nat} (h : s < fc n) : op n (dS n s) = 0 ↔ s = 0 := by
  constructor
  · intro q
    have : en n (de s) = 0 := by
      refine sm_0 (fun i hi => ?_)
      have t := op_b n (dS n s) i
      rw [q, Nat.zero_testBit] at t
      have z : dS n s i = de s i := if_pos hi
      have : de s i = 0 := by
        by_cases c : de s i = 0
        · exact c
        · rw [z] at t; simp [hi, show 0 < de s i by omega] at t
      rw [this]; rfl
    rw [en_de, Nat.mod_eq_of_lt h] at this
    exact this
  · intro q
    subst q
    refine Nat.eq_of_testBit_eq (fun i => ?_)
    rw [op_b, Nat.zero_testBit]
    have : dS n 0 i = 0 := by
      unfold dS de
      rw [Nat.zero_div, Nat.zero_mod]
      exact ite_self _
    rw [this]; simp
theorem tX11_spansOf (d s n : Nat) (hs : s < 2 ^ 30) (hn : n ≤ 7) (σ : St) : Ct yX11_spansOf MX11_spansOf d [.ref 88, .int (nI s), .int (nI n)] σ (fun v s' => v = none ∧ Fr [93] [] σ s' ∧ ∀ i, i < n → s'.1 93 i = nI (dS n s i)) := by
  refine Ct.of mX11_spansOf.1 (Nat.le_of_ble_eq_true rfl) (bX11_spansOf_0 _ _ σ ?_)
  refine loopI2 (fun x a s' => Run MX11_spansOf d 5 [some (.ref 88), none, some (.int (nI n)), some (.int a), some (.int x)] [] s' _) (fun j a s' => a = nI (s / fc j) ∧ Fr [93] [] σ s' ∧ ∀ i, i < j → s'.1 93 i = nI (dS n s i)) n ?_ ?_ 0 _ σ (by omega) ⟨by show nI s = nI (s / 1); rw [Nat.div_one], Fr.rf, fun i hi => absurd hi (Nat.not_lt_zero i)⟩
  · rintro a s' ⟨ha, hF, hi⟩
    have no : ¬ nI n < nI n := nI_nlt (Nat.le_refl _) (by omega)
    exact bX11_spansOf_5 _ a (nI n) s' (fun q => absurd q no) (fun q => absurd q no) (fun _ => ⟨rfl, hF, hi⟩) (fun q => absurd q no)
  · rintro j a s' hj ⟨ha, hF, hi⟩ ih
    have l1 : s / fc j ≤ s := Nat.div_le_self _ _
    have l2 : s / fc j / (j + 1) ≤ s / fc j := Nat.div_le_self _ _
    have l3 : s / fc j / (j + 1) * (j + 1) ≤ s / fc j := Nat.div_mul_le_self _ _
    refine bX11_spansOf_5 _ a (nI j) s' (fun _ => by rw [← nI_succ, nI0 (by omega)]; omega) (fun _ => vp_in_nI (by omega) (by decide)) (fun q => absurd q (nI_ge hj (by omega))) (fun _ => ?_)
    rw [ha, ← nI_succ, pk_div (by omega) (by omega) (by omega), pk_mul, pk_sub l3, nI_clamp (by omega)]
    rw [nI_succ]
    refine ih _ _ ⟨?_, hF.tA (by decide) (by decide), fun i hi2 => ?_⟩
    · show _ = nI (s / (fc j * (j + 1)))
      rw [Nat.div_div_eq_div_mul]
    · rw [sA_at, upd_eq]
      by_cases e : i = j
      · subst e
        rw [if_pos rfl]
        have : dS n s i = s / fc i % (i + 1) := if_pos hj
        rw [this]
        have := Nat.div_add_mod (s / fc i) (i + 1)
        rw [Nat.mul_comm] at this
        congr 1; omega
      · rw [if_neg e]; exact hi i (by omega)
def mB (n f : Nat) (L : Nat → Nat) (m : Nat) : Bool := decide (m &&& op n L = m ∧ gst (fun p => ld m L n p) n ≤ f)
theorem mB_iff {n f m : Nat} {L : Nat → Nat} : mB n f L m = true ↔ okR n L m ∧ gst (fun p => ld m L n p) n ≤ f := by
  unfold mB
  rw [decide_eq_true_iff, okR_iff]
theorem vB_mB {n f m : Nat} {L : Nat → Nat} : vB n f L m = true ↔ m ≠ 0 ∧ mB n f L m = true := by rw [vB_iff, mB_iff]
theorem bitI1 {m i : Nat} (hm : m < 2 ^ 31) (hi : i < 32) : ((nI m >>> (nI i &&& 31)) &&& 1) = 1 ↔ m.testBit i = true := by
  rw [bitI hm hi]
  cases m.testBit i
  · exact ⟨fun q => absurd q (by decide), fun q => absurd q (by decide)⟩
  · exact ⟨fun _ => rfl, fun _ => rfl⟩
theorem tX11_behind (d m n f : Nat) (L : Nat → Nat) (hn : n ≤ 7) (hf : f ≤ 6) (hL : ∀ i, i < n → L i ≤ i) (hm : m < 2 ^ n) (σ : St) (hl : ∀ i, i < n → σ.1 93 i = nI (L i)) : Ct yX11_behind MX11_behind d [.ref 88, .int (nI m), .int (nI n), .int (nI f)] σ (fun v s' => v = some (.int (if mB n f L m = true then nI (en n (jn m L)) else -4)) ∧ Fr [101] [] σ s') := by
  have m31 : m < 2 ^ 31 := Nat.lt_of_lt_of_le hm (Nat.pow_le_pow_right (by decide) (by omega))
  have mb : ∀ i, m.testBit i = true → i < n := fun i q => by
    by_cases c : i < n
    · exact c
    · rw [Nat.testBit_lt_two_pow (Nat.lt_of_lt_of_le hm (Nat.pow_le_pow_right (by decide) (by omega)))] at q
      exact absurd q (by decide)
  refine Ct.of mX11_behind.1 (Nat.le_of_ble_eq_true rfl) (bX11_behind_0 _ _ _ σ ?_)
  -- LOADS begin with 0
  have zero : ∀ (Q : Option Value → St → Prop), (∀ s', Fr [101] [] σ s' → (∀ p, p < n → s'.1 101 p = nI 0) → Run MX11_behind d 35 [some (.ref 88), some (.int (nI m)), some (.int (nI n)), some (.int (nI f)), some (.int 1), some (.int 0), some (.int 1), some (.int 0), none] [] s' Q) → Run MX11_behind d 6 [some (.ref 88), some (.int (nI m)), some (.int (nI n)), some (.int (nI f)), some (.int 1), some (.int 0), none, none, none] [] σ Q := by
    intro Q hQ
    refine loopI1 (fun x s' => Run MX11_behind d 6 [some (.ref 88), some (.int (nI m)), some (.int (nI n)), some (.int (nI f)), some (.int 1), some (.int x), none, none, none] [] s' Q) (fun j s' => Fr [101] [] σ s' ∧ ∀ p, p < j → s'.1 101 p = nI 0) n ?_ ?_ 0 σ (by omega) ⟨Fr.rf, fun p hp => absurd hp (Nat.not_lt_zero p)⟩
    · rintro s' ⟨hF, hp⟩
      have no : ¬ nI n < nI n := nI_nlt (Nat.le_refl _) (by omega)
      exact bX11_behind_6 _ _ _ _ (nI n) s' (fun q => absurd q no) (fun _ => hQ s' hF hp) (fun q => absurd q no)
    · rintro j s' hj ⟨hF, hp⟩ ih
      refine bX11_behind_6 _ _ _ _ (nI j) s' (fun _ => vp_in_nI (by omega) (by decide)) (fun q => absurd q (nI_ge hj (by omega))) (fun _ => ih _ ⟨hF.tA (by decide) (by decide), fun p hp2 => ?_⟩)
      rw [sA_at, upd_eq, nI_clamp (by omega)]
      by_cases e : p = j
      · rw [if_pos e]; rfl
      · rw [if_neg e]; exact hp p (by omega)
  refine zero _ (fun s0 hF0 hz => ?_)
  refine loopI4 (fun x a b c s' => Run MX11_behind d 35 [some (.ref 88), some (.int (nI m)), some (.int (nI n)), some (.int (nI f)), some (.int a), some (.int b), some (.int c), some (.int x), none] [] s' _) (fun j a b c s' => c = nI (fc j) ∧ Fr [101] [] σ s' ∧ ((a = 0 ∧ ¬ mB n f L m = true) ∨ (a = 1 ∧ b = nI (en j (jn m L)) ∧ (∀ i, i < j → m.testBit i = true → 0 < L i) ∧ ∀ p, p < n → s'.1 101 p = nI (ld m L j p) ∧ ld m L j p ≤ f))) n ?_ ?_ 0 _ _ _ s0 (by omega) ⟨rfl, hF0, .inr ⟨rfl, rfl, fun i hi => absurd hi (Nat.not_lt_zero i), fun p hp => ⟨hz p hp, Nat.zero_le _⟩⟩⟩
  · rintro a b c s' ⟨hc, hF, hab⟩
    have no : ¬ nI n < nI n := nI_nlt (Nat.le_refl _) (by omega)
    refine bX11_behind_35 _ _ _ a b c (nI n) s' (fun q => absurd q no) (fun q => absurd q no) (fun q => absurd q no) (fun _ => ⟨?_, hF⟩) (fun q => absurd q no) (fun q => absurd q no) (fun q => absurd q no)
    rcases hab with ⟨h1, h2⟩ | ⟨h1, h2, h3, h4⟩
    · rw [if_pos h1, if_neg h2]
    · have : mB n f L m = true := mB_iff.mpr ⟨fun i q => ⟨mb i q, h3 i (mb i q) q⟩, gst_le (fun p hp => (h4 p hp).2)⟩
      rw [h1, if_neg (by decide), if_pos this, h2]
  · rintro j a b c s' hj ⟨hc, hF, hab⟩ ih
    have lj := hL j hj
    have e93 : s'.1 93 j = nI (L j) := by rw [hF.1 93 (by decide) (by decide)]; exact hl j hj
    have ew : c * (nI j + 1) = nI (fc (j + 1)) := by rw [hc, ← nI_succ, pk_mul]; rfl
    have lt0 : (0 : Int32) < nI (L j) ↔ 0 < L j := nI_ltI (a := 0) (by decide) (by omega)
    have vj : vp_in (nI j) 32 := vp_in_nI (by omega) (by decide)
    have jc : (nI j).toNatClampNeg = j := nI_clamp (by omega)
    refine bX11_behind_35 _ _ _ a b c (nI j) s' (fun _ => vj) (fun _ _ q => ?_) (fun _ _ q => ?_) (fun q => absurd q (nI_ge hj (by omega))) (fun _ q => ?_) (fun _ q1 q2 => ?_) (fun _ q1 q2 => ?_)
    · rw [jc, e93] at q ⊢
      have := lt0.mp q.2
      rw [sub1 this]; exact vp_in_nI (by omega) (by decide)
    · rw [jc, e93] at q ⊢
      have := lt0.mp q.2
      rw [sub1 this]; exact vp_in_nI (by omega) (by decide)
    · -- no CELL
      have b0 : m.testBit j = false := by
        cases t : m.testBit j
        · rfl
        · exact absurd ((bitI1 m31 (by omega)).mpr t) q
      rw [ew, jc, e93]
      refine ih _ _ _ s' ⟨rfl, hF, ?_⟩
      rcases hab with h | ⟨h1, h2, h3, h4⟩
      · exact .inl h
      · have ej : jn m L j = L j := by unfold jn; rw [b0]; rfl
        refine .inr ⟨h1, ?_, fun i hi t => ?_, fun p hp => ?_⟩
        · rw [h2, hc, pk_mul, nI_add, ← ej]; rfl
        · by_cases e : i = j
          · rw [e, b0] at t; exact absurd t (by decide)
          · exact h3 i (by omega) t
        · rw [ld_up, b0, if_neg (by simp)]; exact h4 p hp
    · -- a CELL that may not be
      have b1 := (bitI1 m31 (by omega)).mp q1
      rw [ew, jc, e93]
      rw [jc, e93] at q2
      have z : bI ((¬ a = 0) ∧ (0 : Int32) < nI (L j)) = 0 := if_neg q2
      refine ih _ _ _ s' ⟨rfl, hF, .inl ⟨z, ?_⟩⟩
      rcases hab with ⟨_, h⟩ | ⟨h1, h2, h3, h4⟩
      · exact h
      · intro t
        have := ((mB_iff.mp t).1 j b1).2
        exact q2 ⟨by rw [h1]; decide, lt0.mpr this⟩
    · have b1 := (bitI1 m31 (by omega)).mp q1
      rw [jc, e93] at q2
      have l0 := lt0.mp q2.2
      rw [ew, jc, e93, sub1 l0, nI_clamp (by omega)]
      rcases hab with ⟨h1, _⟩ | ⟨h1, h2, h3, h4⟩
      · exact absurd h1 q2.1
      · have ej : jn m L j = L (L j - 1) := by unfold jn; rw [b1]; rfl
        have e93' : s'.1 93 (L j - 1) = nI (L (L j - 1)) := by rw [hF.1 93 (by decide) (by decide)]; exact hl _ (by omega)
        have eld : ∀ p, ld m L (j + 1) p = ld m L j p + if p = L j - 1 then 1 else 0 := fun p => by
          rw [ld_up]
          by_cases c : p = L j - 1
          · rw [if_pos c, if_pos ⟨b1, by omega⟩]
          · rw [if_neg c, if_neg (fun t => c (by omega))]
        have e101 := (h4 (L j - 1) (by omega)).1
        have lf := (h4 (L j - 1) (by omega)).2
        have eu : s'.1 101 (L j - 1) + 1 = nI (ld m L (j + 1) (L j - 1)) := by rw [e101, ← nI_succ, eld, if_pos rfl]
        rw [eu, upd_eq, if_pos rfl]
        have l7 : ld m L (j + 1) (L j - 1) ≤ 7 := by rw [eld, if_pos rfl]; omega
        have le : nI (ld m L (j + 1) (L j - 1)) ≤ nI f ↔ ld m L (j + 1) (L j - 1) ≤ f := nI_leI (by omega) (by omega)
        have hF' : Fr [101] [] σ (sA s' 101 (upd (s'.1 101) (L j - 1) (nI (ld m L (j + 1) (L j - 1))))) := hF.tA (by decide) (by decide)
        by_cases cf : ld m L (j + 1) (L j - 1) ≤ f
        · have z : bI (nI (ld m L (j + 1) (L j - 1)) ≤ nI f) = 1 := if_pos (le.mpr cf)
          refine ih _ _ _ _ ⟨rfl, hF', .inr ⟨z, ?_, fun i hi t => ?_, fun p hp => ?_⟩⟩
          · rw [h2, hc, e93', pk_mul, nI_add, ← ej]; rfl
          · by_cases e : i = j
            · rw [e]; exact l0
            · exact h3 i (by omega) t
          · rw [sA_at, upd_eq]
            by_cases e : p = L j - 1
            · rw [if_pos e, e]; exact ⟨rfl, cf⟩
            · rw [if_neg e, eld, if_neg e]; exact h4 p hp
        · have z : bI (nI (ld m L (j + 1) (L j - 1)) ≤ nI f) = 0 := if_neg (fun t => cf (le.mp t))
          refine ih _ _ _ _ ⟨rfl, hF', .inl ⟨z, fun t => ?_⟩⟩
          have t := (mB_iff.mp t).2
          have a1 := ld_mono m L (L j - 1) (j := j + 1) (n := n) (by omega)
          have a2 : ld m L n (L j - 1) ≤ gst (fun p => ld m L n p) n := le_gst (h := fun p => ld m L n p) (by omega)
          omega
theorem tX11_few (d m : Nat) (hm : m < 2 ^ 31) (σ : St) : Ct yX11_few MX11_few d [.int (nI m)] σ (fun v s' => v = some (.int (nI (pop 7 m))) ∧ s' = σ) := by
  refine Ct.of mX11_few.1 (Nat.le_of_ble_eq_true rfl) (bX11_few_0 _ σ ?_)
  refine loopI1 (fun x a => Run MX11_few d 4 [some (.int (nI m)), some (.int a), some (.int x)] [] σ _) (fun j a => a = nI (pop j m)) 7 ?_ ?_ 0 _ (by omega) rfl
  · intro a ha
    exact bX11_few_4 _ a (nI 7) σ (fun _ => ⟨by rw [ha], rfl⟩) (fun q => absurd q (by decide))
  · intro j a hj ha ih
    refine bX11_few_4 _ a (nI j) σ (fun q => absurd q (nI_ge (b := 7) hj (by decide))) (fun _ => ih _ ?_)
    rw [ha, bitI hm (by omega), nI_add, ← bit01]; rfl
end BESTR

/-! NETS: masks and spans -/
section NETS
def mk (f : Nat → Bool) : Nat → Nat
  | 0 => 0
  | i + 1 => if f i then mk f i ||| 2 ^ i else mk f i
theorem mk_bit (f : Nat → Bool) : ∀ n i, (mk f n).testBit i = (decide (i < n) && f i)
  | 0, i => by rw [show mk f 0 = 0 from rfl, Nat.zero_testBit]; simp
  | n + 1, i => by
    have ih := mk_bit f n i
    show (if f n then mk f n ||| 2 ^ n else mk f n).testBit i = _
    by_cases e : i = n
    · subst e
      cases hf : f i
      · rw [if_neg (by simp), ih, hf]; simp
      · rw [if_pos rfl, fb_bit_set, ih]; simp
    · have : decide (i < n + 1) = decide (i < n) := decide_eq_decide.mpr (by omega)
      rw [this]
      cases hf : f n
      · rw [if_neg (by simp), ih]
      · rw [if_pos rfl, fb_bit_set, ih]; simp [e]
theorem msk_lt {m n : Nat} (hn : n ≤ 32) (h : ∀ i, m.testBit i = true → i < n) : m < 2 ^ 32 := Nat.lt_pow_two_of_testBit _ (fun i hi => by
  cases q : m.testBit i
  · rfl
  · have := h i q; omega)
theorem mk_lt (f : Nat → Bool) {n : Nat} (hn : n ≤ 32) : mk f n < 2 ^ 32 := msk_lt hn (fun i q => by rw [mk_bit] at q; simp at q; exact q.1)
theorem nI0 {n : Nat} (h : n < 2 ^ 32) : nI n = 0 ↔ n = 0 := by
  constructor
  · intro q
    have q2 : (BitVec.ofNat 32 n).toNat = (0#32).toNat := congrArg (fun x : Int32 => x.toBitVec.toNat) q
    rw [BitVec.toNat_ofNat, Nat.mod_eq_of_lt h] at q2
    exact q2
  · rintro rfl; rfl
theorem le0 {n : Nat} (h : n < 2 ^ 31) : nI n ≤ (0 : Int32) ↔ n = 0 := by
  rw [show (0 : Int32) = nI 0 from rfl, nI_leI h (by decide)]; omega
theorem one_sh : ∀ i, i < 32 → (1 : Int32) <<< (nI i &&& 31) = nI (2 ^ i) := by decide +kernel
theorem bitC {m i : Nat} (hm : m < 2 ^ 32) (hi : i < 32) : ((((nI m).toUInt32 >>> ((nI i).toUInt32 &&& Int32.toUInt32 31)).toInt32) &&& 1) = 0 ↔ m.testBit i = false := by
  rw [nf_bit _ _ hi, one_sh i hi, nx_and, nI0 (Nat.lt_of_le_of_lt Nat.and_le_left hm), fb_bit_nat]
theorem bitM {m i : Nat} (hm : m < 2 ^ 32) (hi : i < 32) : ((lN m >>> ((nI i).toInt64 &&& 63)) &&& 1) = 1 ↔ m.testBit i = true := by
  have h2 : m / 2 ^ i < 2 ^ 32 := Nat.lt_of_le_of_lt (Nat.div_le_self _ _) hm
  rw [shrL (by omega) (by omega), wb_a1 (by omega), Nat.testBit_eq_decide_div_mod_eq, decide_eq_true_iff]
  exact pk_lEQ (b := 1) (by omega) (by decide)
/-- one ROW; what rows do; open places; a NET -/
def jn (m : Nat) (L : Nat → Nat) (i : Nat) : Nat := if m.testBit i then L (L i - 1) else L i
def lw (R : Nat → Nat) : Nat → Nat → Nat
  | 0 => fun i => i
  | r + 1 => jn (R r) (lw R r)
def okR (n : Nat) (L : Nat → Nat) (m : Nat) : Prop := ∀ i, m.testBit i = true → i < n ∧ 0 < L i
def okN (n D : Nat) (R : Nat → Nat) : Prop := 2 ≤ n ∧ n ≤ 32 ∧ D ≤ 32 ∧ ∀ r, r < D → R r ≠ 0 ∧ okR n (lw R r) (R r)
theorem jn_le {m : Nat} {L : Nat → Nat} (h : ∀ i, L i ≤ i) (i : Nat) : jn m L i ≤ i := by
  unfold jn
  split
  · exact Nat.le_trans (h _) (by have := h i; omega)
  · exact h i
theorem lw_le (R : Nat → Nat) : ∀ r i, lw R r i ≤ i
  | 0, _ => Nat.le_refl _
  | r + 1, i => jn_le (lw_le R r) i
theorem lw_cong {R R' : Nat → Nat} : ∀ {r : Nat}, (∀ q, q < r → R q = R' q) → lw R r = lw R' r
  | 0, _ => rfl
  | r + 1, h => by show jn _ _ = jn _ _; rw [h r (by omega), lw_cong (fun q hq => h q (by omega))]
def op (n : Nat) (L : Nat → Nat) : Nat := mk (fun i => decide (0 < L i)) n
theorem op_bit (n : Nat) (L : Nat → Nat) (i : Nat) : (op n L).testBit i = true ↔ i < n ∧ 0 < L i := by unfold op; rw [mk_bit]; simp
theorem okR_lt {n m : Nat} {L : Nat → Nat} (hn : n ≤ 32) (h : okR n L m) : m < 2 ^ 32 := msk_lt hn (fun i q => (h i q).1)
def ld (m : Nat) (L : Nat → Nat) (n p : Nat) : Nat := sm (fun i => if m.testBit i = true ∧ L i = p + 1 then 1 else 0) n
theorem ld_le (m : Nat) (L : Nat → Nat) (n p : Nat) : ld m L n p ≤ n := by
  have := sm_le (h := fun i => if m.testBit i = true ∧ L i = p + 1 then 1 else 0) (b := 1) (n := n) (fun c _ => by show (if _ then 1 else 0) ≤ 1; split <;> omega)
  unfold ld; omega
theorem sm_up {f g : Nat → Nat} {a : Nat} : ∀ {n : Nat}, a < n → (∀ i, i ≠ a → f i = g i) → f a = g a + 1 → sm f n = sm g n + 1
  | n + 1, ha, h, e => by
    show sm f n + f n = sm g n + g n + 1
    by_cases q : a = n
    · subst q; rw [e, sm_cong (fun c hc => h c (by omega))]; omega
    · rw [sm_up (by omega : a < n) h e, h n (by omega)]; omega
/-! the class's SPANS -/
theorem sp_ne {o : Nat} (ho : kd o = 7) : (gr o 1 ≠ o ∧ gr o 2 ≠ o ∧ gr o 3 ≠ o ∧ o ≠ 88) ∧ (gr o 1 ≠ gr o 2 ∧ gr o 1 ≠ gr o 3 ∧ gr o 2 ≠ gr o 3) ∧ (gr o 1 ≠ 88 ∧ gr o 2 ≠ 88 ∧ gr o 3 ≠ 88) ∧ ln (gr o 1) = 32 ∧ ln (gr o 2) = 32 ∧ ln (gr o 3) = 32 := by
  have q1 : ∀ o, o < NC → kd o = 7 → gr o 1 ≠ o ∧ gr o 2 ≠ o ∧ gr o 3 ≠ o ∧ o ≠ 88 := by decide +kernel
  have q2 : ∀ o, o < NC → kd o = 7 → gr o 1 ≠ gr o 2 ∧ gr o 1 ≠ gr o 3 ∧ gr o 2 ≠ gr o 3 := by decide +kernel
  have q3 : ∀ o, o < NC → kd o = 7 → gr o 1 ≠ 88 ∧ gr o 2 ≠ 88 ∧ gr o 3 ≠ 88 := by decide +kernel
  have q4 : ∀ o, o < NC → kd o = 7 → ln (gr o 1) = 32 ∧ ln (gr o 2) = 32 ∧ ln (gr o 3) = 32 := by decide +kernel
  have lt := kd_lt ho (by decide)
  exact ⟨q1 o lt ho, q2 o lt ho, q3 o lt ho, q4 o lt ho⟩
def sL (o : Nat) (σ : St) (n : Nat) (L : Nat → Nat) : Prop := σ.1 o 0 = nI n ∧ ∀ i, i < n → σ.1 (gr o 1) i = nI (L i)
theorem tX8_begin (d o n : Nat) (ho : kd o = 7) (hn : n ≤ 32) (σ : St) : Ct yX8_begin MX8_begin (d + 1) [.ref o, .int (nI n)] σ (fun v σ' => v = none ∧ sL o σ' n (fun i => i) ∧ Fr [o, gr o 1] [] σ σ') := by
  obtain ⟨⟨a1, a2, a3, a8⟩, ⟨a12, a13, a23⟩, ⟨b1, b2, b3⟩, l1, l2, l3⟩ := sp_ne ho
  refine Ct.of mX8_begin.1 (Nat.le_of_ble_eq_true rfl) (bX8_begin_0 o (nI n) σ ho ?_)
  refine loopI1 (fun x s => Run MX8_begin (d + 1) 7 [some (.ref o), some (.int (nI n)), some (.int x)] [] s _) (fun j s => Fr [o, gr o 1] [] σ s ∧ s.1 o 0 = nI n ∧ ∀ i, i < j → s.1 (gr o 1) i = nI i) n ?_ ?_ 0 _ (by omega) ⟨Fr.A (by simp) a8, by rw [sA_at]; rfl, fun i hi => absurd hi (Nat.not_lt_zero i)⟩
  · intro s ⟨hF, h0, h1⟩
    exact bX8_begin_7 o (nI n) (nI n) s ho (fun _ => ⟨rfl, ⟨h0, h1⟩, hF⟩) (fun q => absurd q (nI_nlt (Nat.le_refl _) (by omega)))
  · intro j s hj ⟨hF, h0, h1⟩ ih
    refine bX8_begin_7 o (nI n) (nI j) s ho (fun q => absurd q (nI_ge hj (by omega))) (fun _ => ?_)
    rw [aP_in l1 (by omega)]
    refine ih _ ⟨hF.tA (by simp) b1, by rw [sA_ne (Ne.symm a1)]; exact h0, fun i hi => ?_⟩
    rw [sA_at, upd_eq]
    by_cases e : i = j
    · rw [if_pos e, e]
    · rw [if_neg e]; exact h1 i (by omega)
theorem tX8_openPlaces (d o n : Nat) (L : Nat → Nat) (ho : kd o = 7) (hn : n ≤ 32) (hL : ∀ i, L i ≤ i) (σ : St) (hs : sL o σ n L) : Ct yX8_openPlaces MX8_openPlaces (d + 1) [.ref o] σ (fun v σ' => v = some (.int (nI (op n L))) ∧ σ' = σ) := by
  obtain ⟨⟨a1, a2, a3, a8⟩, ⟨a12, a13, a23⟩, ⟨b1, b2, b3⟩, l1, l2, l3⟩ := sp_ne ho
  refine Ct.of mX8_openPlaces.1 (Nat.le_of_ble_eq_true rfl) (bX8_openPlaces_0 o σ ho ?_)
  refine loopI1 (fun x a => Run MX8_openPlaces (d + 1) 4 [some (.ref o), some (.int a), some (.int x)] [] σ _) (fun j a => a = nI (mk (fun i => decide (0 < L i)) j)) n ?_ ?_ 0 _ (by omega) rfl
  · intro a ha
    exact bX8_openPlaces_4 o a (nI n) σ ho (fun _ => ⟨by rw [ha]; rfl, rfl⟩) (fun q => absurd q (by rw [hs.1]; exact nI_nlt (Nat.le_refl _) (by omega)))
  · intro j a hj ha ih
    refine bX8_openPlaces_4 o a (nI j) σ ho (fun q => absurd q (by rw [hs.1]; exact nI_ge hj (by omega))) (fun _ => ih _ ?_)
    rw [aG_in l1 (by omega), hs.2 j hj, one_sh j (by omega), ha, fa_or]
    have := hL j
    show _ = nI (if decide (0 < L j) = true then _ else _)
    by_cases c : 0 < L j
    · rw [if_neg (fun q => absurd ((le0 (by omega)).mp q) (by omega)), if_pos (by simp [c])]
    · rw [if_pos ((le0 (by omega)).mpr (by omega)), if_neg (by simp [c])]
theorem tX8_join (d o n m : Nat) (L : Nat → Nat) (ho : kd o = 7) (hn : n ≤ 32) (hn1 : 1 ≤ n) (hL : ∀ i, L i ≤ i) (hm : okR n L m) (σ : St) (hs : sL o σ n L) : Ct yX8_join MX8_join (d + 1) [.ref o, .int (nI m)] σ (fun v σ' => v = none ∧ sL o σ' n (jn m L) ∧ (∀ i, i < n → σ'.1 (gr o 2) i = if m.testBit i = true then nI (L i - 1) else -4) ∧ (∀ i, i < n → σ'.1 (gr o 3) i = nI (ld m L n i)) ∧ Fr [gr o 1, gr o 2, gr o 3] [] σ σ') := by
  obtain ⟨⟨a1, a2, a3, a8⟩, ⟨a12, a13, a23⟩, ⟨b1, b2, b3⟩, l1, l2, l3⟩ := sp_ne ho
  have hm32 := okR_lt hn hm
  have o1 : ∀ s, Fr [gr o 1, gr o 2, gr o 3] [] σ s → s.1 o 0 = nI n := fun s hF => by rw [hF.1 o (by simp [Ne.symm a1, Ne.symm a2, Ne.symm a3]) a8]; exact hs.1
  refine Ct.of mX8_join.1 (Nat.le_of_ble_eq_true rfl) (bX8_join_0 o (nI m) σ ho ?_)
  have down : ∀ j s, j + 1 ≤ n → Fr [gr o 1, gr o 2, gr o 3] [] σ s → (∀ i, i < n → s.1 (gr o 1) i = nI (if j < i then jn m L i else L i)) → (∀ i, i < n → s.1 (gr o 2) i = if j < i ∧ m.testBit i = true then nI (L i - 1) else -4) → (∀ p, p < n → s.1 (gr o 3) p = nI (sm (fun i => if j < i ∧ m.testBit i = true ∧ L i = p + 1 then 1 else 0) n)) → Run MX8_join (d + 1) 42 [some (.ref o), some (.int (nI m)), some (.int (nI j)), none] [] s (fun v σ' => v = none ∧ sL o σ' n (jn m L) ∧ (∀ i, i < n → σ'.1 (gr o 2) i = if m.testBit i = true then nI (L i - 1) else -4) ∧ (∀ i, i < n → σ'.1 (gr o 3) i = nI (ld m L n i)) ∧ Fr [gr o 1, gr o 2, gr o 3] [] σ σ') := by
    intro j
    induction j with
    | zero =>
      intro s hj hF h1 h2 h3
      have b0 : m.testBit 0 = false := by
        cases q : m.testBit 0
        · rfl
        · have := (hm 0 q).2; have := hL 0; omega
      refine bX8_join_42 o (nI m) (nI 0) s ho (fun _ => ⟨rfl, ⟨o1 s hF, fun i hi => ?_⟩, fun i hi => ?_, fun i hi => ?_, hF⟩) (fun q => absurd q (by decide)) (fun q => absurd q (by decide)) (fun q => absurd q (by decide))
      · rw [h1 i hi]
        by_cases e : 0 < i
        · rw [if_pos e]
        · have : i = 0 := by omega
          subst this; rw [if_neg e]; unfold jn; rw [b0]; rfl
      · rw [h2 i hi]
        by_cases e : 0 < i
        · simp only [e, true_and]
        · have : i = 0 := by omega
          subst this; rw [b0]; simp
      · rw [h3 i hi]; unfold ld; congr 1
        refine sm_cong (fun c hc => ?_)
        by_cases e : 0 < c
        · simp only [e, true_and]
        · have : c = 0 := by omega
          subst this; rw [b0]; simp
    | succ j ih =>
      intro s hj hF h1 h2 h3
      have e1 : s.1 (gr o 1) (j + 1) = nI (L (j + 1)) := by rw [h1 _ (by omega), if_neg (by omega)]
      have back : nI (j + 1) + (-1) = nI j := pk_m1 j
      refine bX8_join_42 o (nI m) (nI (j + 1)) s ho (fun q => ?_) (fun _ q => ?_) (fun _ q q2 => ?_) (fun _ q q2 => ?_)
      · have := (le0 (by omega)).mp q; omega
      · have q := (bitC hm32 (by omega)).mp q
        rw [back]
        refine ih s (by omega) hF (fun i hi => ?_) (fun i hi => ?_) (fun p hp => ?_)
        · rw [h1 i hi]
          by_cases e : i = j + 1
          · subst e; rw [if_neg (by omega), if_pos (by omega)]; unfold jn; rw [q]; rfl
          · by_cases c : j < i
            · rw [if_pos (by omega), if_pos c]
            · rw [if_neg (by omega), if_neg c]
        · rw [h2 i hi]
          by_cases e : i = j + 1
          · subst e; rw [q]; simp
          · have : (j + 1 < i) = (j < i) := propext ⟨fun _ => by omega, fun _ => by omega⟩
            simp only [this]
        · rw [h3 p hp]; congr 1
          refine sm_cong (fun c hc => ?_)
          by_cases e : c = j + 1
          · subst e; rw [q]; simp
          · have : (j + 1 < c) = (j < c) := propext ⟨fun _ => by omega, fun _ => by omega⟩
            simp only [this]
      · exfalso
        have q : m.testBit (j + 1) = true := by
          cases t : m.testBit (j + 1)
          · exact absurd ((bitC hm32 (by omega)).mpr t) q
          · rfl
        have h0 := (hm _ q).2
        have h9 := hL (j + 1)
        rw [aG_in l1 (by omega), e1, show (1 : Int32) = nI 1 from rfl, pk_sub (by omega)] at q2
        exact absurd q2 (by rw [show (0 : Int32) = nI 0 from rfl]; exact nI_nlt (by omega) (by omega))
      · have q : m.testBit (j + 1) = true := by
          cases t : m.testBit (j + 1)
          · exact absurd ((bitC hm32 (by omega)).mpr t) q
          · rfl
        have h0 := (hm _ q).2
        have h9 := hL (j + 1)
        have ep : aG (gr o 1) (nI (j + 1)) s - 1 = nI (L (j + 1) - 1) := by rw [aG_in l1 (by omega), e1, show (1 : Int32) = nI 1 from rfl, pk_sub (by omega)]
        rw [back, ep, aP_in l2 (by omega), aG_in l3 (by omega), aP_in l3 (by omega), aG_in l1 (by omega), aP_in l1 (by omega)]
        simp only [sA_at, sA_ne (Ne.symm a23), sA_ne a23, sA_ne a12, sA_ne a13, sA_ne (Ne.symm a12), sA_ne (Ne.symm a13)]
        have ev : s.1 (gr o 1) (L (j + 1) - 1) = nI (L (L (j + 1) - 1)) := by rw [h1 _ (by omega), if_neg (by omega)]
        rw [ev]
        refine ih _ (by omega) (((hF.tA (by simp) b2).tA (by simp) b3).tA (by simp) b1) (fun i hi => ?_) (fun i hi => ?_) (fun p hp => ?_)
        · rw [sA_at, upd_eq]
          by_cases e : i = j + 1
          · subst e; rw [if_pos rfl, if_pos (by omega)]; unfold jn; rw [q]; rfl
          · rw [if_neg e, h1 i hi]
            by_cases c : j < i
            · rw [if_pos (by omega), if_pos c]
            · rw [if_neg (by omega), if_neg c]
        · rw [sA_ne (Ne.symm a12), sA_ne a23, sA_at, upd_eq]
          by_cases e : i = j + 1
          · subst e; rw [if_pos rfl, if_pos ⟨by omega, q⟩]
          · rw [if_neg e, h2 i hi]
            have : (j + 1 < i) = (j < i) := propext ⟨fun _ => by omega, fun _ => by omega⟩
            simp only [this]
        · rw [sA_ne (Ne.symm a13), sA_at, upd_eq]
          have same : ∀ i, i ≠ j + 1 → (if j < i ∧ m.testBit i = true ∧ L i = p + 1 then 1 else 0) = if j + 1 < i ∧ m.testBit i = true ∧ L i = p + 1 then 1 else 0 := fun i e => by
            have : (j + 1 < i) = (j < i) := propext ⟨fun _ => by omega, fun _ => by omega⟩
            simp only [this]
          by_cases e : p = L (j + 1) - 1
          · rw [if_pos e, h3 _ (by omega), ← nI_succ, ← e]
            congr 1
            refine (sm_up (a := j + 1) (by omega) same ?_).symm
            rw [if_pos ⟨by omega, q, by omega⟩, if_neg (by omega)]
          · rw [if_neg e, h3 p hp]; congr 1
            refine sm_cong (fun c hc => ?_)
            by_cases e2 : c = j + 1
            · subst e2; rw [if_neg (by omega), if_neg (by omega)]
            · exact (same c e2).symm
  refine loopI1 (fun x s => Run MX8_join (d + 1) 2 [some (.ref o), some (.int (nI m)), some (.int x), none] [] s _) (fun j s => Fr [gr o 1, gr o 2, gr o 3] [] σ s ∧ s.1 (gr o 1) = σ.1 (gr o 1) ∧ ∀ i, i < j → s.1 (gr o 2) i = -4 ∧ s.1 (gr o 3) i = 0) n ?_ ?_ 0 σ (by omega) ⟨Fr.rf, rfl, fun i hi => absurd hi (Nat.not_lt_zero i)⟩
  · intro s ⟨hF, h0, h1⟩
    refine bX8_join_2 o (nI m) (nI n) s ho (fun _ => ?_) (fun q => absurd q (by rw [o1 s hF]; exact nI_nlt (Nat.le_refl _) (by omega)))
    rw [o1 s hF, show (1 : Int32) = nI 1 from rfl, pk_sub hn1]
    refine down (n - 1) s (by omega) hF (fun i hi => ?_) (fun i hi => ?_) (fun p hp => ?_)
    · rw [h0, if_neg (by omega)]; exact hs.2 i hi
    · rw [(h1 i hi).1, if_neg (by omega)]
    · rw [(h1 p hp).2]
      rw [sm_cong (g := fun _ => 0) (fun c hc => by rw [if_neg (by omega)]), show sm (fun _ => 0) n = 0 from by have := sm_le (h := fun _ => 0) (b := 0) (n := n) (fun _ _ => Nat.le_refl _); omega]
      rfl
  · intro j s hj ⟨hF, h0, h1⟩ ih
    refine bX8_join_2 o (nI m) (nI j) s ho (fun q => absurd q (by rw [o1 s hF]; exact nI_ge hj (by omega))) (fun _ => ?_)
    rw [aP_in l2 (by omega), aP_in l3 (by omega)]
    refine ih _ ⟨(hF.tA (by simp) b2).tA (by simp) b3, by rw [sA_ne a13, sA_ne a12]; exact h0, fun i hi => ?_⟩
    rw [sA_ne a23, sA_at, sA_at, upd_eq, upd_eq, sA_ne (Ne.symm a23)]
    by_cases e : i = j
    · rw [if_pos e, if_pos e]; exact ⟨rfl, rfl⟩
    · rw [if_neg e, if_neg e]; exact h1 i (by omega)
/-! the reference's spans -/
def rL (σ : St) (L : Nat → Nat) : Prop := ∀ i, i < 32 → σ.1 93 i = nI (L i)
theorem tX11_begins (d : Nat) (σ : St) : Ct yX11_begins MX11_begins d [.ref 88] σ (fun v σ' => v = none ∧ rL σ' (fun i => i) ∧ Fr [93] [] σ σ') := by
  refine Ct.of mX11_begins.1 (Nat.le_of_ble_eq_true rfl) (bX11_begins_0 σ ?_)
  refine loopI1 (fun x s => Run MX11_begins d 2 [some (.ref 88), some (.int x)] [] s _) (fun j s => Fr [93] [] σ s ∧ ∀ i, i < j → s.1 93 i = nI i) 32 ?_ ?_ 0 σ (by omega) ⟨Fr.rf, fun i hi => absurd hi (Nat.not_lt_zero i)⟩
  · intro s ⟨hF, h1⟩
    exact bX11_begins_2 (nI 32) s (fun q => absurd q (by decide)) (fun _ => ⟨rfl, h1, hF⟩) (fun q => absurd q (by decide))
  · intro j s hj ⟨hF, h1⟩ ih
    refine bX11_begins_2 (nI j) s (fun _ => vp_in_nI hj (by decide)) (fun q => absurd q (nI_ge hj (by decide))) (fun _ => ih _ ⟨hF.tA (by decide) (by decide), fun i hi => ?_⟩)
    rw [sA_at, upd_eq, nI_clamp (by omega)]
    by_cases e : i = j
    · rw [if_pos e, e]
    · rw [if_neg e]; exact h1 i (by omega)
theorem tX11_joins (d m : Nat) (L : Nat → Nat) (hL : ∀ i, L i ≤ i) (hm : okR 32 L m) (σ : St) (hs : rL σ L) : Ct yX11_joins MX11_joins d [.ref 88, .long (lN m)] σ (fun v σ' => v = none ∧ rL σ' (jn m L) ∧ Fr [93, 94] [] σ σ') := by
  have hm32 := okR_lt (Nat.le_refl _) hm
  refine Ct.of mX11_joins.1 (Nat.le_of_ble_eq_true rfl) (bX11_joins_0 (lN m) σ ?_)
  refine loopI1 (fun x s => Run MX11_joins d 2 [some (.ref 88), some (.long (lN m)), none, some (.int x)] [] s _) (fun j s => Fr [93, 94] [] σ s ∧ s.1 93 = σ.1 93 ∧ ∀ i, i < j → s.1 94 i = nI (jn m L i)) 32 ?_ ?_ 0 σ (by omega) ⟨Fr.rf, rfl, fun i hi => absurd hi (Nat.not_lt_zero i)⟩
  · intro s ⟨hF, h0, h1⟩
    refine bX11_joins_2 (lN m) (nI 32) s (fun q => absurd q (by decide)) (fun q => absurd q (by decide)) (fun q => absurd q (by decide)) (fun q => absurd q (by decide)) (fun _ => ?_) (fun q => absurd q (by decide))
    refine loopI1 (fun x s => Run MX11_joins d 54 [some (.ref 88), none, none, some (.int x)] [] s _) (fun j s => Fr [93, 94] [] σ s ∧ (∀ i, i < 32 → s.1 94 i = nI (jn m L i)) ∧ ∀ i, i < j → s.1 93 i = nI (jn m L i)) 32 ?_ ?_ 0 s (by omega) ⟨hF, h1, fun i hi => absurd hi (Nat.not_lt_zero i)⟩
    · intro s ⟨hF, h1, h2⟩
      exact bX11_joins_54 (nI 32) s (fun q => absurd q (by decide)) (fun _ => ⟨rfl, h2, hF⟩) (fun q => absurd q (by decide))
    · intro j s hj ⟨hF, h1, h2⟩ ih
      refine bX11_joins_54 (nI j) s (fun _ => vp_in_nI hj (by decide)) (fun q => absurd q (nI_ge hj (by decide))) (fun _ => ih _ ⟨hF.tA (by decide) (by decide), fun i hi => by rw [sA_ne (by decide)]; exact h1 i hi, fun i hi => ?_⟩)
      rw [sA_at, upd_eq, nI_clamp (by omega)]
      by_cases e : i = j
      · rw [if_pos e, e]; exact h1 j hj
      · rw [if_neg e]; exact h2 i (by omega)
  · intro j s hj ⟨hF, h0, h1⟩ ih
    have e1 : s.1 93 (nI j).toNatClampNeg = nI (L j) := by rw [nI_clamp (by omega), h0]; exact hs j hj
    have hj2 := hL j
    refine bX11_joins_2 (lN m) (nI j) s (fun _ _ => vp_in_nI hj (by decide)) (fun _ _ => vp_in_nI hj (by decide)) (fun _ q => ?_) (fun _ => vp_in_nI hj (by decide)) (fun q => absurd q (nI_ge hj (by decide))) (fun _ => ih _ ⟨hF.tA (by decide) (by decide), by rw [sA_ne (by decide)]; exact h0, fun i hi => ?_⟩)
    · have := (hm j ((bitM hm32 hj).mp q)).2
      rw [e1, show (1 : Int32) = nI 1 from rfl, pk_sub (by omega)]
      exact vp_in_nI (by omega) (by decide)
    · rw [sA_at, upd_eq, nI_clamp (by omega)]
      by_cases e : i = j
      · subst e
        rw [if_pos rfl]
        unfold jn
        by_cases c : m.testBit i = true
        · have := (hm i c).2
          rw [if_pos ((bitM hm32 hj).mpr c), if_pos c]
          rw [nI_clamp (by omega)] at e1
          rw [e1, show (1 : Int32) = nI 1 from rfl, pk_sub (by omega), nI_clamp (by omega), h0]
          exact hs _ (by omega)
        · rw [if_neg (fun q => c ((bitM hm32 hj).mp q)), if_neg c]
          rw [nI_clamp (by omega)] at e1
          exact e1
      · rw [if_neg e]; exact h1 i (by omega)
theorem okR_32 {n m : Nat} {L : Nat → Nat} (hn : n ≤ 32) (h : okR n L m) : okR 32 L m := fun i q => ⟨by have := (h i q).1; omega, (h i q).2⟩
theorem cellsOf_nI {k r : Nat} (hk : k < 8) (hr : r < 32) : (32 : Int32) * nI k + nI r = nI (32 * k + r) := by
  rw [show (32 : Int32) = nI 32 from rfl]; (simp only [nI_zI, zl0, zl1, zl2, zl3, zl4, zl5, zl6, zl7, zl8, zl9, zl10, zl11, zl12, zl13, zl14, zl15, zl16, zl24, zl30, zl31, zl32, zl48, zl56, zl57, zl60, zl63, zl99, zl100, zl130, zl199, zl200, zl240, zl999, zl1000, ← zI_add, ← zI_sub, ← zI_mul, ← zI_neg] <;> first | rfl | (congr 1; omega))
theorem rX11_cellsOf_nI {k r : Nat} (hk : k < 8) (hr : r < 32) (σ : St) : rX11_cellsOf (nI k) (nI r) σ = σ.2 91 (32 * k + r) := by
  unfold rX11_cellsOf; rw [cellsOf_nI hk hr, nI_clamp (by omega)]
theorem tX11_goesTo (d k D r n : Nat) (R : Nat → Nat) (hk : k < 8) (hok : okN n D R) (hr : r ≤ D) (σ : St) (hs : ∀ q, q < D → σ.2 91 (32 * k + q) = lN (R q)) : Ct yX11_goesTo MX11_goesTo (d + 1) [.ref 88, .int (nI k), .int (nI r)] σ (fun v σ' => v = none ∧ rL σ' (lw R r) ∧ Fr [93, 94] [] σ σ') := by
  obtain ⟨n2, n32, D32, hrow⟩ := hok
  refine Ct.of mX11_goesTo.1 (Nat.le_of_ble_eq_true rfl) (bX11_goesTo_0 (nI k) (nI r) σ ((tX11_begins d σ).mono ?_))
  rintro v s1 ⟨hv, hL1, hF1⟩
  rw [hv]
  refine bX11_goesTo_4 (nI k) (nI r) s1 ?_
  refine loopI1 (fun x s => Run MX11_goesTo (d + 1) 6 [some (.ref 88), some (.int (nI k)), some (.int (nI r)), some (.int x)] [] s _) (fun q s => Fr [93, 94] [] σ s ∧ rL s (lw R q)) r ?_ ?_ 0 s1 (by omega) ⟨hF1.mono (by decide) (by decide), hL1⟩
  · intro s ⟨hF, hL⟩
    exact bX11_goesTo_6 (nI k) (nI r) (nI r) s (fun q => absurd q (nI_nlt (Nat.le_refl _) (by omega))) (fun _ => ⟨rfl, hL, hF⟩) (fun q => absurd q (nI_nlt (Nat.le_refl _) (by omega)))
  · intro q s hq ⟨hF, hL⟩ ih
    refine bX11_goesTo_6 (nI k) (nI r) (nI q) s (fun _ => ?_) (fun t => absurd t (nI_ge hq (by omega))) (fun _ => ?_)
    · rw [cellsOf_nI hk (by omega)]; exact vp_in_nI (by omega) (by decide)
    · rw [rX11_cellsOf_nI hk (by omega), hF.2.2 91 (by decide), hs q (by omega)]
      refine (tX11_joins d (R q) (lw R q) (lw_le R q) (okR_32 n32 (hrow q (by omega)).2) s hL).mono ?_
      rintro v2 s2 ⟨hv2, hL2, hF2⟩
      rw [hv2]
      exact bX11_goesTo_21 _ _ _ s2 (ih s2 ⟨hF.tr hF2, hL2⟩)
theorem tX11_isWhole (d k D n : Nat) (R : Nat → Nat) (hk : k < 8) (hok : okN n D R) (σ : St) (hw : σ.1 89 k = nI n) (hd : σ.1 90 k = nI D) (hs : ∀ q, q < D → σ.2 91 (32 * k + q) = lN (R q)) : Ct yX11_isWhole MX11_isWhole (d + 2) [.ref 88, .int (nI k)] σ (fun v σ' => v = some (.int (bI (op n (lw R D) = 0))) ∧ Fr [93, 94] [] σ σ') := by
  have n32 := hok.2.1
  refine Ct.of mX11_isWhole.1 (Nat.le_of_ble_eq_true rfl) (bX11_isWhole_0 (nI k) σ (vp_in_nI hk (by decide)) ?_)
  rw [nI_clamp (by omega), hd]
  refine (tX11_goesTo d k D D n R hk hok (Nat.le_refl _) σ hs).mono ?_
  rintro v s ⟨hv, hL, hF⟩
  rw [hv]
  refine bX11_isWhole_11 (nI k) s ?_
  have ew : s.1 89 (nI k).toNatClampNeg = nI n := by rw [nI_clamp (by omega), hF.1 89 (by decide) (by decide)]; exact hw
  refine loopI1 (fun x a => Run MX11_isWhole (d + 2) 15 [some (.ref 88), some (.int (nI k)), some (.int a), some (.int x)] [] s _) (fun j a => a = bI (∀ i, i < j → lw R D i = 0)) n ?_ ?_ 0 1 (by omega) (by unfold bI; rw [if_pos (fun i hi => absurd hi (Nat.not_lt_zero i))])
  · intro a ha
    refine bX11_isWhole_15 (nI k) a (nI n) s (vp_in_nI hk (by decide)) (fun _ => by rw [ha]; unfold bI; split <;> simp) (fun q => absurd q (by rw [ew]; exact nI_nlt (Nat.le_refl _) (by omega))) (fun _ => ⟨?_, hF⟩) (fun q => absurd q (by rw [ew]; exact nI_nlt (Nat.le_refl _) (by omega)))
    rw [ha]; congr 2
    refine bI_iff ⟨fun h => Nat.eq_of_testBit_eq (fun i => ?_), fun h i hi => ?_⟩
    · rw [Nat.zero_testBit]
      cases q : (op n (lw R D)).testBit i
      · rfl
      · have := (op_bit _ _ _).mp q; have := h i this.1; omega
    · have t : (op n (lw R D)).testBit i = false := by rw [h, Nat.zero_testBit]
      cases c : lw R D i with
      | zero => rfl
      | succ c' => rw [(op_bit n (lw R D) i).mpr ⟨hi, by omega⟩] at t; exact absurd t (by decide)
  · intro j a hj ha ih
    refine bX11_isWhole_15 (nI k) a (nI j) s (vp_in_nI hk (by decide)) (fun q => absurd q (by rw [ew]; exact nI_ge hj (by omega))) (fun _ _ => vp_in_nI (by omega) (by decide)) (fun q => absurd q (by rw [ew]; exact nI_ge hj (by omega))) (fun _ => ih _ ?_)
    rw [ha, nI_clamp (by omega), hL j (by omega)]
    have := lw_le R D j
    refine bI_iff ⟨fun ⟨h1, h2⟩ i hi => ?_, fun h => ⟨?_, ?_⟩⟩
    · by_cases c : ∀ i, i < j → lw R D i = 0
      · by_cases e : i = j
        · rw [e]; exact (nI0 (by omega)).mp h2
        · exact c i (by omega)
      · exact absurd (by unfold bI; rw [if_neg c]) h1
    · unfold bI; rw [if_pos (fun i hi => h i (by omega))]; decide
    · rw [h j (by omega)]; rfl
end NETS

/-! BEST: states of the class -/
section BESTC
def pk8 (n : Nat) (L : Nat → Nat) : Nat := sm (fun i => 8 ^ i * L i) n
theorem pk8_lt {L : Nat → Nat} : ∀ {n : Nat}, (∀ i, i < n → L i < 8) → pk8 n L < 8 ^ n
  | 0, _ => by show 0 < 1; decide
  | n + 1, h => by
    have a := pk8_lt (n := n) (fun i hi => h i (by omega))
    have b : L n ≤ 7 := by have := h n (by omega); omega
    have c : 8 ^ n * L n ≤ 8 ^ n * 7 := Nat.mul_le_mul_left _ b
    show pk8 n L + 8 ^ n * L n < 8 ^ (n + 1)
    rw [Nat.pow_succ]; omega
theorem pk8_dg {L : Nat → Nat} {i : Nat} : ∀ {n : Nat}, (∀ i, i < n → L i < 8) → pk8 n L / 8 ^ i % 8 = if i < n then L i else 0
  | 0, _ => by
    show 0 / 8 ^ i % 8 = _
    rw [Nat.zero_div, if_neg (Nat.not_lt_zero i)]
  | n + 1, h => by
    have h' : ∀ i, i < n → L i < 8 := fun i hi => h i (by omega)
    have a := pk8_lt h'
    have e : pk8 (n + 1) L = pk8 n L + 8 ^ n * L n := rfl
    by_cases c : i < n
    · have s : 8 ^ n = 8 ^ i * (8 * 8 ^ (n - i - 1)) := by
        rw [← Nat.pow_succ', ← Nat.pow_add]; congr 1; omega
      rw [e, s, Nat.mul_assoc, Nat.add_mul_div_left _ _ (Nat.pow_pos (by decide)), Nat.mul_assoc, Nat.add_mul_mod_self_left, pk8_dg h', if_pos c, if_pos (by omega)]
    · by_cases c2 : i = n
      · subst c2
        rw [e, Nat.add_mul_div_left _ _ (Nat.pow_pos (by decide)), Nat.div_eq_of_lt a, if_pos (by omega), Nat.zero_add, Nat.mod_eq_of_lt (h i (by omega))]
      · have b := pk8_lt h
        have d : 8 ^ (n + 1) ≤ 8 ^ i := Nat.pow_le_pow_right (by decide) (by omega)
        rw [Nat.div_eq_of_lt (by omega), if_neg (by omega)]
theorem pk8_cong {a b : Nat → Nat} {n : Nat} (h : ∀ i, i < n → a i = b i) : pk8 n a = pk8 n b := sm_cong (fun c hc => by rw [h c hc])
theorem pow8 (i : Nat) : 2 ^ (3 * i) = 8 ^ i := by rw [Nat.pow_mul]
theorem n8 {n : Nat} (hn : n ≤ 7) : 8 ^ n ≤ 2097152 := Nat.le_trans (Nat.pow_le_pow_right (by decide) hn) (by decide : 8 ^ 7 ≤ 2097152)
theorem part_nI {X i : Nat} (hX : X < 2 ^ 31) (hi : i < 8) (σ : St) : rX0_part (nI X) (nI i) σ = nI (X / 8 ^ i % 8) := by
  unfold rX0_part
  rw [show (3 : Int32) = nI 3 from rfl, pk_mul, shrk hX (by omega), show (7 : Int32) = nI (2 ^ 3 - 1) from rfl, fa_mask, pow8]
theorem okS8 {n : Nat} {L : Nat → Nat} (hn : n ≤ 7) (h : okS n L) : ∀ i, L i < 8 := fun i => by
  by_cases c : n ≤ i
  · rw [(h i).2 c]; decide
  · have := (h i).1; omega
theorem okS_z {n : Nat} {L : Nat → Nat} (h : okS n L) (i : Nat) : (if i < n then L i else 0) = L i := by
  by_cases c : i < n
  · rw [if_pos c]
  · rw [if_neg c, (h i).2 (by omega)]
theorem part_pk {n i : Nat} {L : Nat → Nat} (hn : n ≤ 7) (h : okS n L) (hi : i < 8) (σ : St) : rX0_part (nI (pk8 n L)) (nI i) σ = nI (L i) := by
  have a := pk8_lt (n := n) (fun i _ => okS8 hn h i)
  have b := n8 hn
  rw [part_nI (by omega) hi, pk8_dg (fun i _ => okS8 hn h i), okS_z h]
theorem orS {A c j : Nat} (hA : A < 8 ^ j) (hj : j < 8) : nI A ||| (nI c <<< (((3 : Int32) * nI j) &&& 31)) = nI (A + 8 ^ j * c) := by
  rw [show (3 : Int32) = nI 3 from rfl, pk_mul, nI_shl _ (by omega), fa_or, Nat.or_comm, Nat.mul_comm c, ← Nat.two_pow_add_eq_or_of_lt (by rw [pow8]; exact hA), pow8, Nat.add_comm]
/-- all places spanned to themselves alone -/
def st (n i : Nat) : Nat := if i < n then i else 0
theorem st_ok (n : Nat) : okS n (st n) := fun i => by
  unfold st
  refine ⟨by split <;> omega, fun q => if_neg (by omega)⟩
theorem tX0_startState (d n : Nat) (hn : n ≤ 7) (σ : St) (h2 : σ.1 21 2 = nI n) : Ct yX0_startState MX0_startState d [.ref 21] σ (fun v s => v = some (.int (nI (pk8 n (st n)))) ∧ s = σ) := by
  refine Ct.of mX0_startState.1 (Nat.le_of_ble_eq_true rfl) (bX0_startState_0 σ ?_)
  refine loopI1 (fun x a => Run MX0_startState d 4 [some (.ref 21), some (.int a), some (.int x)] [] σ _) (fun j a => a = nI (pk8 j (st n))) n ?_ ?_ 0 _ (by omega) rfl
  · intro a ha
    exact bX0_startState_4 a (nI n) σ (fun _ => ⟨by rw [ha], rfl⟩) (fun q => absurd q (by rw [h2]; exact nI_nlt (Nat.le_refl _) (by omega)))
  · intro j a hj ha ih
    refine bX0_startState_4 a (nI j) σ (fun q => absurd q (by rw [h2]; exact nI_ge hj (by omega))) (fun _ => ih _ ?_)
    rw [ha, orS (pk8_lt (fun i _ => okS8 hn (st_ok n) i)) (by omega)]
    have : st n j = j := if_pos hj
    show _ = nI (pk8 j (st n) + 8 ^ j * st n j)
    rw [this]
theorem tX0_openPlaces (d n : Nat) (L : Nat → Nat) (hn : n ≤ 7) (h1 : 1 ≤ n) (hL : okS n L) (σ : St) (h2 : σ.1 21 2 = nI n) : Ct yX0_openPlaces MX0_openPlaces (d + 1) [.ref 21, .int (nI (pk8 n L))] σ (fun v s => v = some (.int (nI (op n L))) ∧ s = σ) := by
  have z : L 0 = 0 := by have := (hL 0).1; omega
  refine Ct.of mX0_openPlaces.1 (Nat.le_of_ble_eq_true rfl) (bX0_openPlaces_0 _ σ ?_)
  refine loopI1 (fun x a => Run MX0_openPlaces (d + 1) 4 [some (.ref 21), some (.int (nI (pk8 n L))), some (.int a), some (.int x)] [] σ _) (fun j a => a = nI (mk (fun i => decide (0 < L i)) j)) n ?_ ?_ 1 _ h1 ?_
  · intro a ha
    exact bX0_openPlaces_4 _ a (nI n) σ (fun _ => ⟨by rw [ha]; rfl, rfl⟩) (fun q => absurd q (by rw [h2]; exact nI_nlt (Nat.le_refl _) (by omega)))
  · intro j a hj ha ih
    refine bX0_openPlaces_4 _ a (nI j) σ (fun q => absurd q (by rw [h2]; exact nI_ge hj (by omega))) (fun _ => ih _ ?_)
    have := okS8 hn hL j
    rw [part_pk hn hL (by omega), one_sh j (by omega), ha, fa_or]
    show _ = nI (if decide (0 < L j) = true then _ else _)
    by_cases c : 0 < L j
    · rw [if_neg (fun q => absurd ((le0 (by omega)).mp q) (by omega)), if_pos (by simp [c])]
    · rw [if_pos ((le0 (by omega)).mpr (by omega)), if_neg (by simp [c])]
  · show (0 : Int32) = nI (if decide (0 < L 0) = true then _ else _)
    rw [z]; rfl
theorem sub1 {a : Nat} (h : 0 < a) : nI a - 1 = nI (a - 1) := by rw [show (1 : Int32) = nI 1 from rfl, pk_sub h]
theorem tX0_unreadyPlaces (d n : Nat) (L : Nat → Nat) (hn : n ≤ 7) (h1 : 1 ≤ n) (hL : okS n L) (σ : St) (h2 : σ.1 21 2 = nI n) : Ct yX0_unreadyPlaces MX0_unreadyPlaces (d + 1) [.ref 21, .int (nI (pk8 n L))] σ (fun v s => v = some (.int (nI (un n L))) ∧ s = σ) := by
  have z : L 0 = 0 := by have := (hL 0).1; omega
  refine Ct.of mX0_unreadyPlaces.1 (Nat.le_of_ble_eq_true rfl) (bX0_unreadyPlaces_0 _ σ ?_)
  refine loopI1 (fun x a => Run MX0_unreadyPlaces (d + 1) 4 [some (.ref 21), some (.int (nI (pk8 n L))), some (.int a), some (.int x), none] [] σ _) (fun j a => a = nI (mk (fun i => decide (0 < L i) && decide (0 < L (L i - 1))) j)) n ?_ ?_ 1 _ h1 ?_
  · intro a ha
    exact bX0_unreadyPlaces_4 _ a (nI n) σ (fun _ => ⟨by rw [ha]; rfl, rfl⟩) (fun q => absurd q (by rw [h2]; exact nI_nlt (Nat.le_refl _) (by omega)))
  · intro j a hj ha ih
    refine bX0_unreadyPlaces_4 _ a (nI j) σ (fun q => absurd q (by rw [h2]; exact nI_ge hj (by omega))) (fun _ => ih _ ?_)
    have l8 := okS8 hn hL j
    have l8' := okS8 hn hL (L j - 1)
    rw [part_pk hn hL (by omega), one_sh j (by omega), ha, fa_or]
    show _ = nI (if (decide (0 < L j) && decide (0 < L (L j - 1))) = true then _ else _)
    by_cases c : 0 < L j
    · rw [if_neg (fun q => absurd ((le0 (by omega)).mp q) (by omega)), sub1 c, part_pk hn hL (by omega)]
      by_cases c2 : 0 < L (L j - 1)
      · rw [if_neg (fun q => absurd ((le0 (by omega)).mp q) (by omega)), if_pos (by simp [c, c2])]
      · rw [if_pos ((le0 (by omega)).mpr (by omega)), if_neg (by simp [c2])]
    · rw [if_pos ((le0 (by omega)).mpr (by omega)), if_neg (by simp [c])]
  · show (0 : Int32) = nI (if (decide (0 < L 0) && decide (0 < L (L 0 - 1))) = true then _ else _)
    rw [z]; rfl
theorem bitI {m i : Nat} (hm : m < 2 ^ 31) (hi : i < 32) : (nI m >>> (nI i &&& 31)) &&& 1 = nI (if m.testBit i = true then 1 else 0) := by
  rw [shrk hm hi, show (1 : Int32) = nI (2 ^ 1 - 1) from rfl, fa_mask, ← bit01]
theorem bitI0 {m i : Nat} (hm : m < 2 ^ 31) (hi : i < 32) : ((nI m >>> (nI i &&& 31)) &&& 1) = 0 ↔ m.testBit i = false := by
  rw [bitI hm hi]
  cases m.testBit i
  · exact ⟨fun _ => rfl, fun _ => rfl⟩
  · exact ⟨fun q => absurd q (by decide), fun q => absurd q (by decide)⟩
theorem sm_add (f g : Nat → Nat) : ∀ n, sm (fun i => f i + g i) n = sm f n + sm g n
  | 0 => rfl
  | n + 1 => by show sm (fun i => f i + g i) n + (f n + g n) = sm f n + f n + (sm g n + g n); rw [sm_add f g n]; omega
theorem pk8_up {n q : Nat} {a b : Nat → Nat} (hq : q < n) (h : ∀ p, b p = a p + if p = q then 1 else 0) : pk8 n b = pk8 n a + 8 ^ q := by
  have e : ∀ p, 8 ^ p * b p = 8 ^ p * a p + if p = q then 8 ^ q else 0 := fun p => by
    rw [h p, Nat.mul_add]
    by_cases c : p = q
    · rw [if_pos c, if_pos c, c, Nat.mul_one]
    · rw [if_neg c, if_neg c]; rfl
  unfold pk8
  rw [sm_cong (fun c _ => e c), sm_add, sm_one, if_pos hq]
theorem ld_up (m : Nat) (L : Nat → Nat) (j p : Nat) : ld m L (j + 1) p = ld m L j p + if m.testBit j = true ∧ L j = p + 1 then 1 else 0 := rfl
theorem ld_mono (m : Nat) (L : Nat → Nat) (p : Nat) : ∀ {j n : Nat}, j ≤ n → ld m L j p ≤ ld m L n p
  | j, 0, h => by have : j = 0 := by omega
                  subst this; exact Nat.le_refl _
  | j, n + 1, h => by
    by_cases c : j = n + 1
    · subst c; exact Nat.le_refl _
    · have := ld_mono m L p (j := j) (n := n) (by omega)
      rw [ld_up]; omega
theorem tX0_loadsFit (d n f m : Nat) (L : Nat → Nat) (hn : n ≤ 7) (h1 : 1 ≤ n) (hf : f ≤ 6) (hL : okS n L) (hm : okR n L m) (σ : St) (h2 : σ.1 21 2 = nI n) (h4 : σ.1 21 4 = nI f) : Ct yX0_loadsFit MX0_loadsFit (d + 1) [.ref 21, .int (nI (pk8 n L)), .int (nI m)] σ (fun v s => v = some (.int (nI (if gst (fun p => ld m L n p) n ≤ f then 1 else 0))) ∧ s = σ) := by
  have m31 : m < 2 ^ 31 := Nat.lt_of_lt_of_le (Nat.lt_pow_two_of_testBit (n := 7) _ (fun i hi => by
    cases q : m.testBit i
    · rfl
    · have := (hm i q).1; omega)) (by decide)
  have b0 : m.testBit 0 = false := by
    cases q : m.testBit 0
    · rfl
    · have := (hm 0 q).2; have := (hL 0).1; omega
  refine Ct.of mX0_loadsFit.1 (Nat.le_of_ble_eq_true rfl) (bX0_loadsFit_0 _ _ σ ?_)
  refine loopI1 (fun x a => Run MX0_loadsFit (d + 1) 5 [some (.ref 21), some (.int (nI (pk8 n L))), some (.int (nI m)), some (.int a), some (.int x), none] [] σ _) (fun j a => a = nI (pk8 n (ld m L j)) ∧ ∀ p, p < n → ld m L j p ≤ f) n ?_ ?_ 1 _ h1 ?_
  · rintro a ⟨ha, hl⟩
    have no : ¬ nI n < σ.1 21 2 := by rw [h2]; exact nI_nlt (Nat.le_refl _) (by omega)
    refine bX0_loadsFit_5 _ _ a (nI n) σ (fun _ => ⟨?_, rfl⟩) (fun q => absurd q no) (fun q => absurd q no) (fun q => absurd q no) (fun q => absurd q no)
    rw [if_pos (gst_le hl)]; rfl
  · rintro j a hj ⟨ha, hl⟩ ih
    have l8 := okS8 hn hL j
    have l8' : ∀ p, p < n → ld m L j p < 8 := fun p hp => by have := hl p hp; omega
    have nb : m.testBit j = false → (nI (pk8 n (ld m L j)) = nI (pk8 n (ld m L (j + 1))) ∧ ∀ p, p < n → ld m L (j + 1) p ≤ f) := by
      intro q
      have e : ∀ p, ld m L (j + 1) p = ld m L j p := fun p => by rw [ld_up, q, if_neg (by simp)]; rfl
      refine ⟨?_, fun p hp => by rw [e]; exact hl p hp⟩
      unfold pk8
      rw [sm_cong (g := fun i => 8 ^ i * ld m L (j + 1) i) (fun c _ => by rw [e c])]
    have up : m.testBit j = true → 0 < L j ∧ L j - 1 < n ∧ a + ((1 : Int32) <<< (((3 : Int32) * (nI (L j) - 1)) &&& 31)) = nI (pk8 n (ld m L (j + 1))) ∧ (∀ p, ld m L (j + 1) p = ld m L j p + if p = L j - 1 then 1 else 0) := by
      intro q
      have q0 := (hm j q).2
      have lj := (hL j).1
      have e : ∀ p, ld m L (j + 1) p = ld m L j p + if p = L j - 1 then 1 else 0 := fun p => by
        rw [ld_up]
        by_cases c : p = L j - 1
        · rw [if_pos c, if_pos ⟨q, by omega⟩]
        · rw [if_neg c, if_neg (fun t => c (by omega))]
      refine ⟨q0, by omega, ?_, e⟩
      rw [ha, sub1 q0, show (3 : Int32) = nI 3 from rfl, pk_mul, one_sh _ (by omega), pow8, nI_add, pk8_up (q := L j - 1) (by omega) e]
    have lt : nI j < σ.1 21 2 := by rw [h2]; exact (nI_ltI (by omega) (by omega)).mpr hj
    have prt : m.testBit j = true → rX0_part (a + ((1 : Int32) <<< (((3 : Int32) * (nI (L j) - 1)) &&& 31))) (nI (L j) - 1) σ = nI (ld m L (j + 1) (L j - 1)) := by
      intro q
      obtain ⟨u1, u2, u3, u4⟩ := up q
      have l9 : ∀ p, p < n → ld m L (j + 1) p < 8 := fun p hp => by
        rw [u4 p]
        have := hl p hp
        split <;> omega
      have := pk8_lt l9
      have := n8 hn
      rw [u3, sub1 u1, part_nI (by omega) (by omega), pk8_dg l9, if_pos u2]
    refine bX0_loadsFit_5 _ _ a (nI j) σ (fun q => absurd q (by rw [h2]; exact nI_ge hj (by omega))) (fun _ q => ?_) (fun _ q1 q2 => ?_) (fun _ q1 q2 q3 => ?_) (fun _ q1 q2 q3 => ?_)
    · have q' := (bitI0 m31 (by omega)).mp q
      refine ih _ ?_
      rw [ha]; exact nb q'
    · have q' : m.testBit j = true := by
        cases t : m.testBit j
        · exact absurd ((bitI0 m31 (by omega)).mpr t) q1
        · rfl
      rw [part_pk hn hL (by omega)] at q2
      have := (le0 (by omega)).mp q2
      have := (hm j q').2
      omega
    · have q' : m.testBit j = true := by
        cases t : m.testBit j
        · exact absurd ((bitI0 m31 (by omega)).mpr t) q1
        · rfl
      rw [part_pk hn hL (by omega)] at q3 ⊢
      obtain ⟨u1, u2, u3, u4⟩ := up q'
      rw [prt q', h4] at q3
      have l9 : ld m L (j + 1) (L j - 1) ≤ n := Nat.le_trans (ld_le _ _ _ _) (by omega)
      have q3 := (nI_leI (by omega) (by omega)).mp q3
      refine ih _ ⟨u3, fun p hp => ?_⟩
      by_cases c : p = L j - 1
      · rw [c]; exact q3
      · rw [u4 p, if_neg c]; exact hl p hp
    · have q' : m.testBit j = true := by
        cases t : m.testBit j
        · exact absurd ((bitI0 m31 (by omega)).mpr t) q1
        · rfl
      rw [part_pk hn hL (by omega)] at q3
      obtain ⟨u1, u2, u3, u4⟩ := up q'
      rw [prt q', h4] at q3
      have l9 : ld m L (j + 1) (L j - 1) ≤ n := Nat.le_trans (ld_le _ _ _ _) (by omega)
      have q3 := (nI_ltI (by omega) (by omega)).mp q3
      have a1 := ld_mono m L (L j - 1) (j := j + 1) (n := n) (by omega)
      have a2 : ld m L n (L j - 1) ≤ gst (fun p => ld m L n p) n := le_gst (h := fun p => ld m L n p) u2
      exact ⟨by rw [if_neg (by omega)]; rfl, rfl⟩
  · have e : ∀ p, ld m L 1 p = 0 := fun p => by rw [ld_up, b0, if_neg (by simp)]; rfl
    refine ⟨?_, fun p _ => by rw [e]; omega⟩
    have : pk8 n (ld m L 1) = 0 := sm_0 (fun p _ => by rw [e]; rfl)
    rw [this]; rfl
theorem nI_ex (x : Int32) : ∃ n, x = nI n := by
  refine ⟨x.toBitVec.toNat, Int32.toBitVec_inj.mp ?_⟩
  show x.toBitVec = BitVec.ofNat 32 x.toBitVec.toNat
  apply BitVec.eq_of_toNat_eq
  rw [BitVec.toNat_ofNat, Nat.mod_eq_of_lt x.toBitVec.isLt]
theorem x_shl (x : Int32) {k : Nat} (hk : k < 32) : x <<< (nI k &&& 31) = x * nI (2 ^ k) := by
  obtain ⟨n, rfl⟩ := nI_ex x
  rw [nI_shl n hk, pk_mul]
theorem tX0_joined (d n m : Nat) (L : Nat → Nat) (hn : n ≤ 7) (h1 : 1 ≤ n) (hL : okS n L) (hm : okR n L m) (σ : St) (h2 : σ.1 21 2 = nI n) : Ct yX0_joined MX0_joined (d + 1) [.ref 21, .int (nI (pk8 n L)), .int (nI m)] σ (fun v s => v = some (.int (nI (pk8 n (jn m L)))) ∧ s = σ) := by
  have m31 : m < 2 ^ 31 := Nat.lt_of_lt_of_le (Nat.lt_pow_two_of_testBit (n := 7) _ (fun i hi => by
    cases q : m.testBit i
    · rfl
    · have := (hm i q).1; omega)) (by decide)
  have j0 : jn m L 0 = L 0 := by
    have := (hL 0).1
    have := (okS_jn hL hm 0).1
    omega
  refine Ct.of mX0_joined.1 (Nat.le_of_ble_eq_true rfl) (bX0_joined_0 _ _ σ ?_)
  refine loopI1 (fun x a => Run MX0_joined (d + 1) 5 [some (.ref 21), some (.int (nI (pk8 n L))), some (.int (nI m)), some (.int a), some (.int x), none] [] σ _) (fun j a => a = nI (pk8 n (fun i => if i < j then jn m L i else L i))) n ?_ ?_ 1 _ h1 ?_
  · intro a ha
    refine bX0_joined_5 _ _ a (nI n) σ (fun _ => ⟨?_, rfl⟩) (fun q => absurd q (by rw [h2]; exact nI_nlt (Nat.le_refl _) (by omega)))
    rw [ha, pk8_cong (b := jn m L) (fun c hc => if_pos hc)]
  · intro j a hj ha ih
    refine bX0_joined_5 _ _ a (nI j) σ (fun q => absurd q (by rw [h2]; exact nI_ge hj (by omega))) (fun _ => ih _ ?_)
    have l8 := okS8 hn hL j
    rw [part_pk hn hL (by omega)]
    by_cases b : m.testBit j = true
    · have q0 := (hm j b).2
      have e : jn m L j = L (L j - 1) := by unfold jn; rw [if_pos b]
      rw [if_neg (fun q => by rw [(bitI0 m31 (by omega)).mp q] at b; exact absurd b (by decide)), if_neg (fun q => absurd ((le0 (by omega)).mp q) (by omega)), sub1 q0, part_pk hn hL (by omega), show (3 : Int32) = nI 3 from rfl, pk_mul, x_shl _ (by omega), pow8, ha, ← e]
      -- one digit changes
      have key : pk8 n (fun i => if i < j + 1 then jn m L i else L i) + 8 ^ j * L j = pk8 n (fun i => if i < j then jn m L i else L i) + 8 ^ j * jn m L j := by
        have := sm_add2 (n := n) (f := fun i => 8 ^ i * (if i < j + 1 then jn m L i else L i)) (g := fun i => if i = j then 8 ^ j * L j else 0) (h := fun i => 8 ^ i * (if i < j then jn m L i else L i)) (e := fun i => if i = j then 8 ^ j * jn m L j else 0) (fun i _ => by
          by_cases c : i = j
          · subst c
            simp only [Nat.lt_irrefl, if_false, if_true, Nat.lt_succ_self, if_pos]; omega
          · by_cases c2 : i < j
            · simp only [if_neg c, if_pos c2, if_pos (show i < j + 1 by omega)]
            · simp only [if_neg c, if_neg c2, if_neg (show ¬ i < j + 1 by omega)])
        rw [sm_one, sm_one, if_pos hj, if_pos hj] at this
        exact this
      generalize pk8 n (fun i => if i < j + 1 then jn m L i else L i) = X at key ⊢
      generalize pk8 n (fun i => if i < j then jn m L i else L i) = Y at key ⊢
      rw [nI_zI, nI_zI, nI_zI, nI_zI, nI_zI, ← zI_sub, ← zI_mul, ← zI_add]
      congr 1
      have k2 : (X : Int) + ((8 ^ j * L j : Nat) : Int) = Y + ((8 ^ j * jn m L j : Nat) : Int) := by exact_mod_cast key
      rw [Int.natCast_mul, Int.natCast_mul] at k2
      rw [Int.sub_mul, Int.mul_comm _ ((8 ^ j : Nat) : Int), Int.mul_comm _ ((8 ^ j : Nat) : Int)]
      omega
    · have b' : m.testBit j = false := by
        cases t : m.testBit j
        · rfl
        · exact absurd t b
      have e : jn m L j = L j := by unfold jn; rw [if_neg b]
      rw [if_pos ((bitI0 m31 (by omega)).mpr b'), ha]
      refine congrArg nI (pk8_cong (fun c _ => ?_))
      by_cases c1 : c = j
      · subst c1; rw [if_neg (Nat.lt_irrefl _), if_pos (Nat.lt_succ_self _), e]
      · by_cases c2 : c < j
        · rw [if_pos c2, if_pos (by omega)]
        · rw [if_neg c2, if_neg (by omega)]
  · refine congrArg nI (pk8_cong (fun c _ => ?_))
    by_cases c1 : c < 1
    · have : c = 0 := by omega
      rw [if_pos c1, this, j0]
    · rw [if_neg c1]
theorem tX0_longestChain (d n : Nat) (L : Nat → Nat) (hn : n ≤ 7) (h1 : 1 ≤ n) (hL : okS n L) (σ : St) (h2 : σ.1 21 2 = nI n) : Ct yX0_longestChain MX0_longestChain (d + 1) [.ref 21, .int (nI (pk8 n L))] σ (fun v s => v = some (.int (nI (gst (ck L) n))) ∧ s = σ) := by
  have c8 : ∀ i, i < 8 → ck L i < 8 := fun i hi => by have := ck_le hL (Nat.le_refl i); omega
  have z : ck L 0 = 0 := ck_0 (by have := (hL 0).1; omega)
  refine Ct.of mX0_longestChain.1 (Nat.le_of_ble_eq_true rfl) (bX0_longestChain_0 _ σ ?_)
  refine loopI2 (fun x a b => Run MX0_longestChain (d + 1) 7 [some (.ref 21), some (.int (nI (pk8 n L))), some (.int a), some (.int b), some (.int x), none, none] [] σ _) (fun j a b => a = nI (gst (ck L) j) ∧ b = nI (pk8 j (ck L))) n ?_ ?_ 1 _ _ h1 ⟨?_, ?_⟩
  · rintro a b ⟨ha, hb⟩
    exact bX0_longestChain_7 _ a b (nI n) σ (fun _ => ⟨by rw [ha], rfl⟩) (fun q => absurd q (by rw [h2]; exact nI_nlt (Nat.le_refl _) (by omega)))
  · rintro j a b hj ⟨ha, hb⟩ ih
    refine bX0_longestChain_7 _ a b (nI j) σ (fun q => absurd q (by rw [h2]; exact nI_ge hj (by omega))) (fun _ => ?_)
    have l8 := okS8 hn hL j
    have lj := (hL j).1
    have cj : ∀ i, i < j → ck L i < 8 := fun i hi => c8 i (by omega)
    have pj := pk8_lt cj
    have p7 : 8 ^ j ≤ 2097152 := n8 (by omega)
    have ec : (if rX0_part (nI (pk8 n L)) (nI j) σ = 0 then (0 : Int32) else 1 + rX0_part b (rX0_part (nI (pk8 n L)) (nI j) σ - 1) σ) = nI (ck L j) := by
      rw [part_pk hn hL (by omega)]
      by_cases c : L j = 0
      · rw [c, if_pos (show nI 0 = 0 from rfl), ck_0 c]; rfl
      · rw [if_neg (fun q => c ((nI0 (by omega)).mp q)), sub1 (by omega), hb, part_nI (by omega) (by omega), pk8_dg cj, if_pos (by omega), ck_s hL c, show (1 : Int32) = nI 1 from rfl, nI_add]
    rw [ec, ha, hb, orS pj (by omega)]
    have g8 : gst (ck L) j ≤ 8 := gst_le (fun c hc => by have := cj c hc; omega)
    have := c8 j (by omega)
    rw [mx_nI (by omega) (by omega)]
    exact ih _ _ ⟨rfl, rfl⟩
  · show (0 : Int32) = nI (max 0 (ck L 0))
    rw [z]; rfl
  · show (0 : Int32) = nI (0 + 8 ^ 0 * ck L 0)
    rw [z]; rfl
end BESTC

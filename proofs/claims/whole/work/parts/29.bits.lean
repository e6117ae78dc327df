/-! how many bits -/
section BITS4
def pop (n x : Nat) : Nat := sm (fun k => x / 2 ^ k % 2) n
theorem sm_app (f : Nat → Nat) (a : Nat) : ∀ b, sm f (a + b) = sm f a + sm (fun i => f (a + i)) b
  | 0 => rfl
  | b + 1 => by show sm f (a + b) + f (a + b) = sm f a + (sm (fun i => f (a + i)) b + f (a + b)); rw [sm_app f a b]; omega
theorem pop_byte {a b : Nat} (ha : a < 256) (n : Nat) : pop (8 + n) (a + 256 * b) = pop 8 a + pop n b := by
  unfold pop
  rw [sm_app]
  have e1 : sm (fun k => (a + 256 * b) / 2 ^ k % 2) 8 = sm (fun k => a / 2 ^ k % 2) 8 := by
    refine sm_cong (fun k hk => ?_)
    have e : (256 : Nat) = 2 ^ k * (2 * 2 ^ (7 - k)) := by
      rw [← Nat.pow_succ', ← Nat.pow_add, show k + (7 - k + 1) = 8 by omega]
    show (a + 256 * b) / 2 ^ k % 2 = a / 2 ^ k % 2
    rw [e, Nat.mul_assoc, Nat.add_mul_div_left _ _ (Nat.two_pow_pos k), Nat.mul_assoc, Nat.add_mul_mod_self_left]
  have e2 : sm (fun i => (a + 256 * b) / 2 ^ (8 + i) % 2) n = sm (fun k => b / 2 ^ k % 2) n := by
    refine sm_cong (fun k hk => ?_)
    show (a + 256 * b) / 2 ^ (8 + k) % 2 = b / 2 ^ k % 2
    rw [Nat.pow_add, ← Nat.div_div_eq_div_mul, show (2 : Nat) ^ 8 = 256 from rfl, show (a + 256 * b) / 256 = b by omega]
  rw [e1, e2]
theorem pop_0 : ∀ n, pop n 0 = 0
  | 0 => rfl
  | n + 1 => by show pop n 0 + 0 / 2 ^ n % 2 = 0; rw [pop_0 n, Nat.zero_div]
theorem andB {a p b q : Nat} (ha : a < 256) (hp : p < 256) : (a + 256 * b) &&& (p + 256 * q) = (a &&& p) + 256 * (b &&& q) := by
  have hap : (a &&& p) < 2 ^ 8 := Nat.lt_of_le_of_lt Nat.and_le_left ha
  rw [Nat.add_comm a, Nat.add_comm p, Nat.add_comm (a &&& p), show (256 : Nat) = 2 ^ 8 from rfl]
  refine Nat.eq_of_testBit_eq (fun i => ?_)
  rw [Nat.testBit_and, Nat.testBit_two_pow_mul_add _ ha, Nat.testBit_two_pow_mul_add _ hp, Nat.testBit_two_pow_mul_add _ hap]
  by_cases h : i < 8
  · rw [if_pos h, if_pos h, if_pos h, Nat.testBit_and]
  · rw [if_neg h, if_neg h, if_neg h, Nat.testBit_and]
def h1 (q u : Nat) : Nat := u - ((u / 2) &&& q)
def h2 (q u : Nat) : Nat := (u &&& q) + ((u / 4) &&& q)
def h3 (q u : Nat) : Nat := (u + u / 16) &&& q
theorem k1 : ∀ a, a < 256 → ∀ c, c < 2 → (a / 2 + 128 * c) &&& 85 = (a / 2) &&& 85 := by decide +kernel
theorem k2 : ∀ a, a < 256 → ∀ c, c < 4 → (a / 4 + 64 * c) &&& 51 = (a / 4) &&& 51 := by decide +kernel
theorem k3 : ∀ a, a < 256 → h2 51 (h1 85 a) ≤ 68 ∧ h2 51 (h1 85 a) % 16 ≤ 4 ∧ h1 85 a < 256 ∧ h3 15 (h2 51 (h1 85 a)) = pop 8 a ∧ pop 8 a ≤ 8 := by decide +kernel
theorem h1_b {a b q : Nat} (ha : a < 256) : h1 (85 + 256 * q) (a + 256 * b) = h1 85 a + 256 * h1 q b := by
  unfold h1
  rw [show (a + 256 * b) / 2 = (a / 2 + 128 * (b % 2)) + 256 * (b / 2) by omega, andB (by omega) (by decide), k1 a ha _ (Nat.mod_lt _ (by decide))]
  have l1 : (a / 2) &&& 85 ≤ a := Nat.le_trans Nat.and_le_left (Nat.div_le_self _ _)
  have l2 : (b / 2) &&& q ≤ b := Nat.le_trans Nat.and_le_left (Nat.div_le_self _ _)
  omega
theorem h2_b {a b q : Nat} (ha : a < 256) : h2 (51 + 256 * q) (a + 256 * b) = h2 51 a + 256 * h2 q b := by
  unfold h2
  rw [show (a + 256 * b) / 4 = (a / 4 + 64 * (b % 4)) + 256 * (b / 4) by omega, andB ha (by decide), andB (by omega) (by decide), k2 a ha _ (Nat.mod_lt _ (by decide))]
  omega
theorem h3_b {a b q : Nat} (ha : a ≤ 68) (hb : b % 16 ≤ 4) : h3 (15 + 256 * q) (a + 256 * b) = h3 15 a + 256 * h3 q b := by
  unfold h3
  rw [show a + 256 * b + (a + 256 * b) / 16 = (a + a / 16 + 16 * (b % 16)) + 256 * (b + b / 16) by omega, andB (by omega) (by decide)]
  congr 1
  have e : ∀ x : Nat, x &&& 15 = x % 16 := fun x => Nat.and_two_pow_sub_one_eq_mod x 4
  rw [e, e]; omega
theorem ushrN {n j : Nat} (hn : n < 2 ^ 32) (hj : j < 32) : ((nI n).toUInt32 >>> ((nI j).toUInt32 &&& Int32.toUInt32 31)).toInt32 = nI (n / 2 ^ j) := by
  refine b_ext (fun i hi => ?_)
  rw [b_ushr j hj]
  show (BitVec.ofNat 32 n).getLsbD (j + i) = (BitVec.ofNat 32 (n / 2 ^ j)).getLsbD i
  rw [BitVec.getLsbD_ofNat, BitVec.getLsbD_ofNat, Nat.testBit_div_two_pow, decide_eq_true hi, Bool.true_and, Nat.add_comm i j]
  by_cases c : j + i < 32
  · rw [decide_eq_true c, Bool.true_and]
  · rw [decide_eq_false c, Bool.false_and]
    exact (Nat.testBit_lt_two_pow (Nat.lt_of_lt_of_le hn (Nat.pow_le_pow_right (by decide) (by omega)))).symm
theorem bytes4 {m : Nat} (hm : m < 2 ^ 32) : ∃ a0 a1 a2 a3, a0 < 256 ∧ a1 < 256 ∧ a2 < 256 ∧ a3 < 256 ∧ m = a0 + 256 * (a1 + 256 * (a2 + 256 * (a3 + 256 * 0))) :=
  ⟨m % 256, m / 256 % 256, m / 65536 % 256, m / 16777216, by omega, by omega, by omega, by omega, by omega⟩
theorem pop_le (n x : Nat) : pop n x ≤ n := by
  have := sm_le (h := fun k => x / 2 ^ k % 2) (b := 1) (n := n) (fun c _ => by show x / 2 ^ c % 2 ≤ 1; have := Nat.mod_lt (x / 2 ^ c) (show 0 < 2 by decide); omega)
  unfold pop; omega
theorem fin4 {p0 p1 p2 p3 : Nat} (l0 : p0 ≤ 8) (l1 : p1 ≤ 8) (l2 : p2 ≤ 8) (l3 : p3 ≤ 8) : (p0 + 256 * (p1 + 256 * (p2 + 256 * (p3 + 256 * 0))) + (p0 + 256 * (p1 + 256 * (p2 + 256 * (p3 + 256 * 0)))) / 256 + (p0 + 256 * (p1 + 256 * (p2 + 256 * (p3 + 256 * 0))) + (p0 + 256 * (p1 + 256 * (p2 + 256 * (p3 + 256 * 0)))) / 256) / 65536) % 2 ^ 6 = p0 + (p1 + (p2 + (p3 + 0))) := by
  have s1 : (p0 + 256 * (p1 + 256 * (p2 + 256 * (p3 + 256 * 0)))) / 256 = p1 + 256 * (p2 + 256 * p3) := by omega
  rw [s1]
  have s2 : (p0 + 256 * (p1 + 256 * (p2 + 256 * (p3 + 256 * 0))) + (p1 + 256 * (p2 + 256 * p3))) / 65536 = p2 + p3 + 256 * p3 := by omega
  rw [s2]
  omega
theorem bitsC {m : Nat} (hm : m < 2 ^ 32) (σ : St) : rJ6_bitCount_0f7a4 (nI m) σ = nI (pop 64 m) := by
  obtain ⟨a0, a1, a2, a3, b0, b1, b2, b3, e⟩ := bytes4 hm
  obtain ⟨p01, p02, p03, p04, p05⟩ := k3 a0 b0
  obtain ⟨p11, p12, p13, p14, p15⟩ := k3 a1 b1
  obtain ⟨p21, p22, p23, p24, p25⟩ := k3 a2 b2
  obtain ⟨p31, p32, p33, p34, p35⟩ := k3 a3 b3
  have q1 : h1 0 0 = 0 := rfl
  have q2 : h2 0 0 = 0 := rfl
  have q3 : h3 0 0 = 0 := rfl
  have w1 : h1 1431655765 m = h1 85 a0 + 256 * (h1 85 a1 + 256 * (h1 85 a2 + 256 * (h1 85 a3 + 256 * 0))) := by
    rw [e, show (1431655765 : Nat) = 85 + 256 * (85 + 256 * (85 + 256 * (85 + 256 * 0))) from rfl, h1_b b0, h1_b b1, h1_b b2, h1_b b3, q1]
  have w2 : h2 858993459 (h1 1431655765 m) = h2 51 (h1 85 a0) + 256 * (h2 51 (h1 85 a1) + 256 * (h2 51 (h1 85 a2) + 256 * (h2 51 (h1 85 a3) + 256 * 0))) := by
    rw [w1, show (858993459 : Nat) = 51 + 256 * (51 + 256 * (51 + 256 * (51 + 256 * 0))) from rfl, h2_b p03, h2_b p13, h2_b p23, h2_b p33, q2]
  have w3 : h3 252645135 (h2 858993459 (h1 1431655765 m)) = pop 8 a0 + 256 * (pop 8 a1 + 256 * (pop 8 a2 + 256 * (pop 8 a3 + 256 * 0))) := by
    rw [w2, show (252645135 : Nat) = 15 + 256 * (15 + 256 * (15 + 256 * (15 + 256 * 0))) from rfl, h3_b p01 (by omega), h3_b p11 (by omega), h3_b p21 (by omega), h3_b p31 (by omega), q3, p04, p14, p24, p34]
  have wp : pop 64 m = pop 8 a0 + (pop 8 a1 + (pop 8 a2 + (pop 8 a3 + 0))) := by
    rw [e, show (64 : Nat) = 8 + (8 + (8 + (8 + 32))) from rfl, pop_byte b0, pop_byte b1, pop_byte b2, pop_byte b3, pop_0]
  have l1 : h1 1431655765 m < 2 ^ 32 := Nat.lt_of_le_of_lt (Nat.sub_le _ _) hm
  have l2 : h2 858993459 (h1 1431655765 m) < 2 ^ 32 := by rw [w2]; omega
  have l3 : h3 252645135 (h2 858993459 (h1 1431655765 m)) < 2 ^ 32 := by rw [w3]; omega
  have z1 : nI m - (((nI m).toUInt32 >>> ((1 : Int32).toUInt32 &&& Int32.toUInt32 31)).toInt32 &&& 1431655765) = nI (h1 1431655765 m) := by
    have := ushrN (n := m) (j := 1) hm (by decide)
    rw [show ((1 : Int32)) = nI 1 from rfl, this, show (1431655765 : Int32) = nI 1431655765 from rfl, nx_and, pk_sub (Nat.le_trans Nat.and_le_left (Nat.div_le_self _ _))]; rfl
  have z2 : (nI (h1 1431655765 m) &&& 858993459) + ((((nI (h1 1431655765 m)).toUInt32 >>> ((2 : Int32).toUInt32 &&& Int32.toUInt32 31)).toInt32) &&& 858993459) = nI (h2 858993459 (h1 1431655765 m)) := by
    have := ushrN (n := h1 1431655765 m) (j := 2) l1 (by decide)
    rw [show ((2 : Int32)) = nI 2 from rfl, this, show (858993459 : Int32) = nI 858993459 from rfl, nx_and, nx_and, nI_add]; rfl
  have z3 : (nI (h2 858993459 (h1 1431655765 m)) + (((nI (h2 858993459 (h1 1431655765 m))).toUInt32 >>> ((4 : Int32).toUInt32 &&& Int32.toUInt32 31)).toInt32)) &&& 252645135 = nI (h3 252645135 (h2 858993459 (h1 1431655765 m))) := by
    have := ushrN (n := h2 858993459 (h1 1431655765 m)) (j := 4) l2 (by decide)
    rw [show ((4 : Int32)) = nI 4 from rfl, this, show (252645135 : Int32) = nI 252645135 from rfl, nI_add, nx_and]; rfl
  have z4 : ∀ u, u < 2 ^ 32 → nI u + (((nI u).toUInt32 >>> ((8 : Int32).toUInt32 &&& Int32.toUInt32 31)).toInt32) = nI (u + u / 256) := fun u hu => by
    rw [show ((8 : Int32)) = nI 8 from rfl, ushrN hu (by decide), nI_add]
  have z5 : ∀ u, u < 2 ^ 32 → nI u + (((nI u).toUInt32 >>> ((16 : Int32).toUInt32 &&& Int32.toUInt32 31)).toInt32) = nI (u + u / 65536) := fun u hu => by
    rw [show ((16 : Int32)) = nI 16 from rfl, ushrN hu (by decide), nI_add]
  unfold rJ6_bitCount_0f7a4
  rw [z1, z2, z3, z4 _ l3, w3, z5 _ (by omega), show (63 : Int32) = nI (2 ^ 6 - 1) from rfl, fa_mask, wp]
  congr 1
  exact fin4 p05 p15 p25 p35
theorem tX11_bits (d m : Nat) (hm : m < 2 ^ 32) (σ : St) : Ct yX11_bits MX11_bits d [.long (lN m)] σ (fun v σ' => v = some (.int (nI (pop 64 m))) ∧ σ' = σ) := by
  refine Ct.of mX11_bits.1 (Nat.le_of_ble_eq_true rfl) (bX11_bits_0 (lN m) σ ?_)
  refine loopI1 (fun x a => Run MX11_bits d 4 [some (.long (lN m)), none, some (.int a), some (.int x)] [] σ _) (fun j a => a = nI (pop j m)) 64 ?_ ?_ 0 0 (by omega) rfl
  · intro a ha
    exact bX11_bits_4 (lN m) a (nI 64) σ (fun _ => ⟨by rw [ha], rfl⟩) (fun q => absurd q (by decide))
  · intro j a hj ha ih
    refine bX11_bits_4 (lN m) a (nI j) σ (fun q => absurd q (nI_ge hj (by decide))) (fun _ => ih _ ?_)
    have h2 : m / 2 ^ j < 2 ^ 32 := Nat.lt_of_le_of_lt (Nat.div_le_self _ _) hm
    rw [shrL (by omega) hj, wb_a1 (by omega), lN_toInt32, ha, nI_add]; rfl
end BITS4

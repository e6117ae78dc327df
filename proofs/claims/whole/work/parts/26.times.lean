/-! TIMES: products by digits -/
section TIMES
theorem nI_shl (n : Nat) {k : Nat} (hk : k < 32) : nI n <<< (nI k &&& 31) = nI (n * 2 ^ k) := by
  apply Int32.toBitVec_inj.mp
  rw [Int32.toBitVec_shiftLeft]
  show (BitVec.ofNat 32 n <<< ((nI k &&& 31).toBitVec.smod 32).toNat) = BitVec.ofNat 32 (n * 2 ^ k)
  rw [s_l k hk]
  apply BitVec.eq_of_toNat_eq
  rw [BitVec.toNat_shiftLeft, BitVec.toNat_ofNat, BitVec.toNat_ofNat, Nat.shiftLeft_eq, Nat.mul_mod, Nat.mod_mod, ← Nat.mul_mod]
theorem dg_small (v k : Nat) : -2 ≤ dg v k ∧ dg v k ≤ 2 := by
  unfold dg
  have h1 : 2 * v / 2 ^ (2 * k) % 2 < 2 := Nat.mod_lt _ (by decide)
  have h2 : v / 2 ^ (2 * k) % 2 < 2 := Nat.mod_lt _ (by decide)
  have h3 : v / 2 ^ (2 * k + 1) % 2 < 2 := Nat.mod_lt _ (by decide)
  omega
theorem nI_of_mod {a b : Nat} (h : a % 2 ^ 32 = b % 2 ^ 32) : nI a = nI b := by
  apply Int32.toBitVec_inj.mp
  show BitVec.ofNat 32 a = BitVec.ofNat 32 b
  apply BitVec.eq_of_toNat_eq
  rw [BitVec.toNat_ofNat, BitVec.toNat_ofNat]; exact h
def dgs (v : Nat) (n : Nat) : Nat := sm (fun k => if dg v k = 0 then 0 else 1) n
theorem dg0 (v k : Nat) : zI (dg v k) = 0 ↔ dg v k = 0 := by
  have := dg_small v k
  exact zI_eq (b := 0) (by omega) (by omega)
theorem tX10_digitsNotZero (d v : Nat) (hv : v < 65536) (σ : St) : Ct yX10_digitsNotZero MX10_digitsNotZero (d + 1) [.int (nI v)] σ (fun r σ' => r = some (.int (nI (dgs v 9))) ∧ σ' = σ) := by
  refine Ct.of mX10_digitsNotZero.1 (Nat.le_of_ble_eq_true rfl) (bX10_digitsNotZero_0 (nI v) σ ?_)
  refine loopI1 (fun x a => Run MX10_digitsNotZero (d + 1) 4 [some (.int (nI v)), some (.int a), some (.int x)] [] σ _) (fun k a => a = nI (dgs v k)) 9 ?_ ?_ 0 0 (by omega) rfl
  · intro a ha
    exact bX10_digitsNotZero_4 (nI v) a (nI 9) σ (fun _ => ⟨by rw [ha], rfl⟩) (fun q => absurd q (by decide))
  · intro k a hk ha ih
    refine bX10_digitsNotZero_4 (nI v) a (nI k) σ (fun q => absurd q (show ¬ nI 8 < nI k from nI_nlt (by omega) (by omega))) (fun _ => ih _ ?_)
    rw [digC hv hk, ha]
    show _ = nI (dgs v k + if dg v k = 0 then 0 else 1)
    by_cases c : dg v k = 0
    · rw [if_pos ((dg0 v k).mpr c), if_pos c]; rfl
    · rw [if_neg (fun q => c ((dg0 v k).mp q)), if_neg c, nI_succ]
/-- what the digit at k adds, as 32 bits -/
def pY (v w k : Nat) : Nat := ((nI w * zI (dg v k)).toBitVec.toNat * 2 ^ (2 * k)) % 2 ^ 32
def pA (v w : Nat) : Nat → Nat
  | 0 => 0
  | k + 1 => (pA v w k + pY v w k) % 2 ^ 32
theorem pA_lt (v w : Nat) : ∀ k, pA v w k < 2 ^ 32
  | 0 => by show 0 < 2 ^ 32; decide
  | _ + 1 => Nat.mod_lt _ (by decide)
theorem nI_bv (x : Int32) : x = nI x.toBitVec.toNat := Int32.toBitVec_inj.mp (by show _ = BitVec.ofNat 32 _; simp)
theorem pY_C (v w k : Nat) (hk : k < 9) : (nI w * zI (dg v k)) <<< (((2 : Int32) * nI k) &&& 31) = nI (pY v w k) := by
  rw [show (2 : Int32) * nI k = nI (2 * k) from pk_mul 2 k]
  conv => lhs; rw [nI_bv (nI w * zI (dg v k))]
  rw [nI_shl _ (by omega)]
  exact nI_of_mod (by unfold pY; rw [Nat.mod_mod])
theorem tX10_productByDigits (d v w : Nat) (hv : v < 65536) (σ : St) : Ct yX10_productByDigits MX10_productByDigits (d + 3) [.int (nI v), .int (nI w)] σ (fun r σ' => r = some (.long (lN (pA v w 9))) ∧ σ' = σ) := by
  refine Ct.of mX10_productByDigits.1 (Nat.le_of_ble_eq_true rfl) (bX10_productByDigits_0 (nI v) (nI w) σ ?_)
  refine loopI1 (fun x a => Run MX10_productByDigits (d + 3) 5 [some (.int (nI v)), some (.int (nI w)), some (.long a), none, some (.int x)] [] σ _) (fun k a => a = lN (pA v w k)) 9 ?_ ?_ 0 0 (by omega) rfl
  · intro a ha
    exact bX10_productByDigits_5 (nI v) (nI w) a (nI 9) σ (fun _ => ⟨by rw [ha], rfl⟩) (fun q => absurd q (by decide))
  · intro k a hk ha ih
    refine bX10_productByDigits_5 (nI v) (nI w) a (nI k) σ (fun q => absurd q (show ¬ nI 8 < nI k from nI_nlt (by omega) (by omega))) (fun _ => ih _ ?_)
    rw [digC hv hk, pY_C v w k hk, ha, lN_toInt32, show (32 : Int32) = nI 32 from rfl, sumC (by decide)]
    have h1 := pA_lt v w k
    have h2 : pY v w k < 2 ^ 32 := Nat.mod_lt _ (by decide)
    show lN ((pA v w k % 2 ^ 32 + pY v w k % 2 ^ 32 + 0) % 2 ^ 32) = lN ((pA v w k + pY v w k) % 2 ^ 32)
    rw [Nat.mod_eq_of_lt h1, Nat.mod_eq_of_lt h2, Nat.add_zero]
theorem pY_M (v w k : Nat) (hk : k < 9) : ∃ z, ((nI w).toInt64 * (zI (dg v k)).toInt64) <<< (((2 : Int32) * nI k).toInt64 &&& 63) = lN z ∧ z % 2 ^ 32 = pY v w k := by
  rw [show (2 : Int32) * nI k = nI (2 * k) from pk_mul 2 k]
  obtain ⟨a, ha, e, h⟩ := widen w
  obtain ⟨b, hb, e2, h2⟩ := widen (zI (dg v k)).toBitVec.toNat
  rw [← nI_bv] at e2
  rw [e, e2, lN_mul, wb_shl _ (by omega)]
  refine ⟨_, rfl, ?_⟩
  unfold pY
  rw [Nat.mul_mod, Nat.mul_mod ((nI w * zI (dg v k)).toBitVec.toNat)]
  congr 2
  have hw : w % 2 ^ 32 = (nI w).toBitVec.toNat := by show _ = (BitVec.ofNat 32 w).toNat; rw [BitVec.toNat_ofNat]
  rw [Int32.toBitVec_mul, BitVec.toNat_mul, Nat.mod_mod, Nat.mul_mod, h, h2, hw]
  simp only [Nat.mul_mod_mod, Nat.mod_mul_mod, Nat.mod_mod]
theorem pub_times (d : Nat) (x1 x2 x3 x4 : Int32) (σ : St) (hR : RN σ) : PB yX10_times MX10_times (d + 4) yX11_times MX11_times (d + 3) [.int x1, .int x2, .int x3, .int x4] σ [93, 94] [] (fun _ => True) := by
  obtain ⟨N, hN, e1, e2, hk⟩ := hR
  have d1 : ((0 : Int64) ≤ x1.toInt64 ∧ x1.toInt64 ≤ (65535 : Int64)) ↔ (0 : Int32) ≤ x1 ∧ x1 ≤ 65535 := in_i x1 0 65535
  have d4 : ((0 : Int64) ≤ x4.toInt64 ∧ x4.toInt64 ≤ (1 : Int64)) ↔ (0 : Int32) ≤ x4 ∧ x4 ≤ 1 := in_i x4 0 1
  have d2 : ((0 : Int64) ≤ x2.toInt64 ∧ x2.toInt64 ≤ (32767 : Int64)) ↔ (0 : Int32) ≤ x2 ∧ x2 ≤ 32767 := in_i x2 0 32767
  have mB : ((¬ ((0 : Int32) ≤ x1 ∧ x1 ≤ 65535)) ∨ (¬ ((0 : Int32) ≤ x4 ∧ x4 ≤ 1)) ∨ (¬ x4 = 0 ∧ (¬ ((0 : Int32) ≤ x2 ∧ x2 ≤ 32767) ∨ ¬ ∃ k, k < N ∧ x3 = nI k))) → Ct yX11_times MX11_times (d + 3) [.ref 88, .int x1, .int x2, .int x3, .int x4] σ (fun v2 σ2 => v2 = some (.long (-1)) ∧ Fr [93, 94] [] σ σ2 ∧ True) := by
    intro hb
    have bad : ((0 : Int64) ≤ x1.toInt64 ∧ x1.toInt64 ≤ (65535 : Int64)) → ((0 : Int64) ≤ x4.toInt64 ∧ x4.toInt64 ≤ (1 : Int64)) → (x4 = 0 ∨ (((0 : Int64) ≤ x2.toInt64 ∧ x2.toInt64 ≤ (32767 : Int64)) ∧ ((0 : Int64) ≤ x3.toInt64 ∧ x3.toInt64 ≤ (((σ.1 88 0) - 1).toInt64)))) → False := by
      intro p1 p4 p
      rcases hb with h | h | ⟨h0, h⟩
      · exact h (d1.mp p1)
      · exact h (d4.mp p4)
      · rcases p with p | ⟨p2, p3⟩
        · exact h0 p
        · rcases h with h | h
          · exact h (d2.mp p2)
          · rw [e2] at p3; exact h ((isM (by omega) x3).mp p3)
    refine Ct.of mX11_times.1 (Nat.le_of_ble_eq_true rfl) (bX11_times_0 x1 x2 x3 x4 σ (fun p1 p4 _ p2 p3 => (bad p1 p4 (.inr ⟨p2, p3⟩)).elim) (fun _ => ⟨rfl, Fr.rf, trivial⟩) (fun _ _ _ _ => ⟨rfl, Fr.rf, trivial⟩) (fun p1 p4 _ p2 p3 _ => (bad p1 p4 (.inr ⟨p2, p3⟩)).elim) (fun p1 p4 _ p2 p3 _ => (bad p1 p4 (.inr ⟨p2, p3⟩)).elim) (fun _ _ _ _ _ => ⟨rfl, Fr.rf, trivial⟩) (fun p1 p4 p => (bad p1 p4 (.inl p)).elim) (fun _ _ => ⟨rfl, Fr.rf, trivial⟩))
  have cC : (0 ≤ x3 ∧ x3 < σ.1 0 1 ∧ x3 < 8) ↔ ∃ k, k < N ∧ x3 = nI k := by rw [e1]; exact isC hN x3
  refine Ct.of mX10_times.1 (Nat.le_of_ble_eq_true rfl) (bX10_times_0 x1 x2 x3 x4 σ (fun q => ⟨_, rfl, mB (.inl fun h => ?_)⟩) (fun _ q => ⟨_, rfl, mB (.inl fun h => ?_)⟩) (fun _ _ q => ⟨_, rfl, mB (.inr (.inl fun h => ?_))⟩) (fun _ _ _ _ p _ q => ⟨_, rfl, mB (.inr (.inr ⟨p, .inl fun h => ?_⟩))⟩) (fun _ _ _ _ p _ _ q => ⟨_, rfl, mB (.inr (.inr ⟨p, .inl fun h => ?_⟩))⟩) (fun p1 p1' p4 p4' p p3 p2 p2' q => ?_) (fun p1 p1' p4 p4' p p3 p2 p2' q => ?_) (fun _ _ _ _ p _ q => ⟨_, rfl, mB (.inr (.inr ⟨p, .inl fun h => ?_⟩))⟩) (fun _ _ _ _ p _ _ q => ⟨_, rfl, mB (.inr (.inr ⟨p, .inl fun h => ?_⟩))⟩) (fun _ _ _ _ p q _ _ => ⟨_, rfl, mB (.inr (.inr ⟨p, .inr fun h => q (cC.mpr h)⟩))⟩) (fun p1 p1' p4 p4' p => ?_) (fun _ _ _ q => ⟨_, rfl, mB (.inr (.inl fun h => ?_))⟩))
  · have := h.1; simp only [Int32.lt_iff_toInt_lt, Int32.le_iff_toInt_le, Int64.lt_iff_toInt_lt, Int64.le_iff_toInt_le, ← Int32.toInt_inj, ← Int64.toInt_inj, Int32.toInt_toInt64, tim20, tim13, tim12, tim11, tim10, tim4, tim3, tim2, tim1, ti0, ti1, ti2, ti3, ti4, ti5, ti6, ti7, ti8, ti9, ti10, ti11, ti12, ti13, ti14, ti15, ti16, ti24, ti30, ti31, ti32, ti48, ti56, ti57, ti60, ti63, ti99, ti100, ti130, ti199, ti200, ti240, ti999, ti1000, ti20, ti21, ti22, ti23, ti65535, ti32767, ti144, tjm20, tjm13, tjm12, tjm11, tjm10, tjm4, tjm3, tjm2, tjm1, tj0, tj1, tj2, tj3, tj4, tj5, tj6, tj7, tj8, tj9, tj10, tj11, tj12, tj13, tj14, tj15, tj16, tj24, tj30, tj31, tj32, tj48, tj56, tj57, tj60, tj63, tj99, tj100, tj130, tj199, tj200, tj240, tj999, tj1000, tj20, tj21, tj22, tj23, tj65535, tj32767, tj144] at q this; omega
  · have := h.2; simp only [Int32.lt_iff_toInt_lt, Int32.le_iff_toInt_le, Int64.lt_iff_toInt_lt, Int64.le_iff_toInt_le, ← Int32.toInt_inj, ← Int64.toInt_inj, Int32.toInt_toInt64, tim20, tim13, tim12, tim11, tim10, tim4, tim3, tim2, tim1, ti0, ti1, ti2, ti3, ti4, ti5, ti6, ti7, ti8, ti9, ti10, ti11, ti12, ti13, ti14, ti15, ti16, ti24, ti30, ti31, ti32, ti48, ti56, ti57, ti60, ti63, ti99, ti100, ti130, ti199, ti200, ti240, ti999, ti1000, ti20, ti21, ti22, ti23, ti65535, ti32767, ti144, tjm20, tjm13, tjm12, tjm11, tjm10, tjm4, tjm3, tjm2, tjm1, tj0, tj1, tj2, tj3, tj4, tj5, tj6, tj7, tj8, tj9, tj10, tj11, tj12, tj13, tj14, tj15, tj16, tj24, tj30, tj31, tj32, tj48, tj56, tj57, tj60, tj63, tj99, tj100, tj130, tj199, tj200, tj240, tj999, tj1000, tj20, tj21, tj22, tj23, tj65535, tj32767, tj144] at q this; omega
  · have := h.1; simp only [Int32.lt_iff_toInt_lt, Int32.le_iff_toInt_le, Int64.lt_iff_toInt_lt, Int64.le_iff_toInt_le, ← Int32.toInt_inj, ← Int64.toInt_inj, Int32.toInt_toInt64, tim20, tim13, tim12, tim11, tim10, tim4, tim3, tim2, tim1, ti0, ti1, ti2, ti3, ti4, ti5, ti6, ti7, ti8, ti9, ti10, ti11, ti12, ti13, ti14, ti15, ti16, ti24, ti30, ti31, ti32, ti48, ti56, ti57, ti60, ti63, ti99, ti100, ti130, ti199, ti200, ti240, ti999, ti1000, ti20, ti21, ti22, ti23, ti65535, ti32767, ti144, tjm20, tjm13, tjm12, tjm11, tjm10, tjm4, tjm3, tjm2, tjm1, tj0, tj1, tj2, tj3, tj4, tj5, tj6, tj7, tj8, tj9, tj10, tj11, tj12, tj13, tj14, tj15, tj16, tj24, tj30, tj31, tj32, tj48, tj56, tj57, tj60, tj63, tj99, tj100, tj130, tj199, tj200, tj240, tj999, tj1000, tj20, tj21, tj22, tj23, tj65535, tj32767, tj144] at q this; omega
  · have := h.1; simp only [Int32.lt_iff_toInt_lt, Int32.le_iff_toInt_le, Int64.lt_iff_toInt_lt, Int64.le_iff_toInt_le, ← Int32.toInt_inj, ← Int64.toInt_inj, Int32.toInt_toInt64, tim20, tim13, tim12, tim11, tim10, tim4, tim3, tim2, tim1, ti0, ti1, ti2, ti3, ti4, ti5, ti6, ti7, ti8, ti9, ti10, ti11, ti12, ti13, ti14, ti15, ti16, ti24, ti30, ti31, ti32, ti48, ti56, ti57, ti60, ti63, ti99, ti100, ti130, ti199, ti200, ti240, ti999, ti1000, ti20, ti21, ti22, ti23, ti65535, ti32767, ti144, tjm20, tjm13, tjm12, tjm11, tjm10, tjm4, tjm3, tjm2, tjm1, tj0, tj1, tj2, tj3, tj4, tj5, tj6, tj7, tj8, tj9, tj10, tj11, tj12, tj13, tj14, tj15, tj16, tj24, tj30, tj31, tj32, tj48, tj56, tj57, tj60, tj63, tj99, tj100, tj130, tj199, tj200, tj240, tj999, tj1000, tj20, tj21, tj22, tj23, tj65535, tj32767, tj144] at q this; omega
  · have := h.2; simp only [Int32.lt_iff_toInt_lt, Int32.le_iff_toInt_le, Int64.lt_iff_toInt_lt, Int64.le_iff_toInt_le, ← Int32.toInt_inj, ← Int64.toInt_inj, Int32.toInt_toInt64, tim20, tim13, tim12, tim11, tim10, tim4, tim3, tim2, tim1, ti0, ti1, ti2, ti3, ti4, ti5, ti6, ti7, ti8, ti9, ti10, ti11, ti12, ti13, ti14, ti15, ti16, ti24, ti30, ti31, ti32, ti48, ti56, ti57, ti60, ti63, ti99, ti100, ti130, ti199, ti200, ti240, ti999, ti1000, ti20, ti21, ti22, ti23, ti65535, ti32767, ti144, tjm20, tjm13, tjm12, tjm11, tjm10, tjm4, tjm3, tjm2, tjm1, tj0, tj1, tj2, tj3, tj4, tj5, tj6, tj7, tj8, tj9, tj10, tj11, tj12, tj13, tj14, tj15, tj16, tj24, tj30, tj31, tj32, tj48, tj56, tj57, tj60, tj63, tj99, tj100, tj130, tj199, tj200, tj240, tj999, tj1000, tj20, tj21, tj22, tj23, tj65535, tj32767, tj144] at q this; omega
  · -- not 32 PLACES
    obtain ⟨k, hkN, rfl⟩ := cC.mp p3
    have k8 : k < 8 := by omega
    obtain ⟨n, D, R, hok, ⟨c1, c2, c3, c4⟩, hm⟩ := hk k hkN
    have cm := (isM (by omega) (nI k)).mpr ⟨k, hkN, rfl⟩
    rw [nI_clamp (by omega), (nt_a k k8).1, c1] at q
    have w : ¬ σ.1 89 (nI k).toNatClampNeg = 32 := by rw [nI_clamp (by omega), hm.1]; exact q
    exact ⟨_, rfl, Ct.of mX11_times.1 (Nat.le_of_ble_eq_true rfl) (bX11_times_0 x1 x2 (nI k) x4 σ (fun _ _ _ _ _ => vp_in_nI k8 (by decide)) (fun t => absurd (d1.mpr ⟨p1, p1'⟩) t) (fun _ _ _ t => absurd (d2.mpr ⟨p2, p2'⟩) t) (fun _ _ _ _ _ _ => ⟨rfl, Fr.rf, trivial⟩) (fun _ _ _ _ _ t => absurd t w) (fun _ _ _ _ t => absurd (by rw [e2]; exact cm) t) (fun _ _ t => absurd t p) (fun _ t => absurd (d4.mpr ⟨p4, p4'⟩) t))⟩
  · obtain ⟨k, hkN, rfl⟩ := cC.mp p3
    have k8 : k < 8 := by omega
    obtain ⟨n, D, R, hok, ⟨c1, c2, c3, c4⟩, hm⟩ := hk k hkN
    have n32 := hok.2.1
    have cm := (isM (by omega) (nI k)).mpr ⟨k, hkN, rfl⟩
    have w : σ.1 89 (nI k).toNatClampNeg = 32 := by
      rw [nI_clamp (by omega), (nt_a k k8).1, c1] at q
      rw [nI_clamp (by omega), hm.1]; exact q
    obtain ⟨v, hv, ev⟩ := ofI (x := x1) (n := 65536) (by have := p1; simp only [Int32.lt_iff_toInt_lt, Int32.le_iff_toInt_le, Int64.lt_iff_toInt_lt, Int64.le_iff_toInt_le, ← Int32.toInt_inj, ← Int64.toInt_inj, Int32.toInt_toInt64, tim20, tim13, tim12, tim11, tim10, tim4, tim3, tim2, tim1, ti0, ti1, ti2, ti3, ti4, ti5, ti6, ti7, ti8, ti9, ti10, ti11, ti12, ti13, ti14, ti15, ti16, ti24, ti30, ti31, ti32, ti48, ti56, ti57, ti60, ti63, ti99, ti100, ti130, ti199, ti200, ti240, ti999, ti1000, ti20, ti21, ti22, ti23, ti65535, ti32767, ti144, tjm20, tjm13, tjm12, tjm11, tjm10, tjm4, tjm3, tjm2, tjm1, tj0, tj1, tj2, tj3, tj4, tj5, tj6, tj7, tj8, tj9, tj10, tj11, tj12, tj13, tj14, tj15, tj16, tj24, tj30, tj31, tj32, tj48, tj56, tj57, tj60, tj63, tj99, tj100, tj130, tj199, tj200, tj240, tj999, tj1000, tj20, tj21, tj22, tj23, tj65535, tj32767, tj144] at this; omega) (by have := p1'; simp only [Int32.lt_iff_toInt_lt, Int32.le_iff_toInt_le, Int64.lt_iff_toInt_lt, Int64.le_iff_toInt_le, ← Int32.toInt_inj, ← Int64.toInt_inj, Int32.toInt_toInt64, tim20, tim13, tim12, tim11, tim10, tim4, tim3, tim2, tim1, ti0, ti1, ti2, ti3, ti4, ti5, ti6, ti7, ti8, ti9, ti10, ti11, ti12, ti13, ti14, ti15, ti16, ti24, ti30, ti31, ti32, ti48, ti56, ti57, ti60, ti63, ti99, ti100, ti130, ti199, ti200, ti240, ti999, ti1000, ti20, ti21, ti22, ti23, ti65535, ti32767, ti144, tjm20, tjm13, tjm12, tjm11, tjm10, tjm4, tjm3, tjm2, tjm1, tj0, tj1, tj2, tj3, tj4, tj5, tj6, tj7, tj8, tj9, tj10, tj11, tj12, tj13, tj14, tj15, tj16, tj24, tj30, tj31, tj32, tj48, tj56, tj57, tj60, tj63, tj99, tj100, tj130, tj199, tj200, tj240, tj999, tj1000, tj20, tj21, tj22, tj23, tj65535, tj32767, tj144] at this; omega) (by decide)
    obtain ⟨u, hu, eu⟩ := ofI (x := x2) (n := 32768) (by have := p2; simp only [Int32.lt_iff_toInt_lt, Int32.le_iff_toInt_le, Int64.lt_iff_toInt_lt, Int64.le_iff_toInt_le, ← Int32.toInt_inj, ← Int64.toInt_inj, Int32.toInt_toInt64, tim20, tim13, tim12, tim11, tim10, tim4, tim3, tim2, tim1, ti0, ti1, ti2, ti3, ti4, ti5, ti6, ti7, ti8, ti9, ti10, ti11, ti12, ti13, ti14, ti15, ti16, ti24, ti30, ti31, ti32, ti48, ti56, ti57, ti60, ti63, ti99, ti100, ti130, ti199, ti200, ti240, ti999, ti1000, ti20, ti21, ti22, ti23, ti65535, ti32767, ti144, tjm20, tjm13, tjm12, tjm11, tjm10, tjm4, tjm3, tjm2, tjm1, tj0, tj1, tj2, tj3, tj4, tj5, tj6, tj7, tj8, tj9, tj10, tj11, tj12, tj13, tj14, tj15, tj16, tj24, tj30, tj31, tj32, tj48, tj56, tj57, tj60, tj63, tj99, tj100, tj130, tj199, tj200, tj240, tj999, tj1000, tj20, tj21, tj22, tj23, tj65535, tj32767, tj144] at this; omega) (by have := p2'; simp only [Int32.lt_iff_toInt_lt, Int32.le_iff_toInt_le, Int64.lt_iff_toInt_lt, Int64.le_iff_toInt_le, ← Int32.toInt_inj, ← Int64.toInt_inj, Int32.toInt_toInt64, tim20, tim13, tim12, tim11, tim10, tim4, tim3, tim2, tim1, ti0, ti1, ti2, ti3, ti4, ti5, ti6, ti7, ti8, ti9, ti10, ti11, ti12, ti13, ti14, ti15, ti16, ti24, ti30, ti31, ti32, ti48, ti56, ti57, ti60, ti63, ti99, ti100, ti130, ti199, ti200, ti240, ti999, ti1000, ti20, ti21, ti22, ti23, ti65535, ti32767, ti144, tjm20, tjm13, tjm12, tjm11, tjm10, tjm4, tjm3, tjm2, tjm1, tj0, tj1, tj2, tj3, tj4, tj5, tj6, tj7, tj8, tj9, tj10, tj11, tj12, tj13, tj14, tj15, tj16, tj24, tj30, tj31, tj32, tj48, tj56, tj57, tj60, tj63, tj99, tj100, tj130, tj199, tj200, tj240, tj999, tj1000, tj20, tj21, tj22, tj23, tj65535, tj32767, tj144] at this; omega) (by decide)
    subst ev eu
    rw [nI_clamp (by omega), (nt_a k k8).1, (nt_a k k8).2.2.1]
    refine (tX8_whole (d + 1) _ n (lw R D) (nt_b k k8).1 n32 (lw_le R D) σ c3).mono ?_
    rintro v1 s1 ⟨hv1, hs1⟩
    rw [hv1, hs1]
    have ref : ∀ r : Int64, (op n (lw R D) = 0 → r = lN (pA v u 9)) → (¬ op n (lw R D) = 0 → r = -2) → Ct yX11_times MX11_times (d + 3) [.ref 88, .int (nI v), .int (nI u), .int (nI k), .int x4] σ (fun v2 σ2 => v2 = some (.long r) ∧ Fr [93, 94] [] σ σ2 ∧ True) := by
      intro r hr1 hr2
      refine Ct.of mX11_times.1 (Nat.le_of_ble_eq_true rfl) (bX11_times_0 (nI v) (nI u) (nI k) x4 σ (fun _ _ _ _ _ => vp_in_nI k8 (by decide)) (fun t => absurd (d1.mpr ⟨p1, p1'⟩) t) (fun _ _ _ t => absurd (d2.mpr ⟨p2, p2'⟩) t) (fun _ _ _ _ _ t => absurd w t) (fun _ _ _ _ _ _ => ?_) (fun _ _ _ _ t => absurd (by rw [e2]; exact cm) t) (fun _ _ t => absurd t p) (fun _ t => absurd (d4.mpr ⟨p4, p4'⟩) t))
      refine (tX11_isWhole d k D n R k8 hok σ hm.1 hm.2.1 hm.2.2).mono ?_
      rintro v2 s2 ⟨hv2, hF2⟩
      rw [hv2]
      refine bX11_times_114 (nI v) (nI u) _ s2 (fun q => ?_) (fun q => ⟨?_, hF2, trivial⟩)
      · have hw := bI1.mp q
        refine loopI1 (fun x a => Run MX11_times (d + 3) 127 [none, some (.int (nI v)), some (.int (nI u)), none, none, some (.long a), none, some (.int x)] [] s2 _) (fun j a => a = lN (pA v u j)) 9 ?_ ?_ 0 0 (by omega) rfl
        · intro a ha
          exact bX11_times_127 (nI v) (nI u) a (nI 9) s2 (fun _ => ⟨by rw [ha, hr1 hw], hF2, trivial⟩) (fun q => absurd q (by decide))
        · intro j a hj ha ih
          refine bX11_times_127 (nI v) (nI u) a (nI j) s2 (fun q => absurd q (nI_ge hj (by decide))) (fun _ => ih _ ?_)
          obtain ⟨z, ez, hz⟩ := pY_M v u j hj
          rw [digM hv hj, ez, ha, lN_add, wb_mod, show (4294967295 : Int64) = lN (2 ^ 32 - 1) from rfl, wb_mask (Nat.mod_lt _ (by decide)) (by decide), Nat.mod_mod_of_dvd _ (by decide), Nat.add_mod, hz]
          show lN _ = lN ((pA v u j + pY v u j) % 2 ^ 32)
          congr 1
          rw [Nat.mod_add_mod]
      · rw [hr2 (fun h => absurd q (bI1.mpr h))]
    refine bX10_times_82 (nI v) (nI u) _ σ (fun q => ?_) (fun q => ⟨_, rfl, ref _ (fun h => absurd q (bI1.mpr h)) (fun _ => rfl)⟩)
    refine (tX10_productByDigits d v u hv σ).mono ?_
    rintro v2 s2 ⟨hv2, hs2⟩
    rw [hv2, hs2]
    exact bX10_times_94 _ σ ⟨_, rfl, ref _ (fun _ => rfl) (fun h => absurd (bI1.mp q) h)⟩
  · have := h.1; simp only [Int32.lt_iff_toInt_lt, Int32.le_iff_toInt_le, Int64.lt_iff_toInt_lt, Int64.le_iff_toInt_le, ← Int32.toInt_inj, ← Int64.toInt_inj, Int32.toInt_toInt64, tim20, tim13, tim12, tim11, tim10, tim4, tim3, tim2, tim1, ti0, ti1, ti2, ti3, ti4, ti5, ti6, ti7, ti8, ti9, ti10, ti11, ti12, ti13, ti14, ti15, ti16, ti24, ti30, ti31, ti32, ti48, ti56, ti57, ti60, ti63, ti99, ti100, ti130, ti199, ti200, ti240, ti999, ti1000, ti20, ti21, ti22, ti23, ti65535, ti32767, ti144, tjm20, tjm13, tjm12, tjm11, tjm10, tjm4, tjm3, tjm2, tjm1, tj0, tj1, tj2, tj3, tj4, tj5, tj6, tj7, tj8, tj9, tj10, tj11, tj12, tj13, tj14, tj15, tj16, tj24, tj30, tj31, tj32, tj48, tj56, tj57, tj60, tj63, tj99, tj100, tj130, tj199, tj200, tj240, tj999, tj1000, tj20, tj21, tj22, tj23, tj65535, tj32767, tj144] at q this; omega
  · have := h.2; simp only [Int32.lt_iff_toInt_lt, Int32.le_iff_toInt_le, Int64.lt_iff_toInt_lt, Int64.le_iff_toInt_le, ← Int32.toInt_inj, ← Int64.toInt_inj, Int32.toInt_toInt64, tim20, tim13, tim12, tim11, tim10, tim4, tim3, tim2, tim1, ti0, ti1, ti2, ti3, ti4, ti5, ti6, ti7, ti8, ti9, ti10, ti11, ti12, ti13, ti14, ti15, ti16, ti24, ti30, ti31, ti32, ti48, ti56, ti57, ti60, ti63, ti99, ti100, ti130, ti199, ti200, ti240, ti999, ti1000, ti20, ti21, ti22, ti23, ti65535, ti32767, ti144, tjm20, tjm13, tjm12, tjm11, tjm10, tjm4, tjm3, tjm2, tjm1, tj0, tj1, tj2, tj3, tj4, tj5, tj6, tj7, tj8, tj9, tj10, tj11, tj12, tj13, tj14, tj15, tj16, tj24, tj30, tj31, tj32, tj48, tj56, tj57, tj60, tj63, tj99, tj100, tj130, tj199, tj200, tj240, tj999, tj1000, tj20, tj21, tj22, tj23, tj65535, tj32767, tj144] at q this; omega
  · obtain ⟨v, hv, ev⟩ := ofI (x := x1) (n := 65536) (by have := p1; simp only [Int32.lt_iff_toInt_lt, Int32.le_iff_toInt_le, Int64.lt_iff_toInt_lt, Int64.le_iff_toInt_le, ← Int32.toInt_inj, ← Int64.toInt_inj, Int32.toInt_toInt64, tim20, tim13, tim12, tim11, tim10, tim4, tim3, tim2, tim1, ti0, ti1, ti2, ti3, ti4, ti5, ti6, ti7, ti8, ti9, ti10, ti11, ti12, ti13, ti14, ti15, ti16, ti24, ti30, ti31, ti32, ti48, ti56, ti57, ti60, ti63, ti99, ti100, ti130, ti199, ti200, ti240, ti999, ti1000, ti20, ti21, ti22, ti23, ti65535, ti32767, ti144, tjm20, tjm13, tjm12, tjm11, tjm10, tjm4, tjm3, tjm2, tjm1, tj0, tj1, tj2, tj3, tj4, tj5, tj6, tj7, tj8, tj9, tj10, tj11, tj12, tj13, tj14, tj15, tj16, tj24, tj30, tj31, tj32, tj48, tj56, tj57, tj60, tj63, tj99, tj100, tj130, tj199, tj200, tj240, tj999, tj1000, tj20, tj21, tj22, tj23, tj65535, tj32767, tj144] at this; omega) (by have := p1'; simp only [Int32.lt_iff_toInt_lt, Int32.le_iff_toInt_le, Int64.lt_iff_toInt_lt, Int64.le_iff_toInt_le, ← Int32.toInt_inj, ← Int64.toInt_inj, Int32.toInt_toInt64, tim20, tim13, tim12, tim11, tim10, tim4, tim3, tim2, tim1, ti0, ti1, ti2, ti3, ti4, ti5, ti6, ti7, ti8, ti9, ti10, ti11, ti12, ti13, ti14, ti15, ti16, ti24, ti30, ti31, ti32, ti48, ti56, ti57, ti60, ti63, ti99, ti100, ti130, ti199, ti200, ti240, ti999, ti1000, ti20, ti21, ti22, ti23, ti65535, ti32767, ti144, tjm20, tjm13, tjm12, tjm11, tjm10, tjm4, tjm3, tjm2, tjm1, tj0, tj1, tj2, tj3, tj4, tj5, tj6, tj7, tj8, tj9, tj10, tj11, tj12, tj13, tj14, tj15, tj16, tj24, tj30, tj31, tj32, tj48, tj56, tj57, tj60, tj63, tj99, tj100, tj130, tj199, tj200, tj240, tj999, tj1000, tj20, tj21, tj22, tj23, tj65535, tj32767, tj144] at this; omega) (by decide)
    subst ev p
    refine (tX10_digitsNotZero (d + 2) v hv σ).mono ?_
    rintro v1 s1 ⟨hv1, hs1⟩
    rw [hv1, hs1]
    refine bX10_times_35 _ σ ⟨_, rfl, Ct.of mX11_times.1 (Nat.le_of_ble_eq_true rfl) (bX11_times_0 (nI v) x2 x3 0 σ (fun _ _ t => absurd rfl t) (fun t => absurd (d1.mpr ⟨p1, p1'⟩) t) (fun _ _ t => absurd rfl t) (fun _ _ t => absurd rfl t) (fun _ _ t => absurd rfl t) (fun _ _ t => absurd rfl t) (fun _ _ _ => ?_) (fun _ t => absurd (d4.mpr ⟨p4, p4'⟩) t))⟩
    refine loopI1 (fun x a => Run MX11_times (d + 3) 38 [none, some (.int (nI v)), none, none, none, some (.int a), some (.int x), none] [] σ _) (fun j a => a = nI (dgs v j)) 9 ?_ ?_ 0 0 (by omega) rfl
    · intro a ha
      exact bX11_times_38 (nI v) a (nI 9) σ (fun _ => ⟨by rw [ha], Fr.rf, trivial⟩) (fun q => absurd q (by decide))
    · intro j a hj ha ih
      refine bX11_times_38 (nI v) a (nI j) σ (fun q => absurd q (nI_ge hj (by decide))) (fun _ => ih _ ?_)
      rw [digM hv hj, ha, bI_iff (not_congr (dg0 v j)), bI_nat, nI_add]
      show nI _ = nI (dgs v j + if dg v j = 0 then 0 else 1)
      by_cases c : dg v j = 0
      · rw [if_neg (fun q => q c), if_pos c]
      · rw [if_pos c, if_neg c]
  · have := h.2; simp only [Int32.lt_iff_toInt_lt, Int32.le_iff_toInt_le, Int64.lt_iff_toInt_lt, Int64.le_iff_toInt_le, ← Int32.toInt_inj, ← Int64.toInt_inj, Int32.toInt_toInt64, tim20, tim13, tim12, tim11, tim10, tim4, tim3, tim2, tim1, ti0, ti1, ti2, ti3, ti4, ti5, ti6, ti7, ti8, ti9, ti10, ti11, ti12, ti13, ti14, ti15, ti16, ti24, ti30, ti31, ti32, ti48, ti56, ti57, ti60, ti63, ti99, ti100, ti130, ti199, ti200, ti240, ti999, ti1000, ti20, ti21, ti22, ti23, ti65535, ti32767, ti144, tjm20, tjm13, tjm12, tjm11, tjm10, tjm4, tjm3, tjm2, tjm1, tj0, tj1, tj2, tj3, tj4, tj5, tj6, tj7, tj8, tj9, tj10, tj11, tj12, tj13, tj14, tj15, tj16, tj24, tj30, tj31, tj32, tj48, tj56, tj57, tj60, tj63, tj99, tj100, tj130, tj199, tj200, tj240, tj999, tj1000, tj20, tj21, tj22, tj23, tj65535, tj32767, tj144] at q this; omega
end TIMES

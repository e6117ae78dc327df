/-! SUMS by NETS -/
section SUMS
theorem lN_toInt32 (n : Nat) : (lN n).toInt32 = nI n := by
  apply Int32.toBitVec_inj.mp
  show (lN n).toBitVec.signExtend 32 = BitVec.ofNat 32 n
  rw [wb_tb, BitVec.signExtend_eq_setWidth_of_le _ (by decide)]
  apply BitVec.eq_of_toNat_eq
  rw [BitVec.toNat_setWidth, BitVec.toNat_ofNat, BitVec.toNat_ofNat]
  exact Nat.mod_mod_of_dvd n (Nat.pow_dvd_pow 2 (by decide))
theorem nI_modEq {a b : Nat} (h : nI a = nI b) : a % 2 ^ 32 = b % 2 ^ 32 := by
  have q : (BitVec.ofNat 32 a).toNat = (BitVec.ofNat 32 b).toNat := congrArg (fun x : Int32 => x.toBitVec.toNat) h
  rwa [BitVec.toNat_ofNat, BitVec.toNat_ofNat] at q
theorem widen (α : Nat) : ∃ a, a < 2 ^ 64 ∧ (nI α).toInt64 = lN a ∧ a % 2 ^ 32 = α % 2 ^ 32 := by
  obtain ⟨a, ha, e⟩ := wb_of (nI α).toInt64
  refine ⟨a, ha, e, nI_modEq ?_⟩
  rw [← lN_toInt32, ← e, Int32.toInt32_toInt64]
theorem maskW {α n : Nat} (hn : n ≤ 32) : (nI α).toInt64 &&& lN (2 ^ n - 1) = lN (α % 2 ^ n) := by
  obtain ⟨a, ha, e, h⟩ := widen α
  have hd : 2 ^ n ∣ 2 ^ 32 := Nat.pow_dvd_pow 2 hn
  rw [e, wb_mask ha (by omega)]
  congr 1
  rw [← Nat.mod_mod_of_dvd a hd, h, Nat.mod_mod_of_dvd α hd]
theorem bbC {n : Nat} (hn : n ≤ 32) (σ : St) : rX10_bitsBelow (nI n) σ = lN (2 ^ n - 1) := by
  unfold rX10_bitsBelow
  have h1 : 1 ≤ 2 ^ n := Nat.one_le_two_pow
  rw [shl1 (by omega), show lN (2 ^ n) = lN (2 ^ n - 1) + 1 from by rw [show (1 : Int64) = lN 1 from rfl, lN_add]; congr 1; omega, Int64.add_sub_cancel]
def sS (α β c i : Nat) : Nat := α % 2 ^ i + β % 2 ^ i + c
def cy (α β c i : Nat) : Nat := sS α β c i / 2 ^ i
theorem sS_succ (α β c i : Nat) : sS α β c (i + 1) = sS α β c i + 2 ^ i * (α / 2 ^ i % 2 + β / 2 ^ i % 2) := by
  unfold sS
  rw [Nat.mod_pow_succ, Nat.mod_pow_succ, Nat.mul_add]; omega
theorem sS_lt {α β c : Nat} (hc : c ≤ 1) (i : Nat) : sS α β c i < 2 * 2 ^ i := by
  have h1 : α % 2 ^ i < 2 ^ i := Nat.mod_lt _ (Nat.two_pow_pos i)
  have h2 : β % 2 ^ i < 2 ^ i := Nat.mod_lt _ (Nat.two_pow_pos i)
  unfold sS; omega
theorem cy_le {α β c : Nat} (hc : c ≤ 1) (i : Nat) : cy α β c i ≤ 1 := by
  have := sS_lt (α := α) (β := β) hc i
  have : cy α β c i < 2 := Nat.div_lt_of_lt_mul (by omega)
  omega
theorem sS_div (α β c i : Nat) : sS α β c (i + 1) / 2 ^ i = α / 2 ^ i % 2 + β / 2 ^ i % 2 + cy α β c i := by
  rw [sS_succ, Nat.add_mul_div_left _ _ (Nat.two_pow_pos i)]; unfold cy; omega
theorem cy_succ (α β c i : Nat) : cy α β c (i + 1) = (α / 2 ^ i % 2 + β / 2 ^ i % 2 + cy α β c i) / 2 := by
  rw [← sS_div]
  show sS α β c (i + 1) / 2 ^ (i + 1) = _
  rw [Nat.pow_succ, Nat.div_div_eq_div_mul]
theorem sS_bit (α β c i : Nat) : ∀ n, i < n → sS α β c n / 2 ^ i % 2 = (α / 2 ^ i % 2 + β / 2 ^ i % 2 + cy α β c i) % 2
  | n + 1, h => by
    by_cases e : i = n
    · subst e; rw [sS_div]
    · have ih := sS_bit α β c i n (by omega)
      rw [← ih, sS_succ]
      have ep : (2 : Nat) ^ n = 2 ^ i * (2 * 2 ^ (n - i - 1)) := by
        rw [← Nat.pow_succ', ← Nat.pow_add]; congr 1; omega
      rw [ep, Nat.mul_assoc, Nat.add_mul_div_left _ _ (Nat.two_pow_pos i), Nat.mul_assoc, Nat.add_mul_mod_self_left]
theorem bitS {α i : Nat} (hα : α < 2 ^ 32) (hi : i < 32) : (nI α >>> (nI i &&& 31)) &&& 1 = nI (α / 2 ^ i % 2) := by
  obtain ⟨j, hj, e⟩ := bit_of (nI α) (nI i)
  have h0 : bt ((nI α >>> (nI i &&& 31)) &&& 1) 0 = α.testBit i := by
    rw [b_and, b_sshr i hi _ (by decide), if_pos (by omega), show bt 1 0 = true from rfl, Bool.and_true]
    show (BitVec.ofNat 32 α).getLsbD (i + 0) = _
    rw [BitVec.getLsbD_ofNat]; simp [hi]
  rw [e] at h0
  rw [e]
  rw [Nat.testBit_eq_decide_div_mod_eq] at h0
  have : j = 0 ∨ j = 1 := by omega
  rcases this with rfl | rfl
  · have : ¬ α / 2 ^ i % 2 = 1 := fun q => by rw [decide_eq_true q] at h0; exact absurd h0 (by decide)
    congr 1; omega
  · have : α / 2 ^ i % 2 = 1 := by
      have h1 : decide (α / 2 ^ i % 2 = 1) = true := h0.symm.trans (by decide)
      exact of_decide_eq_true h1
    congr 1; omega
def bc (x : Int32) : Nat := if x = 0 then 0 else 1
theorem bc_le (x : Int32) : bc x ≤ 1 := by unfold bc; split <;> omega
theorem bc_bI (x : Int32) : bI (¬ x = 0) = nI (bc x) := by
  unfold bI bc
  by_cases h : x = 0
  · rw [if_neg (fun q => q h), if_pos h]; rfl
  · rw [if_pos h, if_neg h]; rfl
theorem nI_wide {n : Nat} (h : n < 2 ^ 31) : (nI n).toInt64 = lN n := by
  rw [← Int64.toInt_inj, Int32.toInt_toInt64, nI_toInt h]
  have : (lN n).toInt = n := by
    show (Int64.ofNat n).toInt = n
    rw [Int64.toInt_ofNat_of_lt (by omega)]
  exact this.symm
theorem p32 {n : Nat} (h : n ≤ 32) : 2 ^ n ≤ 4294967296 := Nat.pow_le_pow_right (n := 2) (by decide) h
theorem plainC {α β n : Nat} (hn : n ≤ 32) (x4 : Int32) (σ : St) : rX10_plainSum (nI n) (nI α) (nI β) x4 σ = lN (sS α β (bc x4) n) := by
  unfold rX10_plainSum
  have := bc_le x4
  rw [bbC hn, maskW hn, maskW hn, bc_bI, nI_wide (by omega), lN_add, lN_add]; rfl
theorem sumC {α β n : Nat} (hn : n ≤ 32) (x4 : Int32) (σ : St) : rX10_sumBits (nI n) (nI α) (nI β) x4 σ = lN (sS α β (bc x4) n % 2 ^ n) := by
  unfold rX10_sumBits
  have h1 := sS_lt (α := α) (β := β) (bc_le x4) n
  have h2 := p32 hn
  rw [plainC hn, bbC hn, wb_mask (by omega) (by omega)]
theorem carC {α β n : Nat} (hn : n ≤ 32) (x4 : Int32) (σ : St) : rX10_carryBits (nI n) (nI α) (nI β) x4 σ = lN ((sS α β (bc x4) n ^^^ ((α ^^^ β) % 2 ^ n)) / 2) := by
  unfold rX10_carryBits
  have h1 := sS_lt (α := α) (β := β) (bc_le x4) n
  have h2 := p32 hn
  rw [plainC hn, bbC hn, fb_xorI, maskW hn, fb_xorL, halve]
  have h3 : (α ^^^ β) % 2 ^ n < 2 ^ 34 := by
    have := Nat.mod_lt (α ^^^ β) (Nat.two_pow_pos n); omega
  have h4 : sS α β (bc x4) n < 2 ^ 34 := by omega
  exact Nat.lt_of_lt_of_le (Nat.xor_lt_two_pow h4 h3) (by decide)
theorem sum_eq {α β c n : Nat} : sS α β c n % 2 ^ n = mk (fun i => decide ((α / 2 ^ i % 2 + β / 2 ^ i % 2 + cy α β c i) % 2 = 1)) n := by
  refine Nat.eq_of_testBit_eq (fun i => ?_)
  rw [mk_bit, Nat.testBit_mod_two_pow, Nat.testBit_eq_decide_div_mod_eq]
  by_cases h : i < n
  · rw [sS_bit α β c i n h]
  · simp [h]
theorem car_eq {α β c n : Nat} (hc : c ≤ 1) : (sS α β c n ^^^ ((α ^^^ β) % 2 ^ n)) / 2 = mk (fun i => decide (cy α β c (i + 1) = 1)) n := by
  refine Nat.eq_of_testBit_eq (fun i => ?_)
  rw [mk_bit, Nat.testBit_div_two, Nat.testBit_xor, Nat.testBit_mod_two_pow, Nat.testBit_xor]
  have l1 := cy_le (α := α) (β := β) hc (i + 1)
  by_cases h : i + 1 < n
  · have h1 : (sS α β c n).testBit (i + 1) = decide ((α / 2 ^ (i + 1) % 2 + β / 2 ^ (i + 1) % 2 + cy α β c (i + 1)) % 2 = 1) := by
      rw [Nat.testBit_eq_decide_div_mod_eq, sS_bit α β c (i + 1) n h]
    rw [h1, decide_eq_true h, decide_eq_true (show i < n by omega), Bool.true_and, Bool.true_and, Nat.testBit_eq_decide_div_mod_eq, Nat.testBit_eq_decide_div_mod_eq]
    have a1 : α / 2 ^ (i + 1) % 2 < 2 := Nat.mod_lt _ (by decide)
    have a2 : β / 2 ^ (i + 1) % 2 < 2 := Nat.mod_lt _ (by decide)
    generalize α / 2 ^ (i + 1) % 2 = p at *
    generalize β / 2 ^ (i + 1) % 2 = q at *
    generalize cy α β c (i + 1) = w at *
    have : (p = 0 ∨ p = 1) ∧ (q = 0 ∨ q = 1) ∧ (w = 0 ∨ w = 1) := by omega
    obtain ⟨rfl | rfl, rfl | rfl, rfl | rfl⟩ := this <;> rfl
  · by_cases h2 : i + 1 = n
    · subst h2
      have h1 : (sS α β c (i + 1)).testBit (i + 1) = decide (cy α β c (i + 1) = 1) := by
        rw [Nat.testBit_eq_decide_div_mod_eq]
        show decide (cy α β c (i + 1) % 2 = 1) = _
        rw [Nat.mod_eq_of_lt (by omega)]
      rw [h1]; simp
    · have h1 : (sS α β c n).testBit (i + 1) = false := by
        refine Nat.testBit_lt_two_pow ?_
        have := sS_lt (α := α) (β := β) hc n
        have e : 2 ^ (n + 1) ≤ 2 ^ (i + 1) := Nat.pow_le_pow_right (by decide) (by omega)
        rw [Nat.pow_succ] at e; omega
      rw [h1, decide_eq_false h, decide_eq_false (show ¬ i < n by omega)]; rfl
theorem tX8_whole (d o n : Nat) (L : Nat → Nat) (ho : kd o = 7) (hn : n ≤ 32) (hL : ∀ i, L i ≤ i) (σ : St) (hs : sL o σ n L) : Ct yX8_whole MX8_whole (d + 2) [.ref o] σ (fun v σ' => v = some (.int (bI (op n L = 0))) ∧ σ' = σ) := by
  refine Ct.of mX8_whole.1 (Nat.le_of_ble_eq_true rfl) (bX8_whole_0 o σ ho ((tX8_openPlaces d o n L ho hn hL σ hs).mono ?_))
  rintro v s ⟨hv, hs⟩
  rw [hv, hs]
  exact bX8_whole_4 _ σ ⟨congrArg (fun z => some (Value.int z)) (bI_iff (nI0 (mk_lt _ hn))), rfl⟩
theorem bI1 {p : Prop} [Decidable p] : (¬ bI p = 0) ↔ p := by
  unfold bI
  by_cases h : p
  · rw [if_pos h]; exact ⟨fun _ => h, fun _ => by decide⟩
  · rw [if_neg h]; exact ⟨fun q => absurd rfl q, fun q => absurd q h⟩
theorem sh_b {b i : Nat} (hi : i < 32) (hb : b ≤ 1) (A : Nat) : lN A ||| ((nI b).toInt64 <<< ((nI i).toInt64 &&& 63)) = lN (if b = 1 then A ||| 2 ^ i else A) := by
  rw [nI_wide (by omega), wb_shl _ (by omega), fb_orL]
  have : b = 0 ∨ b = 1 := by omega
  rcases this with rfl | rfl
  · rw [if_neg (by decide), Nat.zero_mul, Nat.or_zero]
  · rw [if_pos rfl, Nat.one_mul]
theorem pub_sum (d : Nat) (x1 x2 x3 x4 x5 : Int32) (σ : St) (hR : RN σ) : PB yX10_sum MX10_sum (d + 3) yX11_sum MX11_sum (d + 3) [.int x1, .int x2, .int x3, .int x4, .int x5] σ [93, 94] [] (fun _ => True) := by
  obtain ⟨N, hN, e1, e2, hk⟩ := hR
  by_cases hx : (∃ k, k < N ∧ x1 = nI k) ∧ (0 : Int32) ≤ x5 ∧ x5 ≤ 1
  · obtain ⟨⟨k, hkN, rfl⟩, h51, h52⟩ := hx
    have k8 : k < 8 := by omega
    obtain ⟨n, D, R, hok, ⟨c1, c2, c3, c4⟩, hm⟩ := hk k hkN
    have n32 := hok.2.1
    have cc := (isC hN (nI k)).mpr ⟨k, hkN, rfl⟩
    have cm := (isM (by omega) (nI k)).mpr ⟨k, hkN, rfl⟩
    obtain ⟨g1, g2, g3, g4⟩ := nt_a k k8
    have e0 : gr 1 (nI k).toNatClampNeg = 32 + 6 * k := by rw [nI_clamp (by omega)]; exact g1
    obtain ⟨α, hα, rfl⟩ := wb_of32 x2
    obtain ⟨β, hβ, rfl⟩ := wb_of32 x3
    have h5 : (0 : Int64) ≤ x5.toInt64 ∧ x5.toInt64 ≤ (1 : Int64) := by
      simp only [Int32.lt_iff_toInt_lt, Int32.le_iff_toInt_le, Int64.lt_iff_toInt_lt, Int64.le_iff_toInt_le, ← Int32.toInt_inj, ← Int64.toInt_inj, Int32.toInt_toInt64, tim20, tim13, tim12, tim11, tim10, tim4, tim3, tim2, tim1, ti0, ti1, ti2, ti3, ti4, ti5, ti6, ti7, ti8, ti9, ti10, ti11, ti12, ti13, ti14, ti15, ti16, ti24, ti30, ti31, ti32, ti48, ti56, ti57, ti60, ti63, ti99, ti100, ti130, ti199, ti200, ti240, ti999, ti1000, ti20, ti21, ti22, ti23, ti65535, ti32767, ti144, tjm20, tjm13, tjm12, tjm11, tjm10, tjm4, tjm3, tjm2, tjm1, tj0, tj1, tj2, tj3, tj4, tj5, tj6, tj7, tj8, tj9, tj10, tj11, tj12, tj13, tj14, tj15, tj16, tj24, tj30, tj31, tj32, tj48, tj56, tj57, tj60, tj63, tj99, tj100, tj130, tj199, tj200, tj240, tj999, tj1000, tj20, tj21, tj22, tj23, tj65535, tj32767, tj144] at h51 h52 ⊢; exact ⟨h51, h52⟩
    refine Ct.of mX10_sum.1 (Nat.le_of_ble_eq_true rfl) (bX10_sum_0 (nI k) (nI α) (nI β) x4 x5 σ (fun _ q => ?_) (fun _ _ _ => ?_) (fun _ _ q => ?_) (fun q => absurd (by rw [e1]; exact cc) q))
    · exfalso; simp only [Int32.lt_iff_toInt_lt, Int32.le_iff_toInt_le, Int64.lt_iff_toInt_lt, Int64.le_iff_toInt_le, ← Int32.toInt_inj, ← Int64.toInt_inj, Int32.toInt_toInt64, tim20, tim13, tim12, tim11, tim10, tim4, tim3, tim2, tim1, ti0, ti1, ti2, ti3, ti4, ti5, ti6, ti7, ti8, ti9, ti10, ti11, ti12, ti13, ti14, ti15, ti16, ti24, ti30, ti31, ti32, ti48, ti56, ti57, ti60, ti63, ti99, ti100, ti130, ti199, ti200, ti240, ti999, ti1000, ti20, ti21, ti22, ti23, ti65535, ti32767, ti144, tjm20, tjm13, tjm12, tjm11, tjm10, tjm4, tjm3, tjm2, tjm1, tj0, tj1, tj2, tj3, tj4, tj5, tj6, tj7, tj8, tj9, tj10, tj11, tj12, tj13, tj14, tj15, tj16, tj24, tj30, tj31, tj32, tj48, tj56, tj57, tj60, tj63, tj99, tj100, tj130, tj199, tj200, tj240, tj999, tj1000, tj20, tj21, tj22, tj23, tj65535, tj32767, tj144] at q h51; omega
    · rw [e0, g3]
      refine (tX8_whole d _ n (lw R D) (nt_b k k8).1 n32 (lw_le R D) σ c3).mono ?_
      rintro v s ⟨hv, hs⟩
      rw [hv, hs]
      have ref : ∀ r : Int64, (op n (lw R D) = 0 → r = if x5 = 0 then lN (sS α β (bc x4) n % 2 ^ n) else lN ((sS α β (bc x4) n ^^^ ((α ^^^ β) % 2 ^ n)) / 2)) → (¬ op n (lw R D) = 0 → r = -2) → Ct yX11_sum MX11_sum (d + 3) [.ref 88, .int (nI k), .int (nI α), .int (nI β), .int x4, .int x5] σ (fun v2 σ2 => v2 = some (.long r) ∧ Fr [93, 94] [] σ σ2 ∧ True) := by
        intro r hr1 hr2
        refine Ct.of mX11_sum.1 (Nat.le_of_ble_eq_true rfl) (bX11_sum_0 (nI k) (nI α) (nI β) x4 x5 σ (fun q => absurd (by rw [e2]; exact cm) q) (fun _ _ => ?_) (fun _ q => absurd h5 q))
        refine (tX11_isWhole d k D n R k8 hok σ hm.1 hm.2.1 hm.2.2).mono ?_
        rintro v2 s2 ⟨hv2, hF2⟩
        rw [hv2]
        refine bX11_sum_28 (nI k) (nI α) (nI β) x4 x5 _ s2 (fun q => ?_) (fun q => ⟨?_, hF2, trivial⟩)
        · have hw := bI1.mp q
          rw [bc_bI]
          have w2 : s2.1 89 (nI k).toNatClampNeg = nI n := by rw [nI_clamp (by omega), hF2.1 89 (by decide) (by decide)]; exact hm.1
          have hc := bc_le x4
          refine loopI3 (fun x a b c => Run MX11_sum (d + 3) 56 [some (.ref 88), some (.int (nI k)), some (.int (nI α)), some (.int (nI β)), none, some (.int x5), some (.long a), none, some (.long b), none, some (.int c), some (.int x), none] [] s2 _) (fun i a b c => a = lN (mk (fun i => decide ((α / 2 ^ i % 2 + β / 2 ^ i % 2 + cy α β (bc x4) i) % 2 = 1)) i) ∧ b = lN (mk (fun i => decide (cy α β (bc x4) (i + 1) = 1)) i) ∧ c = nI (cy α β (bc x4) i)) n ?_ ?_ 0 0 0 _ (by omega) ⟨rfl, rfl, ?_⟩
          · rintro a b c ⟨ha, hb, _⟩
            refine bX11_sum_56 (nI k) (nI α) (nI β) x5 a b c (nI n) s2 (vp_in_nI k8 (by decide)) (fun _ => ⟨?_, hF2, trivial⟩) (fun q => absurd q (by rw [w2]; exact nI_nlt (Nat.le_refl _) (by omega)))
            rw [hr1 hw, ha, hb, sum_eq, car_eq hc]
          · rintro i a b c hi ⟨ha, hb, hcc⟩ ih
            refine bX11_sum_56 (nI k) (nI α) (nI β) x5 a b c (nI i) s2 (vp_in_nI k8 (by decide)) (fun q => absurd q (by rw [w2]; exact nI_ge hi (by omega))) (fun _ => ?_)
            have lc := cy_le (α := α) (β := β) hc i
            have lc2 := cy_le (α := α) (β := β) hc (i + 1)
            have es : ((nI α >>> (nI i &&& 31)) &&& 1) + ((nI β >>> (nI i &&& 31)) &&& 1) + c = nI (α / 2 ^ i % 2 + β / 2 ^ i % 2 + cy α β (bc x4) i) := by
              rw [bitS hα (by omega), bitS hβ (by omega), hcc, nI_add, nI_add]
            have a1 : α / 2 ^ i % 2 < 2 := Nat.mod_lt _ (by decide)
            have a2 : β / 2 ^ i % 2 < 2 := Nat.mod_lt _ (by decide)
            have es2 : nI (α / 2 ^ i % 2 + β / 2 ^ i % 2 + cy α β (bc x4) i) >>> ((1 : Int32) &&& 31) = nI (cy α β (bc x4) (i + 1)) := by
              have := shrk (n := α / 2 ^ i % 2 + β / 2 ^ i % 2 + cy α β (bc x4) i) (k := 1) (by omega) (by decide)
              rw [cy_succ]; exact this
            rw [es, es2, and1 (by omega), ha, hb, sh_b (by omega) (by omega), sh_b (by omega) lc2]
            refine ih _ _ _ ⟨?_, ?_, rfl⟩
            · show _ = lN (if decide _ = true then _ else _); simp only [decide_eq_true_eq]
            · show _ = lN (if decide _ = true then _ else _); simp only [decide_eq_true_eq]
          · unfold cy sS; rw [Nat.pow_zero, Nat.mod_one, Nat.mod_one, Nat.div_one]; congr 1; omega
        · have hw : ¬ op n (lw R D) = 0 := fun h => absurd q (bI1.mpr h)
          rw [hr2 hw]
      refine bX10_sum_35 (nI α) (nI β) x4 x5 _ _ σ g2 (fun q => ?_) (fun q => ?_)
      · rw [c1, sumC n32, carC n32]
        exact ⟨_, rfl, ref _ (fun _ => rfl) (fun h => absurd (bI1.mp q) h)⟩
      · exact ⟨_, rfl, ref _ (fun h => absurd q (bI1.mpr h)) (fun _ => rfl)⟩
    · exfalso; simp only [Int32.lt_iff_toInt_lt, Int32.le_iff_toInt_le, Int64.lt_iff_toInt_lt, Int64.le_iff_toInt_le, ← Int32.toInt_inj, ← Int64.toInt_inj, Int32.toInt_toInt64, tim20, tim13, tim12, tim11, tim10, tim4, tim3, tim2, tim1, ti0, ti1, ti2, ti3, ti4, ti5, ti6, ti7, ti8, ti9, ti10, ti11, ti12, ti13, ti14, ti15, ti16, ti24, ti30, ti31, ti32, ti48, ti56, ti57, ti60, ti63, ti99, ti100, ti130, ti199, ti200, ti240, ti999, ti1000, ti20, ti21, ti22, ti23, ti65535, ti32767, ti144, tjm20, tjm13, tjm12, tjm11, tjm10, tjm4, tjm3, tjm2, tjm1, tj0, tj1, tj2, tj3, tj4, tj5, tj6, tj7, tj8, tj9, tj10, tj11, tj12, tj13, tj14, tj15, tj16, tj24, tj30, tj31, tj32, tj48, tj56, tj57, tj60, tj63, tj99, tj100, tj130, tj199, tj200, tj240, tj999, tj1000, tj20, tj21, tj22, tj23, tj65535, tj32767, tj144] at q h52; omega
  · have ref : Ct yX11_sum MX11_sum (d + 3) [.ref 88, .int x1, .int x2, .int x3, .int x4, .int x5] σ (fun v2 σ2 => v2 = some (.long (-1)) ∧ Fr [93, 94] [] σ σ2 ∧ True) := by
      refine Ct.of mX11_sum.1 (Nat.le_of_ble_eq_true rfl) (bX11_sum_0 x1 x2 x3 x4 x5 σ (fun _ => ⟨rfl, Fr.rf, trivial⟩) (fun q1 q2 => ?_) (fun _ _ => ⟨rfl, Fr.rf, trivial⟩))
      rw [e2] at q1
      refine absurd ⟨(isM (by omega) x1).mp q1, ?_⟩ hx
      simp only [Int32.lt_iff_toInt_lt, Int32.le_iff_toInt_le, Int64.lt_iff_toInt_lt, Int64.le_iff_toInt_le, ← Int32.toInt_inj, ← Int64.toInt_inj, Int32.toInt_toInt64, tim20, tim13, tim12, tim11, tim10, tim4, tim3, tim2, tim1, ti0, ti1, ti2, ti3, ti4, ti5, ti6, ti7, ti8, ti9, ti10, ti11, ti12, ti13, ti14, ti15, ti16, ti24, ti30, ti31, ti32, ti48, ti56, ti57, ti60, ti63, ti99, ti100, ti130, ti199, ti200, ti240, ti999, ti1000, ti20, ti21, ti22, ti23, ti65535, ti32767, ti144, tjm20, tjm13, tjm12, tjm11, tjm10, tjm4, tjm3, tjm2, tjm1, tj0, tj1, tj2, tj3, tj4, tj5, tj6, tj7, tj8, tj9, tj10, tj11, tj12, tj13, tj14, tj15, tj16, tj24, tj30, tj31, tj32, tj48, tj56, tj57, tj60, tj63, tj99, tj100, tj130, tj199, tj200, tj240, tj999, tj1000, tj20, tj21, tj22, tj23, tj65535, tj32767, tj144] at q2 ⊢; exact q2
    refine Ct.of mX10_sum.1 (Nat.le_of_ble_eq_true rfl) (bX10_sum_0 x1 x2 x3 x4 x5 σ (fun _ _ => ⟨_, rfl, ref⟩) (fun q1 q2 q3 => ?_) (fun _ _ _ => ⟨_, rfl, ref⟩) (fun _ => ⟨_, rfl, ref⟩))
    rw [e1] at q1
    exact absurd ⟨(isC hN x1).mp q1, q2, q3⟩ hx
end SUMS

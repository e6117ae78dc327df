/-! TOLD: both -/
section TOLDP
theorem nt_c : ∀ k, k < 8 → ln (34 + 6 * k) = 32 := by decide +kernel
def FO : List Nat := [8, 9, 10, 11, 12, 13, 93, 94, 96]
theorem pub_told (d : Nat) (x1 x2 : Int32) (σ : St) (hR : RN σ) : PB yX10_told MX10_told (d + 4) yX11_told MX11_told (d + 3) [.int x1, .int x2] σ FO [] (fun _ => True) := by
  obtain ⟨N, hN, e1, e2, hk⟩ := hR
  by_cases hx : ∃ k, k < N ∧ x1 = nI k
  · obtain ⟨k, hkN, rfl⟩ := hx
    have k8 : k < 8 := by omega
    obtain ⟨n, D, R, hok, hc, hm⟩ := hk k hkN
    have n32 := hok.2.1
    have n2 := hok.1
    have D32 := hok.2.2.1
    have hrow := hok.2.2.2
    have cc := (isC hN (nI k)).mpr ⟨k, hkN, rfl⟩
    have cm := (isM (by omega) (nI k)).mpr ⟨k, hkN, rfl⟩
    obtain ⟨g1, g2, g3, g4⟩ := nt_a k k8
    obtain ⟨gb0, gb1, _, _, g5⟩ := nt_b k k8
    have kc : (nI k).toNatClampNeg = k := nI_clamp (by omega)
    have e0 : gr 1 (nI k).toNatClampNeg = 32 + 6 * k := by rw [kc]; exact g1
    have eD : ((99 : Int32) + nI D).toInt = 99 + D := by
      rw [show (99 : Int32) + nI D = zI (99 + D) from by (simp only [nI_zI, zl0, zl1, zl2, zl3, zl4, zl5, zl6, zl7, zl8, zl9, zl10, zl11, zl12, zl13, zl14, zl15, zl16, zl24, zl30, zl31, zl32, zl48, zl56, zl57, zl60, zl63, zl99, zl100, zl130, zl199, zl200, zl240, zl999, zl1000, ← zI_add, ← zI_sub, ← zI_mul, ← zI_neg] <;> first | rfl | (congr 1; omega)), zI_toInt (by omega) (by omega)]
    have en : ((199 : Int32) + nI n).toInt = 199 + n := by
      rw [show (199 : Int32) + nI n = zI (199 + n) from by (simp only [nI_zI, zl0, zl1, zl2, zl3, zl4, zl5, zl6, zl7, zl8, zl9, zl10, zl11, zl12, zl13, zl14, zl15, zl16, zl24, zl30, zl31, zl32, zl48, zl56, zl57, zl60, zl63, zl99, zl100, zl130, zl199, zl200, zl240, zl999, zl1000, ← zI_add, ← zI_sub, ← zI_mul, ← zI_neg] <;> first | rfl | (congr 1; omega)), zI_toInt (by omega) (by omega)]
    have eD' : ((100 : Int32) + nI D).toInt = 100 + D := by
      rw [show (100 : Int32) + nI D = zI (100 + D) from by (simp only [nI_zI, zl0, zl1, zl2, zl3, zl4, zl5, zl6, zl7, zl8, zl9, zl10, zl11, zl12, zl13, zl14, zl15, zl16, zl24, zl30, zl31, zl32, zl48, zl56, zl57, zl60, zl63, zl99, zl100, zl130, zl199, zl200, zl240, zl999, zl1000, ← zI_add, ← zI_sub, ← zI_mul, ← zI_neg] <;> first | rfl | (congr 1; omega)), zI_toInt (by omega) (by omega)]
    have en' : ((200 : Int32) + nI n).toInt = 200 + n := by
      rw [show (200 : Int32) + nI n = zI (200 + n) from by (simp only [nI_zI, zl0, zl1, zl2, zl3, zl4, zl5, zl6, zl7, zl8, zl9, zl10, zl11, zl12, zl13, zl14, zl15, zl16, zl24, zl30, zl31, zl32, zl48, zl56, zl57, zl60, zl63, zl99, zl100, zl130, zl199, zl200, zl240, zl999, zl1000, ← zI_add, ← zI_sub, ← zI_mul, ← zI_neg] <;> first | rfl | (congr 1; omega)), zI_toInt (by omega) (by omega)]
    have mA : ((100 : Int64) ≤ x2.toInt64 ∧ x2.toInt64 ≤ ((99 : Int32) + nI D).toInt64) ↔ (100 ≤ x2.toInt ∧ x2.toInt < 100 + D) := by
      simp only [Int64.le_iff_toInt_le, Int32.toInt_toInt64, tj100, eD]; omega
    have mB : ((200 : Int64) ≤ x2.toInt64 ∧ x2.toInt64 ≤ ((199 : Int32) + nI n).toInt64) ↔ (200 ≤ x2.toInt ∧ x2.toInt < 200 + n) := by
      simp only [Int64.le_iff_toInt_le, Int32.toInt_toInt64, tj200, en]; omega
    have w89 : σ.1 89 (nI k).toNatClampNeg = nI n := by rw [kc]; exact hm.1
    have w90 : σ.1 90 (nI k).toNatClampNeg = nI D := by rw [kc]; exact hm.2.1
    have nei : (¬ (100 ≤ x2.toInt ∧ x2.toInt < 100 + D)) → (¬ (200 ≤ x2.toInt ∧ x2.toInt < 200 + n)) → Ct yX4_look MX4_look (d + 3) [.ref 8, .ref (gr 1 (nI k).toNatClampNeg)] σ (fun v σ1 => Run MX10_told (d + 4) 81 [some (.ref 0), none, some (.int x2), some (.ref (gr 1 (nI k).toNatClampNeg))] (v.toList ++ []) σ1 (fun v σ1 => ∃ r, v = some r ∧ Ct yX11_told MX11_told (d + 3) [.ref 88, .int (nI k), .int x2] σ1 (fun v2 σ2 => v2 = some r ∧ Fr FO [] σ σ2 ∧ True))) := by
      intro hA hB
      rw [e0]
      refine (tX4_look d k n D R k8 hok σ hc).mono ?_
      rintro v s ⟨hv, ⟨a0, a1, a2, a3, a4⟩, hF⟩
      rw [hv]
      have hF' : Fr FO [] σ s := hF.mono (by decide) (by decide)
      have hc' : cN k n D R s := hc.keep k8 (fun i i1 i2 => hF.1 i (by simp [FJ]; omega) (by omega))
      have hm' : mN k n D R s := hm.keep (by rw [hF.1 89 (by decide) (by decide)]) (by rw [hF.1 90 (by decide) (by decide)]) (fun r _ => by rw [hF.2.2 91 (by decide)])
      have go : Run MX11_told (d + 3) 105 [some (.ref 88), some (.int (nI k)), some (.int x2), some (.int 0), some (.int 0), some (.int 0), some (.int 0), some (.int 0), some (.int 0), none, none] [] s (fun v2 σ2 => v2 = some (.int (rs R n D x2)) ∧ Fr FO [] σ σ2 ∧ True) := (refTold d k n D R x2 k8 hok s hm').mono (fun v s' h => ⟨h.1, hF'.tr (h.2.mono (by decide) (by decide)), trivial⟩)
      have w1 : s.1 88 0 = nI N := by rw [hF.2.1 0 (by decide)]; exact e2
      have v89 : s.1 89 (nI k).toNatClampNeg = nI n := by rw [kc]; exact hm'.1
      have v90 : s.1 90 (nI k).toNatClampNeg = nI D := by rw [kc]; exact hm'.2.1
      have ref : Ct yX11_told MX11_told (d + 3) [.ref 88, .int (nI k), .int x2] s (fun v2 σ2 => v2 = some (.int (rs R n D x2)) ∧ Fr FO [] σ σ2 ∧ True) := by
        refine Ct.of mX11_told.1 (Nat.le_of_ble_eq_true rfl) (bX11_told_0 (nI k) x2 s (fun _ => vp_in_nI k8 (by decide)) (fun _ q => absurd (mA.mp (by rw [← v90]; exact q)) hA) (fun _ _ _ => go) (fun _ _ q => absurd (mB.mp (by rw [← v89]; exact q)) hB) (fun _ q => absurd (mA.mp (by rw [← v90]; exact q)) hA) (fun q => absurd (by rw [w1]; exact cm) q))
      have same : ∀ z : Int32, z = rs R n D x2 → ∃ r, some (Value.int z) = some r ∧ Ct yX11_told MX11_told (d + 3) [.ref 88, .int (nI k), .int x2] s (fun v2 σ2 => v2 = some r ∧ Fr FO [] σ σ2 ∧ True) := fun z hz => ⟨_, rfl, by rw [hz]; exact ref⟩
      refine bX10_told_81 x2 _ s g2 (fun q => same _ ?_) (fun q => same _ ?_) (fun q => same _ ?_) (fun q => ?_) (fun q => same _ ?_) (fun q => same _ ?_) (fun q => same _ ?_) (fun q => same _ ?_) (fun q => same _ ?_)
      · rw [hc'.1, q]; rfl
      · rw [hc'.2.1, q]; rfl
      · rw [a0, q]; rfl
      · rw [g3]
        refine (tX8_whole (d + 1) _ n (lw R D) gb0 n32 (lw_le R D) s hc'.2.2.1).mono ?_
        rintro v2 s2 ⟨hv2, hs2⟩
        rw [hv2, hs2]
        refine bX10_told_153 _ s (same _ ?_)
        rw [q]
        exact bI_iff bI1
      · rw [a1, q]; rfl
      · rw [a2, q]; rfl
      · rw [a3, q]; rfl
      · rw [a4, q]; rfl
      · have : ∀ z : Int32, 0 ≤ z.toInt → z.toInt ≤ 7 → x2 ≠ z := fun z z1 z2 e => by rw [e] at q; omega
        unfold rs
        rw [if_neg (this 0 (by decide) (by decide)), if_neg (this 1 (by decide) (by decide)), if_neg (this 2 (by decide) (by decide)), if_neg (this 3 (by decide) (by decide)), if_neg (this 4 (by decide) (by decide)), if_neg (this 5 (by decide) (by decide)), if_neg (this 6 (by decide) (by decide)), if_neg (this 7 (by decide) (by decide))]
    have low : (200 ≤ x2.toInt ∧ x2.toInt < 200 + n) → ∃ r, some (Value.int (aG (gr (gr (gr 1 (nI k).toNatClampNeg) 2) 1) (x2 - 200) σ)) = some r ∧ Ct yX11_told MX11_told (d + 3) [.ref 88, .int (nI k), .int x2] σ (fun v2 σ2 => v2 = some r ∧ Fr FO [] σ σ2 ∧ True) := by
      intro hB
      have nA : ¬ (100 ≤ x2.toInt ∧ x2.toInt < 100 + D) := by omega
      obtain ⟨i, hi, ei⟩ : ∃ i : Nat, i < n ∧ x2 - 200 = nI i := by
        refine ⟨(x2.toInt - 200).toNat, by omega, ?_⟩
        rw [nI_zI, zI_of x2, show (200 : Int32) = zI 200 from rfl, ← zI_sub]
        congr 1
        rw [zI_toInt (by omega) (by omega)]; omega
      refine ⟨_, rfl, Ct.of mX11_told.1 (Nat.le_of_ble_eq_true rfl) (bX11_told_0 (nI k) x2 σ (fun _ => vp_in_nI k8 (by decide)) (fun _ q => absurd (mA.mp (by rw [← w90]; exact q)) nA) (fun _ _ q => absurd (by rw [w89]; exact mB.mpr hB) q) (fun _ _ _ => ?_) (fun _ q => absurd (mA.mp (by rw [← w90]; exact q)) nA) (fun q => absurd (by rw [e2]; exact cm) q))⟩
      rw [w90]
      refine (tX11_goesTo (d + 1) k D D n R k8 hok (Nat.le_refl _) σ hm.2.2).mono ?_
      rintro v s ⟨hv, hL, hF⟩
      rw [hv]
      refine bX11_told_77 x2 s (by rw [ei]; exact vp_in_nI (by omega) (by decide)) ⟨?_, hF.mono (by decide) (by decide), trivial⟩
      rw [ei, nI_clamp (by omega), hL i (by omega), e0, g3, gb1, aG_in (a := 34 + 6 * k) (n := 32) (nt_c k k8) (by omega)]
      have := hc.2.2.1.2 i hi
      rw [gb1] at this
      rw [this]
    refine Ct.of mX10_told.1 (Nat.le_of_ble_eq_true rfl) (bX10_told_0 (nI k) x2 σ (fun _ p q => ?_) (fun _ p q _ => ?_) (fun _ p q _ => ?_) (fun _ p q t => ?_) (fun _ p q t u => ?_) (fun _ p q t u => ?_) (fun _ p q => ?_) (fun q => absurd (by rw [e1]; exact cc) q))
    · simp only [Int32.lt_iff_toInt_lt, Int32.le_iff_toInt_le, Int64.lt_iff_toInt_lt, Int64.le_iff_toInt_le, ← Int32.toInt_inj, ← Int64.toInt_inj, Int32.toInt_toInt64, tim20, tim13, tim12, tim11, tim10, tim4, tim3, tim2, tim1, ti0, ti1, ti2, ti3, ti4, ti5, ti6, ti7, ti8, ti9, ti10, ti11, ti12, ti13, ti14, ti15, ti16, ti24, ti30, ti31, ti32, ti48, ti56, ti57, ti60, ti63, ti99, ti100, ti130, ti199, ti200, ti240, ti999, ti1000, ti20, ti21, ti22, ti23, ti65535, ti32767, ti144, tjm20, tjm13, tjm12, tjm11, tjm10, tjm4, tjm3, tjm2, tjm1, tj0, tj1, tj2, tj3, tj4, tj5, tj6, tj7, tj8, tj9, tj10, tj11, tj12, tj13, tj14, tj15, tj16, tj24, tj30, tj31, tj32, tj48, tj56, tj57, tj60, tj63, tj99, tj100, tj130, tj199, tj200, tj240, tj999, tj1000, tj20, tj21, tj22, tj23, tj65535, tj32767, tj144] at p q; exact nei (by omega) (by omega)
    · exfalso; simp only [Int32.lt_iff_toInt_lt, Int32.le_iff_toInt_le, Int64.lt_iff_toInt_lt, Int64.le_iff_toInt_le, ← Int32.toInt_inj, ← Int64.toInt_inj, Int32.toInt_toInt64, tim20, tim13, tim12, tim11, tim10, tim4, tim3, tim2, tim1, ti0, ti1, ti2, ti3, ti4, ti5, ti6, ti7, ti8, ti9, ti10, ti11, ti12, ti13, ti14, ti15, ti16, ti24, ti30, ti31, ti32, ti48, ti56, ti57, ti60, ti63, ti99, ti100, ti130, ti199, ti200, ti240, ti999, ti1000, ti20, ti21, ti22, ti23, ti65535, ti32767, ti144, tjm20, tjm13, tjm12, tjm11, tjm10, tjm4, tjm3, tjm2, tjm1, tj0, tj1, tj2, tj3, tj4, tj5, tj6, tj7, tj8, tj9, tj10, tj11, tj12, tj13, tj14, tj15, tj16, tj24, tj30, tj31, tj32, tj48, tj56, tj57, tj60, tj63, tj99, tj100, tj130, tj199, tj200, tj240, tj999, tj1000, tj20, tj21, tj22, tj23, tj65535, tj32767, tj144] at p q; omega
    · exfalso; simp only [Int32.lt_iff_toInt_lt, Int32.le_iff_toInt_le, Int64.lt_iff_toInt_lt, Int64.le_iff_toInt_le, ← Int32.toInt_inj, ← Int64.toInt_inj, Int32.toInt_toInt64, tim20, tim13, tim12, tim11, tim10, tim4, tim3, tim2, tim1, ti0, ti1, ti2, ti3, ti4, ti5, ti6, ti7, ti8, ti9, ti10, ti11, ti12, ti13, ti14, ti15, ti16, ti24, ti30, ti31, ti32, ti48, ti56, ti57, ti60, ti63, ti99, ti100, ti130, ti199, ti200, ti240, ti999, ti1000, ti20, ti21, ti22, ti23, ti65535, ti32767, ti144, tjm20, tjm13, tjm12, tjm11, tjm10, tjm4, tjm3, tjm2, tjm1, tj0, tj1, tj2, tj3, tj4, tj5, tj6, tj7, tj8, tj9, tj10, tj11, tj12, tj13, tj14, tj15, tj16, tj24, tj30, tj31, tj32, tj48, tj56, tj57, tj60, tj63, tj99, tj100, tj130, tj199, tj200, tj240, tj999, tj1000, tj20, tj21, tj22, tj23, tj65535, tj32767, tj144] at p q; omega
    · rw [e0, hc.2.1] at q
      simp only [Int32.lt_iff_toInt_lt, Int32.le_iff_toInt_le, Int64.lt_iff_toInt_lt, Int64.le_iff_toInt_le, ← Int32.toInt_inj, ← Int64.toInt_inj, Int32.toInt_toInt64, tim20, tim13, tim12, tim11, tim10, tim4, tim3, tim2, tim1, ti0, ti1, ti2, ti3, ti4, ti5, ti6, ti7, ti8, ti9, ti10, ti11, ti12, ti13, ti14, ti15, ti16, ti24, ti30, ti31, ti32, ti48, ti56, ti57, ti60, ti63, ti99, ti100, ti130, ti199, ti200, ti240, ti999, ti1000, ti20, ti21, ti22, ti23, ti65535, ti32767, ti144, tjm20, tjm13, tjm12, tjm11, tjm10, tjm4, tjm3, tjm2, tjm1, tj0, tj1, tj2, tj3, tj4, tj5, tj6, tj7, tj8, tj9, tj10, tj11, tj12, tj13, tj14, tj15, tj16, tj24, tj30, tj31, tj32, tj48, tj56, tj57, tj60, tj63, tj99, tj100, tj130, tj199, tj200, tj240, tj999, tj1000, tj20, tj21, tj22, tj23, tj65535, tj32767, tj144] at p q t; rw [eD'] at q; exact nei (by omega) (by omega)
    · rw [e0, hc.2.1] at q
      rw [e0, hc.1] at u
      simp only [Int32.lt_iff_toInt_lt, Int32.le_iff_toInt_le, Int64.lt_iff_toInt_lt, Int64.le_iff_toInt_le, ← Int32.toInt_inj, ← Int64.toInt_inj, Int32.toInt_toInt64, tim20, tim13, tim12, tim11, tim10, tim4, tim3, tim2, tim1, ti0, ti1, ti2, ti3, ti4, ti5, ti6, ti7, ti8, ti9, ti10, ti11, ti12, ti13, ti14, ti15, ti16, ti24, ti30, ti31, ti32, ti48, ti56, ti57, ti60, ti63, ti99, ti100, ti130, ti199, ti200, ti240, ti999, ti1000, ti20, ti21, ti22, ti23, ti65535, ti32767, ti144, tjm20, tjm13, tjm12, tjm11, tjm10, tjm4, tjm3, tjm2, tjm1, tj0, tj1, tj2, tj3, tj4, tj5, tj6, tj7, tj8, tj9, tj10, tj11, tj12, tj13, tj14, tj15, tj16, tj24, tj30, tj31, tj32, tj48, tj56, tj57, tj60, tj63, tj99, tj100, tj130, tj199, tj200, tj240, tj999, tj1000, tj20, tj21, tj22, tj23, tj65535, tj32767, tj144] at p q t u; rw [eD'] at q; rw [en'] at u; exact nei (by omega) (by omega)
    · rw [e0, hc.1] at u
      simp only [Int32.lt_iff_toInt_lt, Int32.le_iff_toInt_le, Int64.lt_iff_toInt_lt, Int64.le_iff_toInt_le, ← Int32.toInt_inj, ← Int64.toInt_inj, Int32.toInt_toInt64, tim20, tim13, tim12, tim11, tim10, tim4, tim3, tim2, tim1, ti0, ti1, ti2, ti3, ti4, ti5, ti6, ti7, ti8, ti9, ti10, ti11, ti12, ti13, ti14, ti15, ti16, ti24, ti30, ti31, ti32, ti48, ti56, ti57, ti60, ti63, ti99, ti100, ti130, ti199, ti200, ti240, ti999, ti1000, ti20, ti21, ti22, ti23, ti65535, ti32767, ti144, tjm20, tjm13, tjm12, tjm11, tjm10, tjm4, tjm3, tjm2, tjm1, tj0, tj1, tj2, tj3, tj4, tj5, tj6, tj7, tj8, tj9, tj10, tj11, tj12, tj13, tj14, tj15, tj16, tj24, tj30, tj31, tj32, tj48, tj56, tj57, tj60, tj63, tj99, tj100, tj130, tj199, tj200, tj240, tj999, tj1000, tj20, tj21, tj22, tj23, tj65535, tj32767, tj144] at t u; rw [en'] at u; exact low ⟨t, u⟩
    · rw [e0, hc.2.1] at q
      simp only [Int32.lt_iff_toInt_lt, Int32.le_iff_toInt_le, Int64.lt_iff_toInt_lt, Int64.le_iff_toInt_le, ← Int32.toInt_inj, ← Int64.toInt_inj, Int32.toInt_toInt64, tim20, tim13, tim12, tim11, tim10, tim4, tim3, tim2, tim1, ti0, ti1, ti2, ti3, ti4, ti5, ti6, ti7, ti8, ti9, ti10, ti11, ti12, ti13, ti14, ti15, ti16, ti24, ti30, ti31, ti32, ti48, ti56, ti57, ti60, ti63, ti99, ti100, ti130, ti199, ti200, ti240, ti999, ti1000, ti20, ti21, ti22, ti23, ti65535, ti32767, ti144, tjm20, tjm13, tjm12, tjm11, tjm10, tjm4, tjm3, tjm2, tjm1, tj0, tj1, tj2, tj3, tj4, tj5, tj6, tj7, tj8, tj9, tj10, tj11, tj12, tj13, tj14, tj15, tj16, tj24, tj30, tj31, tj32, tj48, tj56, tj57, tj60, tj63, tj99, tj100, tj130, tj199, tj200, tj240, tj999, tj1000, tj20, tj21, tj22, tj23, tj65535, tj32767, tj144] at p q; rw [eD'] at q
      obtain ⟨r, hr, er⟩ : ∃ r : Nat, r < D ∧ x2 - 100 = nI r := by
        refine ⟨(x2.toInt - 100).toNat, by omega, ?_⟩
        rw [nI_zI, zI_of x2, show (100 : Int32) = zI 100 from rfl, ← zI_sub]
        congr 1
        rw [zI_toInt (by omega) (by omega)]; omega
      have hm32 := okR_lt n32 (hrow r hr).2
      rw [er, e0, g4, aG_in g5 (by omega), hc.2.2.2 r hr, bitsC hm32]
      refine ⟨_, rfl, Ct.of mX11_told.1 (Nat.le_of_ble_eq_true rfl) (bX11_told_0 (nI k) x2 σ (fun _ => vp_in_nI k8 (by decide)) (fun _ _ => by rw [er, cellsOf_nI k8 (by omega)]; exact vp_in_nI (by omega) (by decide)) (fun _ q2 => absurd (by rw [w90]; exact mA.mpr ⟨p, q⟩) q2) (fun _ q2 => absurd (by rw [w90]; exact mA.mpr ⟨p, q⟩) q2) (fun _ _ => ?_) (fun q => absurd (by rw [e2]; exact cm) q))⟩
      rw [er, rX11_cellsOf_nI k8 (by omega), hm.2.2 r hr]
      refine (tX11_bits (d + 2) (R r) hm32 σ).mono ?_
      rintro v s ⟨hv, hs⟩
      rw [hv, hs]
      exact bX11_told_43 _ σ ⟨rfl, Fr.rf, trivial⟩
  · have cc : ¬ (0 ≤ x1 ∧ x1 < σ.1 0 1 ∧ x1 < 8) := fun q => hx ((isC hN x1).mp (by rw [← e1]; exact q))
    have cm : ¬ ((0 : Int64) ≤ x1.toInt64 ∧ x1.toInt64 ≤ (σ.1 88 0 - 1).toInt64) := fun q => hx ((isM (by omega) x1).mp (by rw [← e2]; exact q))
    exact Ct.of mX10_told.1 (Nat.le_of_ble_eq_true rfl) (bX10_told_0 x1 x2 σ (fun q => absurd q cc) (fun q => absurd q cc) (fun q => absurd q cc) (fun q => absurd q cc) (fun q => absurd q cc) (fun q => absurd q cc) (fun q => absurd q cc) (fun _ => ⟨_, rfl, Ct.of mX11_told.1 (Nat.le_of_ble_eq_true rfl) (bX11_told_0 x1 x2 σ (fun q => absurd q cm) (fun q => absurd q cm) (fun q => absurd q cm) (fun q => absurd q cm) (fun q => absurd q cm) (fun _ => ⟨rfl, Fr.rf, trivial⟩))⟩))
end TOLDP

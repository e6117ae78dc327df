section SMALL
/-- C, F, STARTS -/
def RP (σ : St) : Prop := (∃ c f, 1 ≤ c ∧ c ≤ 9 ∧ f ≤ 9 ∧ σ.1 14 0 = nI c ∧ σ.1 88 4 = nI c ∧ σ.1 14 1 = nI f ∧ σ.1 88 5 = nI f) ∧ ∀ i, i < 32 → ∃ t, t ≤ 99 ∧ σ.1 15 i = nI t ∧ σ.1 92 i = nI t
theorem pub_pace (d : Nat) (x1 x2 : Int32) (σ : St) (hR : RP σ) : PB yX10_pace MX10_pace d yX11_pace MX11_pace (d + 1) [.int x1, .int x2] σ [14] [4, 5] RP := by
  by_cases hg : 1 ≤ x1.toInt ∧ x1.toInt < (10 : Nat) ∧ 0 ≤ x2.toInt ∧ x2.toInt < (10 : Nat)
  · obtain ⟨c, hc, e1⟩ := ofI (x := x1) (n := 10) (by omega) hg.2.1 (by decide)
    obtain ⟨f, hf, e2⟩ := ofI hg.2.2.1 hg.2.2.2 (by decide)
    have c1 : 1 ≤ c := by have := hg.1; rw [e1, nI_toInt (by omega)] at this; omega
    refine Ct.of mX10_pace.1 (Nat.le_of_ble_eq_true rfl) (bX10_pace_0 x1 x2 σ (fun a => False.elim (by simp only [Int32.lt_iff_toInt_lt, Int32.le_iff_toInt_le, Int64.lt_iff_toInt_lt, Int64.le_iff_toInt_le, ← Int32.toInt_inj, ← Int64.toInt_inj, Int32.toInt_toInt64, tim20, tim13, tim12, tim11, tim10, tim4, tim3, tim2, tim1, ti0, ti1, ti2, ti3, ti4, ti5, ti6, ti7, ti8, ti9, ti10, ti11, ti12, ti13, ti14, ti15, ti16, ti24, ti30, ti31, ti32, ti48, ti56, ti57, ti60, ti63, ti99, ti100, ti130, ti199, ti200, ti240, ti999, ti1000, ti20, ti21, ti22, ti23, ti65535, ti32767, ti144, tjm20, tjm13, tjm12, tjm11, tjm10, tjm4, tjm3, tjm2, tjm1, tj0, tj1, tj2, tj3, tj4, tj5, tj6, tj7, tj8, tj9, tj10, tj11, tj12, tj13, tj14, tj15, tj16, tj24, tj30, tj31, tj32, tj48, tj56, tj57, tj60, tj63, tj99, tj100, tj130, tj199, tj200, tj240, tj999, tj1000, tj20, tj21, tj22, tj23, tj65535, tj32767, tj144] at a; omega)) (fun a b => False.elim (by simp only [Int32.lt_iff_toInt_lt, Int32.le_iff_toInt_le, Int64.lt_iff_toInt_lt, Int64.le_iff_toInt_le, ← Int32.toInt_inj, ← Int64.toInt_inj, Int32.toInt_toInt64, tim20, tim13, tim12, tim11, tim10, tim4, tim3, tim2, tim1, ti0, ti1, ti2, ti3, ti4, ti5, ti6, ti7, ti8, ti9, ti10, ti11, ti12, ti13, ti14, ti15, ti16, ti24, ti30, ti31, ti32, ti48, ti56, ti57, ti60, ti63, ti99, ti100, ti130, ti199, ti200, ti240, ti999, ti1000, ti20, ti21, ti22, ti23, ti65535, ti32767, ti144, tjm20, tjm13, tjm12, tjm11, tjm10, tjm4, tjm3, tjm2, tjm1, tj0, tj1, tj2, tj3, tj4, tj5, tj6, tj7, tj8, tj9, tj10, tj11, tj12, tj13, tj14, tj15, tj16, tj24, tj30, tj31, tj32, tj48, tj56, tj57, tj60, tj63, tj99, tj100, tj130, tj199, tj200, tj240, tj999, tj1000, tj20, tj21, tj22, tj23, tj65535, tj32767, tj144] at a b; omega)) (fun a b c => False.elim (by simp only [Int32.lt_iff_toInt_lt, Int32.le_iff_toInt_le, Int64.lt_iff_toInt_lt, Int64.le_iff_toInt_le, ← Int32.toInt_inj, ← Int64.toInt_inj, Int32.toInt_toInt64, tim20, tim13, tim12, tim11, tim10, tim4, tim3, tim2, tim1, ti0, ti1, ti2, ti3, ti4, ti5, ti6, ti7, ti8, ti9, ti10, ti11, ti12, ti13, ti14, ti15, ti16, ti24, ti30, ti31, ti32, ti48, ti56, ti57, ti60, ti63, ti99, ti100, ti130, ti199, ti200, ti240, ti999, ti1000, ti20, ti21, ti22, ti23, ti65535, ti32767, ti144, tjm20, tjm13, tjm12, tjm11, tjm10, tjm4, tjm3, tjm2, tjm1, tj0, tj1, tj2, tj3, tj4, tj5, tj6, tj7, tj8, tj9, tj10, tj11, tj12, tj13, tj14, tj15, tj16, tj24, tj30, tj31, tj32, tj48, tj56, tj57, tj60, tj63, tj99, tj100, tj130, tj199, tj200, tj240, tj999, tj1000, tj20, tj21, tj22, tj23, tj65535, tj32767, tj144] at a b c; omega)) (fun _ _ _ _ => ⟨_, rfl, ?_⟩) (fun a b c e => False.elim (by simp only [Int32.lt_iff_toInt_lt, Int32.le_iff_toInt_le, Int64.lt_iff_toInt_lt, Int64.le_iff_toInt_le, ← Int32.toInt_inj, ← Int64.toInt_inj, Int32.toInt_toInt64, tim20, tim13, tim12, tim11, tim10, tim4, tim3, tim2, tim1, ti0, ti1, ti2, ti3, ti4, ti5, ti6, ti7, ti8, ti9, ti10, ti11, ti12, ti13, ti14, ti15, ti16, ti24, ti30, ti31, ti32, ti48, ti56, ti57, ti60, ti63, ti99, ti100, ti130, ti199, ti200, ti240, ti999, ti1000, ti20, ti21, ti22, ti23, ti65535, ti32767, ti144, tjm20, tjm13, tjm12, tjm11, tjm10, tjm4, tjm3, tjm2, tjm1, tj0, tj1, tj2, tj3, tj4, tj5, tj6, tj7, tj8, tj9, tj10, tj11, tj12, tj13, tj14, tj15, tj16, tj24, tj30, tj31, tj32, tj48, tj56, tj57, tj60, tj63, tj99, tj100, tj130, tj199, tj200, tj240, tj999, tj1000, tj20, tj21, tj22, tj23, tj65535, tj32767, tj144] at a b c e; omega)))
    refine Ct.of mX11_pace.1 (Nat.le_of_ble_eq_true rfl) (bX11_pace_0 x1 x2 _ (fun a => False.elim (by simp only [Int32.lt_iff_toInt_lt, Int32.le_iff_toInt_le, Int64.lt_iff_toInt_lt, Int64.le_iff_toInt_le, ← Int32.toInt_inj, ← Int64.toInt_inj, Int32.toInt_toInt64, tim20, tim13, tim12, tim11, tim10, tim4, tim3, tim2, tim1, ti0, ti1, ti2, ti3, ti4, ti5, ti6, ti7, ti8, ti9, ti10, ti11, ti12, ti13, ti14, ti15, ti16, ti24, ti30, ti31, ti32, ti48, ti56, ti57, ti60, ti63, ti99, ti100, ti130, ti199, ti200, ti240, ti999, ti1000, ti20, ti21, ti22, ti23, ti65535, ti32767, ti144, tjm20, tjm13, tjm12, tjm11, tjm10, tjm4, tjm3, tjm2, tjm1, tj0, tj1, tj2, tj3, tj4, tj5, tj6, tj7, tj8, tj9, tj10, tj11, tj12, tj13, tj14, tj15, tj16, tj24, tj30, tj31, tj32, tj48, tj56, tj57, tj60, tj63, tj99, tj100, tj130, tj199, tj200, tj240, tj999, tj1000, tj20, tj21, tj22, tj23, tj65535, tj32767, tj144] at a; omega)) (fun _ _ => ⟨rfl, ((((Fr.A (by decide) (by decide)).tA (by decide) (by decide)).tF (k := 4) (by decide)).tF (k := 5) (by decide)), ⟨c, f, c1, by omega, by omega, e1, e1, e2, e2⟩, hR.2⟩) (fun a b => False.elim (by simp only [Int32.lt_iff_toInt_lt, Int32.le_iff_toInt_le, Int64.lt_iff_toInt_lt, Int64.le_iff_toInt_le, ← Int32.toInt_inj, ← Int64.toInt_inj, Int32.toInt_toInt64, tim20, tim13, tim12, tim11, tim10, tim4, tim3, tim2, tim1, ti0, ti1, ti2, ti3, ti4, ti5, ti6, ti7, ti8, ti9, ti10, ti11, ti12, ti13, ti14, ti15, ti16, ti24, ti30, ti31, ti32, ti48, ti56, ti57, ti60, ti63, ti99, ti100, ti130, ti199, ti200, ti240, ti999, ti1000, ti20, ti21, ti22, ti23, ti65535, ti32767, ti144, tjm20, tjm13, tjm12, tjm11, tjm10, tjm4, tjm3, tjm2, tjm1, tj0, tj1, tj2, tj3, tj4, tj5, tj6, tj7, tj8, tj9, tj10, tj11, tj12, tj13, tj14, tj15, tj16, tj24, tj30, tj31, tj32, tj48, tj56, tj57, tj60, tj63, tj99, tj100, tj130, tj199, tj200, tj240, tj999, tj1000, tj20, tj21, tj22, tj23, tj65535, tj32767, tj144] at a b; omega)))
  · have bad : Ct yX11_pace MX11_pace (d + 1) [.ref 88, .int x1, .int x2] σ (fun v2 σ2 => v2 = some (.int (-1)) ∧ Fr [14] [4, 5] σ σ2 ∧ RP σ2) :=
      Ct.of mX11_pace.1 (Nat.le_of_ble_eq_true rfl) (bX11_pace_0 x1 x2 σ (fun _ => ⟨rfl, Fr.rf, hR⟩) (fun a b => False.elim (by simp only [Int32.lt_iff_toInt_lt, Int32.le_iff_toInt_le, Int64.lt_iff_toInt_lt, Int64.le_iff_toInt_le, ← Int32.toInt_inj, ← Int64.toInt_inj, Int32.toInt_toInt64, tim20, tim13, tim12, tim11, tim10, tim4, tim3, tim2, tim1, ti0, ti1, ti2, ti3, ti4, ti5, ti6, ti7, ti8, ti9, ti10, ti11, ti12, ti13, ti14, ti15, ti16, ti24, ti30, ti31, ti32, ti48, ti56, ti57, ti60, ti63, ti99, ti100, ti130, ti199, ti200, ti240, ti999, ti1000, ti20, ti21, ti22, ti23, ti65535, ti32767, ti144, tjm20, tjm13, tjm12, tjm11, tjm10, tjm4, tjm3, tjm2, tjm1, tj0, tj1, tj2, tj3, tj4, tj5, tj6, tj7, tj8, tj9, tj10, tj11, tj12, tj13, tj14, tj15, tj16, tj24, tj30, tj31, tj32, tj48, tj56, tj57, tj60, tj63, tj99, tj100, tj130, tj199, tj200, tj240, tj999, tj1000, tj20, tj21, tj22, tj23, tj65535, tj32767, tj144] at a b; omega)) (fun _ _ => ⟨rfl, Fr.rf, hR⟩))
    exact Ct.of mX10_pace.1 (Nat.le_of_ble_eq_true rfl) (bX10_pace_0 x1 x2 σ (fun _ => ⟨_, rfl, bad⟩) (fun _ _ => ⟨_, rfl, bad⟩) (fun _ _ _ => ⟨_, rfl, bad⟩) (fun a b c e => False.elim (by simp only [Int32.lt_iff_toInt_lt, Int32.le_iff_toInt_le, Int64.lt_iff_toInt_lt, Int64.le_iff_toInt_le, ← Int32.toInt_inj, ← Int64.toInt_inj, Int32.toInt_toInt64, tim20, tim13, tim12, tim11, tim10, tim4, tim3, tim2, tim1, ti0, ti1, ti2, ti3, ti4, ti5, ti6, ti7, ti8, ti9, ti10, ti11, ti12, ti13, ti14, ti15, ti16, ti24, ti30, ti31, ti32, ti48, ti56, ti57, ti60, ti63, ti99, ti100, ti130, ti199, ti200, ti240, ti999, ti1000, ti20, ti21, ti22, ti23, ti65535, ti32767, ti144, tjm20, tjm13, tjm12, tjm11, tjm10, tjm4, tjm3, tjm2, tjm1, tj0, tj1, tj2, tj3, tj4, tj5, tj6, tj7, tj8, tj9, tj10, tj11, tj12, tj13, tj14, tj15, tj16, tj24, tj30, tj31, tj32, tj48, tj56, tj57, tj60, tj63, tj99, tj100, tj130, tj199, tj200, tj240, tj999, tj1000, tj20, tj21, tj22, tj23, tj65535, tj32767, tj144] at a b c e; omega)) (fun _ _ _ _ => ⟨_, rfl, bad⟩))
theorem pub_start (d : Nat) (x1 x2 : Int32) (σ : St) (hR : RP σ) : PB yX10_start MX10_start (d + 1) yX11_start MX11_start (d + 1) [.int x1, .int x2] σ [15, 92] [] RP := by
  by_cases hg : 0 ≤ x1.toInt ∧ x1.toInt < (32 : Nat) ∧ 0 ≤ x2.toInt ∧ x2.toInt < (100 : Nat)
  · obtain ⟨j, hj, e1⟩ := ofI hg.1 hg.2.1 (by decide)
    obtain ⟨t, ht, e2⟩ := ofI hg.2.2.1 hg.2.2.2 (by decide)
    obtain ⟨t0, _, r1, r2⟩ := hR.2 j hj
    have eg : aG 15 x1 σ = nI t0 := by rw [e1]; exact (aG_in ln_15 hj).trans r1
    have es : aP 15 x1 x2 σ = sA σ 15 (upd (σ.1 15) j x2) := by rw [e1]; exact aP_in ln_15 hj
    refine Ct.of mX10_start.1 (Nat.le_of_ble_eq_true rfl) (bX10_start_0 x1 x2 σ (fun a => False.elim (by simp only [Int32.lt_iff_toInt_lt, Int32.le_iff_toInt_le, Int64.lt_iff_toInt_lt, Int64.le_iff_toInt_le, ← Int32.toInt_inj, ← Int64.toInt_inj, Int32.toInt_toInt64, tim20, tim13, tim12, tim11, tim10, tim4, tim3, tim2, tim1, ti0, ti1, ti2, ti3, ti4, ti5, ti6, ti7, ti8, ti9, ti10, ti11, ti12, ti13, ti14, ti15, ti16, ti24, ti30, ti31, ti32, ti48, ti56, ti57, ti60, ti63, ti99, ti100, ti130, ti199, ti200, ti240, ti999, ti1000, ti20, ti21, ti22, ti23, ti65535, ti32767, ti144, tjm20, tjm13, tjm12, tjm11, tjm10, tjm4, tjm3, tjm2, tjm1, tj0, tj1, tj2, tj3, tj4, tj5, tj6, tj7, tj8, tj9, tj10, tj11, tj12, tj13, tj14, tj15, tj16, tj24, tj30, tj31, tj32, tj48, tj56, tj57, tj60, tj63, tj99, tj100, tj130, tj199, tj200, tj240, tj999, tj1000, tj20, tj21, tj22, tj23, tj65535, tj32767, tj144] at a; omega)) (fun a b => False.elim (by simp only [Int32.lt_iff_toInt_lt, Int32.le_iff_toInt_le, Int64.lt_iff_toInt_lt, Int64.le_iff_toInt_le, ← Int32.toInt_inj, ← Int64.toInt_inj, Int32.toInt_toInt64, tim20, tim13, tim12, tim11, tim10, tim4, tim3, tim2, tim1, ti0, ti1, ti2, ti3, ti4, ti5, ti6, ti7, ti8, ti9, ti10, ti11, ti12, ti13, ti14, ti15, ti16, ti24, ti30, ti31, ti32, ti48, ti56, ti57, ti60, ti63, ti99, ti100, ti130, ti199, ti200, ti240, ti999, ti1000, ti20, ti21, ti22, ti23, ti65535, ti32767, ti144, tjm20, tjm13, tjm12, tjm11, tjm10, tjm4, tjm3, tjm2, tjm1, tj0, tj1, tj2, tj3, tj4, tj5, tj6, tj7, tj8, tj9, tj10, tj11, tj12, tj13, tj14, tj15, tj16, tj24, tj30, tj31, tj32, tj48, tj56, tj57, tj60, tj63, tj99, tj100, tj130, tj199, tj200, tj240, tj999, tj1000, tj20, tj21, tj22, tj23, tj65535, tj32767, tj144] at a b; omega)) (fun a b c => False.elim (by simp only [Int32.lt_iff_toInt_lt, Int32.le_iff_toInt_le, Int64.lt_iff_toInt_lt, Int64.le_iff_toInt_le, ← Int32.toInt_inj, ← Int64.toInt_inj, Int32.toInt_toInt64, tim20, tim13, tim12, tim11, tim10, tim4, tim3, tim2, tim1, ti0, ti1, ti2, ti3, ti4, ti5, ti6, ti7, ti8, ti9, ti10, ti11, ti12, ti13, ti14, ti15, ti16, ti24, ti30, ti31, ti32, ti48, ti56, ti57, ti60, ti63, ti99, ti100, ti130, ti199, ti200, ti240, ti999, ti1000, ti20, ti21, ti22, ti23, ti65535, ti32767, ti144, tjm20, tjm13, tjm12, tjm11, tjm10, tjm4, tjm3, tjm2, tjm1, tj0, tj1, tj2, tj3, tj4, tj5, tj6, tj7, tj8, tj9, tj10, tj11, tj12, tj13, tj14, tj15, tj16, tj24, tj30, tj31, tj32, tj48, tj56, tj57, tj60, tj63, tj99, tj100, tj130, tj199, tj200, tj240, tj999, tj1000, tj20, tj21, tj22, tj23, tj65535, tj32767, tj144] at a b c; omega)) (fun _ _ _ _ => ⟨_, rfl, ?_⟩) (fun a b c e => False.elim (by simp only [Int32.lt_iff_toInt_lt, Int32.le_iff_toInt_le, Int64.lt_iff_toInt_lt, Int64.le_iff_toInt_le, ← Int32.toInt_inj, ← Int64.toInt_inj, Int32.toInt_toInt64, tim20, tim13, tim12, tim11, tim10, tim4, tim3, tim2, tim1, ti0, ti1, ti2, ti3, ti4, ti5, ti6, ti7, ti8, ti9, ti10, ti11, ti12, ti13, ti14, ti15, ti16, ti24, ti30, ti31, ti32, ti48, ti56, ti57, ti60, ti63, ti99, ti100, ti130, ti199, ti200, ti240, ti999, ti1000, ti20, ti21, ti22, ti23, ti65535, ti32767, ti144, tjm20, tjm13, tjm12, tjm11, tjm10, tjm4, tjm3, tjm2, tjm1, tj0, tj1, tj2, tj3, tj4, tj5, tj6, tj7, tj8, tj9, tj10, tj11, tj12, tj13, tj14, tj15, tj16, tj24, tj30, tj31, tj32, tj48, tj56, tj57, tj60, tj63, tj99, tj100, tj130, tj199, tj200, tj240, tj999, tj1000, tj20, tj21, tj22, tj23, tj65535, tj32767, tj144] at a b c e; omega)))
    rw [eg, es]
    refine Ct.of mX11_start.1 (Nat.le_of_ble_eq_true rfl) (bX11_start_0 x1 x2 _ (fun _ _ => by rw [e1]; exact vp_in_nI hj (by decide)) (fun a => False.elim (by simp only [Int32.lt_iff_toInt_lt, Int32.le_iff_toInt_le, Int64.lt_iff_toInt_lt, Int64.le_iff_toInt_le, ← Int32.toInt_inj, ← Int64.toInt_inj, Int32.toInt_toInt64, tim20, tim13, tim12, tim11, tim10, tim4, tim3, tim2, tim1, ti0, ti1, ti2, ti3, ti4, ti5, ti6, ti7, ti8, ti9, ti10, ti11, ti12, ti13, ti14, ti15, ti16, ti24, ti30, ti31, ti32, ti48, ti56, ti57, ti60, ti63, ti99, ti100, ti130, ti199, ti200, ti240, ti999, ti1000, ti20, ti21, ti22, ti23, ti65535, ti32767, ti144, tjm20, tjm13, tjm12, tjm11, tjm10, tjm4, tjm3, tjm2, tjm1, tj0, tj1, tj2, tj3, tj4, tj5, tj6, tj7, tj8, tj9, tj10, tj11, tj12, tj13, tj14, tj15, tj16, tj24, tj30, tj31, tj32, tj48, tj56, tj57, tj60, tj63, tj99, tj100, tj130, tj199, tj200, tj240, tj999, tj1000, tj20, tj21, tj22, tj23, tj65535, tj32767, tj144] at a; omega)) (fun _ _ => ⟨?_, (Fr.A (by decide) (by decide)).tA (by decide) (by decide), hR.1, fun i hi => ?_⟩) (fun a b => False.elim (by simp only [Int32.lt_iff_toInt_lt, Int32.le_iff_toInt_le, Int64.lt_iff_toInt_lt, Int64.le_iff_toInt_le, ← Int32.toInt_inj, ← Int64.toInt_inj, Int32.toInt_toInt64, tim20, tim13, tim12, tim11, tim10, tim4, tim3, tim2, tim1, ti0, ti1, ti2, ti3, ti4, ti5, ti6, ti7, ti8, ti9, ti10, ti11, ti12, ti13, ti14, ti15, ti16, ti24, ti30, ti31, ti32, ti48, ti56, ti57, ti60, ti63, ti99, ti100, ti130, ti199, ti200, ti240, ti999, ti1000, ti20, ti21, ti22, ti23, ti65535, ti32767, ti144, tjm20, tjm13, tjm12, tjm11, tjm10, tjm4, tjm3, tjm2, tjm1, tj0, tj1, tj2, tj3, tj4, tj5, tj6, tj7, tj8, tj9, tj10, tj11, tj12, tj13, tj14, tj15, tj16, tj24, tj30, tj31, tj32, tj48, tj56, tj57, tj60, tj63, tj99, tj100, tj130, tj199, tj200, tj240, tj999, tj1000, tj20, tj21, tj22, tj23, tj65535, tj32767, tj144] at a b; omega)))
    · show some (Value.int (σ.1 92 x1.toNatClampNeg)) = _
      rw [e1, nI_clamp (by omega), r2]
    · show ∃ t, t ≤ 99 ∧ upd (σ.1 15) j x2 i = nI t ∧ upd (σ.1 92) x1.toNatClampNeg x2 i = nI t
      rw [e1, nI_clamp (by omega), upd_eq, upd_eq]
      by_cases e : i = j
      · rw [if_pos e, if_pos e]; exact ⟨t, by omega, e2, e2⟩
      · rw [if_neg e, if_neg e]; exact hR.2 i hi
  · have bad : Ct yX11_start MX11_start (d + 1) [.ref 88, .int x1, .int x2] σ (fun v2 σ2 => v2 = some (.int (-1)) ∧ Fr [15, 92] [] σ σ2 ∧ RP σ2) :=
      Ct.of mX11_start.1 (Nat.le_of_ble_eq_true rfl) (bX11_start_0 x1 x2 σ (fun a b => False.elim (by simp only [Int32.lt_iff_toInt_lt, Int32.le_iff_toInt_le, Int64.lt_iff_toInt_lt, Int64.le_iff_toInt_le, ← Int32.toInt_inj, ← Int64.toInt_inj, Int32.toInt_toInt64, tim20, tim13, tim12, tim11, tim10, tim4, tim3, tim2, tim1, ti0, ti1, ti2, ti3, ti4, ti5, ti6, ti7, ti8, ti9, ti10, ti11, ti12, ti13, ti14, ti15, ti16, ti24, ti30, ti31, ti32, ti48, ti56, ti57, ti60, ti63, ti99, ti100, ti130, ti199, ti200, ti240, ti999, ti1000, ti20, ti21, ti22, ti23, ti65535, ti32767, ti144, tjm20, tjm13, tjm12, tjm11, tjm10, tjm4, tjm3, tjm2, tjm1, tj0, tj1, tj2, tj3, tj4, tj5, tj6, tj7, tj8, tj9, tj10, tj11, tj12, tj13, tj14, tj15, tj16, tj24, tj30, tj31, tj32, tj48, tj56, tj57, tj60, tj63, tj99, tj100, tj130, tj199, tj200, tj240, tj999, tj1000, tj20, tj21, tj22, tj23, tj65535, tj32767, tj144] at a b; omega)) (fun _ => ⟨rfl, Fr.rf, hR⟩) (fun a b => False.elim (by simp only [Int32.lt_iff_toInt_lt, Int32.le_iff_toInt_le, Int64.lt_iff_toInt_lt, Int64.le_iff_toInt_le, ← Int32.toInt_inj, ← Int64.toInt_inj, Int32.toInt_toInt64, tim20, tim13, tim12, tim11, tim10, tim4, tim3, tim2, tim1, ti0, ti1, ti2, ti3, ti4, ti5, ti6, ti7, ti8, ti9, ti10, ti11, ti12, ti13, ti14, ti15, ti16, ti24, ti30, ti31, ti32, ti48, ti56, ti57, ti60, ti63, ti99, ti100, ti130, ti199, ti200, ti240, ti999, ti1000, ti20, ti21, ti22, ti23, ti65535, ti32767, ti144, tjm20, tjm13, tjm12, tjm11, tjm10, tjm4, tjm3, tjm2, tjm1, tj0, tj1, tj2, tj3, tj4, tj5, tj6, tj7, tj8, tj9, tj10, tj11, tj12, tj13, tj14, tj15, tj16, tj24, tj30, tj31, tj32, tj48, tj56, tj57, tj60, tj63, tj99, tj100, tj130, tj199, tj200, tj240, tj999, tj1000, tj20, tj21, tj22, tj23, tj65535, tj32767, tj144] at a b; omega)) (fun _ _ => ⟨rfl, Fr.rf, hR⟩))
    exact Ct.of mX10_start.1 (Nat.le_of_ble_eq_true rfl) (bX10_start_0 x1 x2 σ (fun _ => ⟨_, rfl, bad⟩) (fun _ _ => ⟨_, rfl, bad⟩) (fun _ _ _ => ⟨_, rfl, bad⟩) (fun a b c e => False.elim (by simp only [Int32.lt_iff_toInt_lt, Int32.le_iff_toInt_le, Int64.lt_iff_toInt_lt, Int64.le_iff_toInt_le, ← Int32.toInt_inj, ← Int64.toInt_inj, Int32.toInt_toInt64, tim20, tim13, tim12, tim11, tim10, tim4, tim3, tim2, tim1, ti0, ti1, ti2, ti3, ti4, ti5, ti6, ti7, ti8, ti9, ti10, ti11, ti12, ti13, ti14, ti15, ti16, ti24, ti30, ti31, ti32, ti48, ti56, ti57, ti60, ti63, ti99, ti100, ti130, ti199, ti200, ti240, ti999, ti1000, ti20, ti21, ti22, ti23, ti65535, ti32767, ti144, tjm20, tjm13, tjm12, tjm11, tjm10, tjm4, tjm3, tjm2, tjm1, tj0, tj1, tj2, tj3, tj4, tj5, tj6, tj7, tj8, tj9, tj10, tj11, tj12, tj13, tj14, tj15, tj16, tj24, tj30, tj31, tj32, tj48, tj56, tj57, tj60, tj63, tj99, tj100, tj130, tj199, tj200, tj240, tj999, tj1000, tj20, tj21, tj22, tj23, tj65535, tj32767, tj144] at a b c e; omega)) (fun _ _ _ _ => ⟨_, rfl, bad⟩))
/-! THE TAPE -/
def RT (σ : St) : Prop := ∃ L, L ≤ 240 ∧ σ.1 2 0 = nI L ∧ σ.1 88 10 = nI L ∧ (∀ i, i < L → ∃ b, b < 256 ∧ σ.1 95 i = nI b ∧ σ.1 3 i = (nI b).toInt8.toInt32) ∧ σ.1 88 15 = σ.1 2 1
theorem pub_fault (d : Nat) (σ : St) (hR : RT σ) : PB yX10_fault MX10_fault d yX11_fault MX11_fault d [] σ [] [] RT :=
  (qX10_fault d σ).mono (fun v s h => by
    rw [h.1, h.2]
    refine ⟨_, rfl, (qX11_fault d σ).mono (fun v2 s2 h2 => ?_)⟩
    rw [h2.1, h2.2]
    have hR0 := hR
    obtain ⟨L, _, _, _, _, e⟩ := hR
    exact ⟨by rw [e], Fr.rf, hR0⟩)
theorem pub_end (d : Nat) (x1 : Int32) (σ : St) (hR : RT σ) : PB yX10_end MX10_end d yX11_end MX11_end (d + 1) [.int x1] σ [2] [10] RT := by
  have hR0 := hR
  obtain ⟨L, hL, e1, e2, hb, hf⟩ := hR
  have t1 : (σ.1 2 0).toInt = L := by rw [e1, nI_toInt (by omega)]
  have t2 : (σ.1 88 10).toInt = L := by rw [e2, nI_toInt (by omega)]
  by_cases hg : 0 ≤ x1.toInt ∧ x1.toInt < ((L + 1 : Nat) : Int)
  · obtain ⟨n, hn, e3⟩ := ofI hg.1 hg.2 (by omega)
    refine Ct.of mX10_end.1 (Nat.le_of_ble_eq_true rfl) (bX10_end_0 x1 σ (fun a => False.elim (by simp only [Int32.lt_iff_toInt_lt, Int32.le_iff_toInt_le, Int64.lt_iff_toInt_lt, Int64.le_iff_toInt_le, ← Int32.toInt_inj, ← Int64.toInt_inj, Int32.toInt_toInt64, tim20, tim13, tim12, tim11, tim10, tim4, tim3, tim2, tim1, ti0, ti1, ti2, ti3, ti4, ti5, ti6, ti7, ti8, ti9, ti10, ti11, ti12, ti13, ti14, ti15, ti16, ti24, ti30, ti31, ti32, ti48, ti56, ti57, ti60, ti63, ti99, ti100, ti130, ti199, ti200, ti240, ti999, ti1000, ti20, ti21, ti22, ti23, ti65535, ti32767, ti144, tjm20, tjm13, tjm12, tjm11, tjm10, tjm4, tjm3, tjm2, tjm1, tj0, tj1, tj2, tj3, tj4, tj5, tj6, tj7, tj8, tj9, tj10, tj11, tj12, tj13, tj14, tj15, tj16, tj24, tj30, tj31, tj32, tj48, tj56, tj57, tj60, tj63, tj99, tj100, tj130, tj199, tj200, tj240, tj999, tj1000, tj20, tj21, tj22, tj23, tj65535, tj32767, tj144] at a; omega)) (fun _ _ => ⟨_, rfl, ?_⟩) (fun a b => False.elim (by simp only [Int32.lt_iff_toInt_lt, Int32.le_iff_toInt_le, Int64.lt_iff_toInt_lt, Int64.le_iff_toInt_le, ← Int32.toInt_inj, ← Int64.toInt_inj, Int32.toInt_toInt64, tim20, tim13, tim12, tim11, tim10, tim4, tim3, tim2, tim1, ti0, ti1, ti2, ti3, ti4, ti5, ti6, ti7, ti8, ti9, ti10, ti11, ti12, ti13, ti14, ti15, ti16, ti24, ti30, ti31, ti32, ti48, ti56, ti57, ti60, ti63, ti99, ti100, ti130, ti199, ti200, ti240, ti999, ti1000, ti20, ti21, ti22, ti23, ti65535, ti32767, ti144, tjm20, tjm13, tjm12, tjm11, tjm10, tjm4, tjm3, tjm2, tjm1, tj0, tj1, tj2, tj3, tj4, tj5, tj6, tj7, tj8, tj9, tj10, tj11, tj12, tj13, tj14, tj15, tj16, tj24, tj30, tj31, tj32, tj48, tj56, tj57, tj60, tj63, tj99, tj100, tj130, tj199, tj200, tj240, tj999, tj1000, tj20, tj21, tj22, tj23, tj65535, tj32767, tj144] at a b; omega)))
    refine Ct.of mX11_end.1 (Nat.le_of_ble_eq_true rfl) (bX11_end_0 x1 _ (fun _ => ⟨?_, (Fr.A (by decide) (by decide)).tF (by decide), n, by omega, e3, e3, fun i hi => hb i (by omega), hf⟩) (fun a => False.elim (a ?_)))
    · show some (Value.int (σ.1 88 10)) = some (Value.int (σ.1 2 0))
      rw [e1, e2]
    · show (0 : Int64) ≤ x1.toInt64 ∧ x1.toInt64 ≤ (σ.1 88 10).toInt64
      simp only [Int64.le_iff_toInt_le, Int32.toInt_toInt64, t2, tj0]; omega
  · have bad : Ct yX11_end MX11_end (d + 1) [.ref 88, .int x1] σ (fun v2 σ2 => v2 = some (.int (-1)) ∧ Fr [2] [10] σ σ2 ∧ RT σ2) :=
      Ct.of mX11_end.1 (Nat.le_of_ble_eq_true rfl) (bX11_end_0 x1 σ (fun a => False.elim (by simp only [Int32.lt_iff_toInt_lt, Int32.le_iff_toInt_le, Int64.lt_iff_toInt_lt, Int64.le_iff_toInt_le, ← Int32.toInt_inj, ← Int64.toInt_inj, Int32.toInt_toInt64, tim20, tim13, tim12, tim11, tim10, tim4, tim3, tim2, tim1, ti0, ti1, ti2, ti3, ti4, ti5, ti6, ti7, ti8, ti9, ti10, ti11, ti12, ti13, ti14, ti15, ti16, ti24, ti30, ti31, ti32, ti48, ti56, ti57, ti60, ti63, ti99, ti100, ti130, ti199, ti200, ti240, ti999, ti1000, ti20, ti21, ti22, ti23, ti65535, ti32767, ti144, tjm20, tjm13, tjm12, tjm11, tjm10, tjm4, tjm3, tjm2, tjm1, tj0, tj1, tj2, tj3, tj4, tj5, tj6, tj7, tj8, tj9, tj10, tj11, tj12, tj13, tj14, tj15, tj16, tj24, tj30, tj31, tj32, tj48, tj56, tj57, tj60, tj63, tj99, tj100, tj130, tj199, tj200, tj240, tj999, tj1000, tj20, tj21, tj22, tj23, tj65535, tj32767, tj144] at a; omega)) (fun _ => ⟨rfl, Fr.rf, hR0⟩))
    exact Ct.of mX10_end.1 (Nat.le_of_ble_eq_true rfl) (bX10_end_0 x1 σ (fun _ => ⟨_, rfl, bad⟩) (fun a b => False.elim (by simp only [Int32.lt_iff_toInt_lt, Int32.le_iff_toInt_le, Int64.lt_iff_toInt_lt, Int64.le_iff_toInt_le, ← Int32.toInt_inj, ← Int64.toInt_inj, Int32.toInt_toInt64, tim20, tim13, tim12, tim11, tim10, tim4, tim3, tim2, tim1, ti0, ti1, ti2, ti3, ti4, ti5, ti6, ti7, ti8, ti9, ti10, ti11, ti12, ti13, ti14, ti15, ti16, ti24, ti30, ti31, ti32, ti48, ti56, ti57, ti60, ti63, ti99, ti100, ti130, ti199, ti200, ti240, ti999, ti1000, ti20, ti21, ti22, ti23, ti65535, ti32767, ti144, tjm20, tjm13, tjm12, tjm11, tjm10, tjm4, tjm3, tjm2, tjm1, tj0, tj1, tj2, tj3, tj4, tj5, tj6, tj7, tj8, tj9, tj10, tj11, tj12, tj13, tj14, tj15, tj16, tj24, tj30, tj31, tj32, tj48, tj56, tj57, tj60, tj63, tj99, tj100, tj130, tj199, tj200, tj240, tj999, tj1000, tj20, tj21, tj22, tj23, tj65535, tj32767, tj144] at a b; omega)) (fun _ _ => ⟨_, rfl, bad⟩))
/-- a byte of a long -/
theorem byte_of (y : Int64) : ∃ b, b < 256 ∧ (y &&& 255).toInt32 = nI b ∧ ((y.toInt32).toInt8.toInt32).toInt8.toInt32 = (nI b).toInt8.toInt32 := by
  obtain ⟨n, hn, e⟩ := wb_of y
  refine ⟨n % 256, Nat.mod_lt _ (by decide), ?_, ?_⟩
  · rw [e, show (255 : Int64) = lN (2 ^ 8 - 1) from rfl, wb_mask hn (by decide), lN_i]
  · rw [e, lN_i]
    have h1 : (nI n).toInt8 = (nI (n % 256)).toInt8 := by
      apply Int8.toBitVec_inj.mp
      show (BitVec.ofNat 32 n).signExtend 8 = (BitVec.ofNat 32 (n % 256)).signExtend 8
      apply BitVec.eq_of_getLsbD_eq
      intro i hi
      simp only [BitVec.getLsbD_signExtend, BitVec.getLsbD_ofNat]
      have h256 : n % 256 = n % 2 ^ 8 := rfl
      rw [h256, Nat.testBit_mod_two_pow]
      simp only [hi, show i < 32 by omega, decide_true, Bool.true_and, if_true]
    rw [h1]
    have h2 : ∀ z : Int8, z.toInt32.toInt8 = z := fun z => Int8.toInt8_toInt32 z
    rw [h2]
theorem pub_feed (d : Nat) (x1 : Int64) (σ : St) (hR : RT σ) : PB yX10_feed MX10_feed (d + 1) yX11_feed MX11_feed d [.long x1] σ [2, 3, 95] [10] RT := by
  have hR0 := hR
  obtain ⟨L, hL, e1, e2, hb, hf⟩ := hR
  have ea : σ.1 2 0 + 8 = nI (L + 8) := by rw [e1, show (8 : Int32) = nI 8 from rfl, nI_add]
  have eb : σ.1 88 10 + 8 = nI (L + 8) := by rw [e2, show (8 : Int32) = nI 8 from rfl, nI_add]
  refine Ct.of mX10_feed.1 (Nat.le_of_ble_eq_true rfl) (bX10_feed_0 x1 σ ?_)
  by_cases hg : L + 8 ≤ 240
  · refine Ct.of mX9_append.1 (Nat.le_of_ble_eq_true rfl) (bX9_append_0 x1 σ (fun q => absurd q (by rw [e1]; exact nI_pos (by omega))) (fun _ _ => ?_) (fun _ q => absurd q (by rw [ea]; exact nI_nlt (a := 240) (b := L + 8) hg (by decide))))
    refine loopI1 (fun x s => Run MX9_append d 26 [some (.ref 2), some (.long x1), none, some (.int x)] [] s _) (fun k s => Fr [3] [] σ s ∧ (∀ i, i < L → s.1 3 i = σ.1 3 i) ∧ ∀ i, i < k → s.1 3 (L + i) = (((x1 >>> (((56 : Int32) - ((8 : Int32) * nI i)).toInt64 &&& 63)).toInt32).toInt8.toInt32).toInt8.toInt32) 8 ?_ ?_ 0 σ (by decide) ⟨Fr.rf, fun _ _ => rfl, fun i hi => absurd hi (Nat.not_lt_zero i)⟩
    · intro s ⟨hF, h1, h2⟩
      have e20 : s.1 2 0 = nI L := by rw [hF.1 2 (by decide) (by decide), e1]
      refine bX9_append_26 x1 (nI 8) s (fun q => absurd q (by decide)) (fun _ => ?_) (fun q => absurd q (by decide))
      refine bX10_feed_8 1 _ ⟨_, rfl, ?_⟩
      have ev : (sA s 2 (upd (s.1 2) 0 (s.1 2 0 + 8))).1 2 0 = nI (L + 8) := by
        show s.1 2 0 + 8 = _
        rw [e20, show (8 : Int32) = nI 8 from rfl, nI_add]
      rw [if_neg (by decide), ev]
      -- the reference
      have hF2 : Fr [2, 3, 95] [10] σ (sA s 2 (upd (s.1 2) 0 (s.1 2 0 + 8))) := (hF.mono (by decide) (by decide)).tA (by decide) (by decide)
      generalize hs2 : sA s 2 (upd (s.1 2) 0 (s.1 2 0 + 8)) = s2 at hF2 ev
      have e3 : s2.1 3 = s.1 3 := by rw [← hs2, sA_ne (by decide)]
      have e215 : s2.1 2 1 = σ.1 2 1 := by rw [← hs2, sA_at, upd_eq, if_neg (by decide), hF.1 2 (by decide) (by decide)]
      have e88 : s2.1 88 = σ.1 88 := by
        rw [← hs2, sA_ne (by decide)]
        funext j; exact hF.2.1 j (by simp)
      have e95 : s2.1 95 = σ.1 95 := by rw [← hs2, sA_ne (by decide), hF.1 95 (by decide) (by decide)]
      refine Ct.of mX11_feed.1 (Nat.le_of_ble_eq_true rfl) (bX11_feed_0 x1 s2 (fun _ => ?_) (fun q => absurd q (by rw [e88, eb]; exact nI_nlt (a := 240) (b := L + 8) hg (by decide))))
      have key : ∀ n i z, i + n = 8 → Fr [95] [10] s2 z → z.1 88 10 = nI (L + i) → (∀ j, j < L → z.1 95 j = σ.1 95 j) → (∀ j, j < i → z.1 95 (L + j) = ((x1 >>> (((56 : Int32) - ((8 : Int32) * nI j)).toInt64 &&& 63)) &&& 255).toInt32) → Run MX11_feed d 19 [some (.ref 88), some (.long x1), none, some (.int ((56 : Int32) - (8 : Int32) * nI i))] [] z (fun v2 σ2 => v2 = some (.int (nI (L + 8))) ∧ Fr [2, 3, 95] [10] σ σ2 ∧ RT σ2) := by
        intro n
        induction n with
        | zero =>
          intro i z hi hz h10 h95 hnew
          have : i = 8 := by omega
          subst this
          refine bX11_feed_19 x1 _ z (fun q => absurd q (by decide)) (fun _ => ⟨by rw [h10], hF2.tr (hz.mono (by decide) (by decide)), L + 8, hg, ?_, h10, fun i hi => ?_, ?_⟩) (fun q => absurd q (by decide))
          · rw [hz.1 2 (by decide) (by decide)]; exact ev
          · rw [hz.1 3 (by decide) (by decide), e3]
            by_cases q : i < L
            · rw [h95 i q, h1 i q]; exact hb i q
            · obtain ⟨j, hj⟩ : ∃ j, i = L + j := ⟨i - L, by omega⟩
              subst hj
              rw [hnew j (by omega), h2 j (by omega)]
              exact byte_of _
          · rw [hz.2.1 15 (by decide), e88, hf, hz.1 2 (by decide) (by decide), e215]
        | succ n ih =>
          intro i z hi hz h10 h95 hnew
          have hsh : (56 : Int32) - 8 * nI i = nI (56 - 8 * i) := by rw [show (56 : Int32) = nI 56 from rfl, show (8 : Int32) = nI 8 from rfl, pk_mul, pk_sub (by omega)]
          refine bX11_feed_19 x1 _ z (fun _ => by rw [h10]; exact vp_in_nI (by omega) (by decide)) (fun q => absurd q (by rw [hsh]; exact nI_pos (by omega))) (fun _ => ?_)
          have hnx : (56 : Int32) - 8 * nI i + (-8) = 56 - 8 * nI (i + 1) := by
            (simp only [nI_zI, zl0, zl1, zl2, zl3, zl4, zl5, zl6, zl7, zl8, zl9, zl10, zl11, zl12, zl13, zl14, zl15, zl16, zl24, zl30, zl31, zl32, zl48, zl56, zl57, zl60, zl63, zl99, zl100, zl130, zl199, zl200, zl240, zl999, zl1000, ← zI_add, ← zI_sub, ← zI_mul, ← zI_neg] <;> first | rfl | (congr 1; omega))
          rw [hnx]
          refine ih (i + 1) _ (by omega) ((hz.tA (by decide) (by decide)).tF (k := 10) (by decide)) ?_ (fun j hj => ?_) (fun j hj => ?_)
          · show z.1 88 10 + 1 = _
            rw [h10, nI_1]; rfl
          · show upd (z.1 95) (z.1 88 10).toNatClampNeg _ j = _
            rw [h10, nI_clamp (by omega), upd_eq, if_neg (by omega)]; exact h95 j hj
          · show upd (z.1 95) (z.1 88 10).toNatClampNeg _ (L + j) = _
            rw [h10, nI_clamp (by omega), upd_eq]
            by_cases e : j = i
            · subst e; rw [if_pos rfl]
            · rw [if_neg (by omega)]; exact hnew j (by omega)
      exact key 8 0 s2 (by omega) Fr.rf (by rw [e88, e2]; rfl) (fun j hj => by rw [e95]) (fun j hj => absurd hj (Nat.not_lt_zero j))
    · intro k s hk ⟨hF, h1, h2⟩ ih
      have e20 : s.1 2 0 = nI L := by rw [hF.1 2 (by decide) (by decide), e1]
      have ei : s.1 2 0 + nI k = nI (L + k) := by rw [e20, nI_add]
      refine bX9_append_26 x1 (nI k) s (fun _ => by rw [ei]; exact vp_in_nI (by omega) (by decide)) (fun q => absurd q (nI_ge hk (by decide))) (fun _ => ih _ ⟨hF.tA (by decide) (by decide), fun i hi => ?_, fun i hi => ?_⟩)
      · rw [sA_at, ei, nI_clamp (by omega), upd_eq, if_neg (by omega)]; exact h1 i hi
      · rw [sA_at, ei, nI_clamp (by omega), upd_eq]
        by_cases e : i = k
        · subst e; rw [if_pos rfl]
        · rw [if_neg (by omega)]; exact h2 i (by omega)
  · refine Ct.of mX9_append.1 (Nat.le_of_ble_eq_true rfl) (bX9_append_0 x1 σ (fun q => absurd q (by rw [e1]; exact nI_pos (by omega))) (fun _ q => absurd q (by rw [ea]; exact nI_ge (a := 240) (b := L + 8) (by omega) (by omega))) (fun _ _ => ?_))
    refine bX10_feed_8 0 σ ⟨_, rfl, ?_⟩
    rw [if_pos rfl]
    exact Ct.of mX11_feed.1 (Nat.le_of_ble_eq_true rfl) (bX11_feed_0 x1 σ (fun q => absurd q (by rw [eb]; exact nI_ge (a := 240) (b := L + 8) (by omega) (by omega))) (fun _ => ⟨rfl, Fr.rf, hR0⟩))
/-! DIGITS -/
theorem shrk {n k : Nat} (hn : n < 2 ^ 31) (hk : k < 32) : nI n >>> (nI k &&& 31) = nI (n / 2 ^ k) := pk_shrN hn _ k (s_l k hk)
theorem and1 {n : Nat} (h : n < 2 ^ 32) : nI n &&& 1 = nI (n % 2) := pk_andN h 1 rfl
theorem and7 {n : Nat} (h : n < 2 ^ 32) : nI n &&& 7 = nI (n % 8) := pk_andN h 3 rfl
def dg (v k : Nat) : Int := ((2 * v / 2 ^ (2 * k)) % 2 : Nat) + ((v / 2 ^ (2 * k)) % 2 : Nat) - 2 * ((v / 2 ^ (2 * k + 1)) % 2 : Nat)
theorem digC {v k : Nat} (hv : v < 65536) (hk : k < 9) (σ : St) : rX10_digitByFours (nI v) (nI k) σ = zI (dg v k) := by
  have e1 : nI v <<< ((1 : Int32) &&& 31) = nI (2 * v) := by
    have := pk_shlN (n := v) ((1 : Int32) &&& 31) 1 (by decide) (by omega)
    rw [this]; congr 1; omega
  have e2 : (2 : Int32) * nI k = nI (2 * k) := pk_mul 2 k
  unfold rX10_digitByFours
  rw [e1, e2, shrk (by omega) (by omega), and7 (by have : 2 * v / 2 ^ (2 * k) ≤ 2 * v := Nat.div_le_self _ _; omega), and1 (by omega), show nI (2 * v / 2 ^ (2 * k) % 8) >>> ((1 : Int32) &&& 31) = nI (2 * v / 2 ^ (2 * k) % 8 / 2 ^ 1) from shrk (k := 1) (by omega) (by decide), show nI (2 * v / 2 ^ (2 * k) % 8) >>> ((2 : Int32) &&& 31) = nI (2 * v / 2 ^ (2 * k) % 8 / 2 ^ 2) from shrk (k := 2) (by omega) (by decide), and1 (by omega)]
  have h3 : v / 2 ^ (2 * k) = 2 * v / 2 ^ (2 * k) / 2 := by rw [Nat.div_div_eq_div_mul, Nat.mul_comm (2 ^ (2 * k)) 2, Nat.mul_div_mul_left _ _ (by decide)]
  have h4 : v / 2 ^ (2 * k + 1) = 2 * v / 2 ^ (2 * k) / 4 := by rw [Nat.pow_succ, ← Nat.div_div_eq_div_mul, h3, Nat.div_div_eq_div_mul]
  unfold dg
  rw [h3, h4]
  generalize 2 * v / 2 ^ (2 * k) = w
  (simp only [nI_zI, zl0, zl1, zl2, zl3, zl4, zl5, zl6, zl7, zl8, zl9, zl10, zl11, zl12, zl13, zl14, zl15, zl16, zl24, zl30, zl31, zl32, zl48, zl56, zl57, zl60, zl63, zl99, zl100, zl130, zl199, zl200, zl240, zl999, zl1000, ← zI_add, ← zI_sub, ← zI_mul, ← zI_neg] <;> first | rfl | (congr 1; omega))
theorem digM {v k : Nat} (hv : v < 65536) (hk : k < 9) (σ : St) : rX11_digitOf (nI v) (nI k) σ = zI (dg v k) := by
  have e2 : (2 : Int32) * nI k = nI (2 * k) := pk_mul 2 k
  have e3 : nI (2 * k) + 1 = nI (2 * k + 1) := nI_1 _
  unfold rX11_digitOf
  rw [e2, e3, shrk (by omega) (by omega), shrk (by omega) (by omega)]
  have hd : ∀ m, v / 2 ^ m < 2 ^ 32 := fun m => by have : v / 2 ^ m ≤ v := Nat.div_le_self _ _; omega
  rw [and1 (hd _), and1 (hd _)]
  have ah : (if nI k = 0 then (0 : Int32) else ((nI v >>> ((nI (2 * k) - 1) &&& 31)) &&& 1)) = nI (2 * v / 2 ^ (2 * k) % 2) := by
    by_cases h0 : k = 0
    · subst h0
      rw [if_pos (show nI 0 = 0 from rfl)]
      have : 2 * v / 2 ^ (2 * 0) % 2 = 0 := by simp
      rw [this]; rfl
    · rw [if_neg (show ¬ nI k = 0 from fun q => h0 ((nI_eq (b := 0) (by omega) (by decide)).mp q)), show nI (2 * k) - 1 = nI (2 * k - 1) from pk_sub (b := 1) (by omega), shrk (by omega) (by omega), and1 (hd _)]
      have : 2 * v / 2 ^ (2 * k) = v / 2 ^ (2 * k - 1) := by
        rw [show 2 * k = (2 * k - 1) + 1 by omega, Nat.pow_succ, Nat.mul_comm (2 ^ (2 * k - 1)) 2, Nat.mul_div_mul_left _ _ (by decide)]; congr 2
      rw [this]
  rw [ah]
  unfold dg
  (simp only [nI_zI, zl0, zl1, zl2, zl3, zl4, zl5, zl6, zl7, zl8, zl9, zl10, zl11, zl12, zl13, zl14, zl15, zl16, zl24, zl30, zl31, zl32, zl48, zl56, zl57, zl60, zl63, zl99, zl100, zl130, zl199, zl200, zl240, zl999, zl1000, ← zI_add, ← zI_sub, ← zI_mul, ← zI_neg] <;> first | rfl | (congr 1; omega))
theorem pub_digit (d : Nat) (x1 x2 : Int32) (σ : St) : PB yX10_digit MX10_digit (d + 1) yX11_digit MX11_digit (d + 1) [.int x1, .int x2] σ [] [] (fun _ => True) := by
  by_cases hg : 0 ≤ x1.toInt ∧ x1.toInt < (65536 : Nat) ∧ 0 ≤ x2.toInt ∧ x2.toInt < (9 : Nat)
  · obtain ⟨v, hv, e1⟩ := ofI hg.1 hg.2.1 (by decide)
    obtain ⟨k, hk, e2⟩ := ofI hg.2.2.1 hg.2.2.2 (by decide)
    refine Ct.of mX10_digit.1 (Nat.le_of_ble_eq_true rfl) (bX10_digit_0 x1 x2 σ (fun a => False.elim (by simp only [Int32.lt_iff_toInt_lt, Int32.le_iff_toInt_le, Int64.lt_iff_toInt_lt, Int64.le_iff_toInt_le, ← Int32.toInt_inj, ← Int64.toInt_inj, Int32.toInt_toInt64, tim20, tim13, tim12, tim11, tim10, tim4, tim3, tim2, tim1, ti0, ti1, ti2, ti3, ti4, ti5, ti6, ti7, ti8, ti9, ti10, ti11, ti12, ti13, ti14, ti15, ti16, ti24, ti30, ti31, ti32, ti48, ti56, ti57, ti60, ti63, ti99, ti100, ti130, ti199, ti200, ti240, ti999, ti1000, ti20, ti21, ti22, ti23, ti65535, ti32767, ti144, tjm20, tjm13, tjm12, tjm11, tjm10, tjm4, tjm3, tjm2, tjm1, tj0, tj1, tj2, tj3, tj4, tj5, tj6, tj7, tj8, tj9, tj10, tj11, tj12, tj13, tj14, tj15, tj16, tj24, tj30, tj31, tj32, tj48, tj56, tj57, tj60, tj63, tj99, tj100, tj130, tj199, tj200, tj240, tj999, tj1000, tj20, tj21, tj22, tj23, tj65535, tj32767, tj144] at a; omega)) (fun a b => False.elim (by simp only [Int32.lt_iff_toInt_lt, Int32.le_iff_toInt_le, Int64.lt_iff_toInt_lt, Int64.le_iff_toInt_le, ← Int32.toInt_inj, ← Int64.toInt_inj, Int32.toInt_toInt64, tim20, tim13, tim12, tim11, tim10, tim4, tim3, tim2, tim1, ti0, ti1, ti2, ti3, ti4, ti5, ti6, ti7, ti8, ti9, ti10, ti11, ti12, ti13, ti14, ti15, ti16, ti24, ti30, ti31, ti32, ti48, ti56, ti57, ti60, ti63, ti99, ti100, ti130, ti199, ti200, ti240, ti999, ti1000, ti20, ti21, ti22, ti23, ti65535, ti32767, ti144, tjm20, tjm13, tjm12, tjm11, tjm10, tjm4, tjm3, tjm2, tjm1, tj0, tj1, tj2, tj3, tj4, tj5, tj6, tj7, tj8, tj9, tj10, tj11, tj12, tj13, tj14, tj15, tj16, tj24, tj30, tj31, tj32, tj48, tj56, tj57, tj60, tj63, tj99, tj100, tj130, tj199, tj200, tj240, tj999, tj1000, tj20, tj21, tj22, tj23, tj65535, tj32767, tj144] at a b; omega)) (fun a b c => False.elim (by simp only [Int32.lt_iff_toInt_lt, Int32.le_iff_toInt_le, Int64.lt_iff_toInt_lt, Int64.le_iff_toInt_le, ← Int32.toInt_inj, ← Int64.toInt_inj, Int32.toInt_toInt64, tim20, tim13, tim12, tim11, tim10, tim4, tim3, tim2, tim1, ti0, ti1, ti2, ti3, ti4, ti5, ti6, ti7, ti8, ti9, ti10, ti11, ti12, ti13, ti14, ti15, ti16, ti24, ti30, ti31, ti32, ti48, ti56, ti57, ti60, ti63, ti99, ti100, ti130, ti199, ti200, ti240, ti999, ti1000, ti20, ti21, ti22, ti23, ti65535, ti32767, ti144, tjm20, tjm13, tjm12, tjm11, tjm10, tjm4, tjm3, tjm2, tjm1, tj0, tj1, tj2, tj3, tj4, tj5, tj6, tj7, tj8, tj9, tj10, tj11, tj12, tj13, tj14, tj15, tj16, tj24, tj30, tj31, tj32, tj48, tj56, tj57, tj60, tj63, tj99, tj100, tj130, tj199, tj200, tj240, tj999, tj1000, tj20, tj21, tj22, tj23, tj65535, tj32767, tj144] at a b c; omega)) (fun _ _ _ _ => ⟨_, rfl, ?_⟩) (fun a b c e => False.elim (by simp only [Int32.lt_iff_toInt_lt, Int32.le_iff_toInt_le, Int64.lt_iff_toInt_lt, Int64.le_iff_toInt_le, ← Int32.toInt_inj, ← Int64.toInt_inj, Int32.toInt_toInt64, tim20, tim13, tim12, tim11, tim10, tim4, tim3, tim2, tim1, ti0, ti1, ti2, ti3, ti4, ti5, ti6, ti7, ti8, ti9, ti10, ti11, ti12, ti13, ti14, ti15, ti16, ti24, ti30, ti31, ti32, ti48, ti56, ti57, ti60, ti63, ti99, ti100, ti130, ti199, ti200, ti240, ti999, ti1000, ti20, ti21, ti22, ti23, ti65535, ti32767, ti144, tjm20, tjm13, tjm12, tjm11, tjm10, tjm4, tjm3, tjm2, tjm1, tj0, tj1, tj2, tj3, tj4, tj5, tj6, tj7, tj8, tj9, tj10, tj11, tj12, tj13, tj14, tj15, tj16, tj24, tj30, tj31, tj32, tj48, tj56, tj57, tj60, tj63, tj99, tj100, tj130, tj199, tj200, tj240, tj999, tj1000, tj20, tj21, tj22, tj23, tj65535, tj32767, tj144] at a b c e; omega)))
    refine (qX11_digit d x1 x2 σ).mono (fun w s h => ⟨?_, by rw [h.2]; exact Fr.rf, trivial⟩)
    rw [h.1]
    unfold rX11_digit
    rw [if_pos (by simp only [Int32.lt_iff_toInt_lt, Int32.le_iff_toInt_le, Int64.lt_iff_toInt_lt, Int64.le_iff_toInt_le, ← Int32.toInt_inj, ← Int64.toInt_inj, Int32.toInt_toInt64, tim20, tim13, tim12, tim11, tim10, tim4, tim3, tim2, tim1, ti0, ti1, ti2, ti3, ti4, ti5, ti6, ti7, ti8, ti9, ti10, ti11, ti12, ti13, ti14, ti15, ti16, ti24, ti30, ti31, ti32, ti48, ti56, ti57, ti60, ti63, ti99, ti100, ti130, ti199, ti200, ti240, ti999, ti1000, ti20, ti21, ti22, ti23, ti65535, ti32767, ti144, tjm20, tjm13, tjm12, tjm11, tjm10, tjm4, tjm3, tjm2, tjm1, tj0, tj1, tj2, tj3, tj4, tj5, tj6, tj7, tj8, tj9, tj10, tj11, tj12, tj13, tj14, tj15, tj16, tj24, tj30, tj31, tj32, tj48, tj56, tj57, tj60, tj63, tj99, tj100, tj130, tj199, tj200, tj240, tj999, tj1000, tj20, tj21, tj22, tj23, tj65535, tj32767, tj144]; omega), if_pos (by simp only [Int32.lt_iff_toInt_lt, Int32.le_iff_toInt_le, Int64.lt_iff_toInt_lt, Int64.le_iff_toInt_le, ← Int32.toInt_inj, ← Int64.toInt_inj, Int32.toInt_toInt64, tim20, tim13, tim12, tim11, tim10, tim4, tim3, tim2, tim1, ti0, ti1, ti2, ti3, ti4, ti5, ti6, ti7, ti8, ti9, ti10, ti11, ti12, ti13, ti14, ti15, ti16, ti24, ti30, ti31, ti32, ti48, ti56, ti57, ti60, ti63, ti99, ti100, ti130, ti199, ti200, ti240, ti999, ti1000, ti20, ti21, ti22, ti23, ti65535, ti32767, ti144, tjm20, tjm13, tjm12, tjm11, tjm10, tjm4, tjm3, tjm2, tjm1, tj0, tj1, tj2, tj3, tj4, tj5, tj6, tj7, tj8, tj9, tj10, tj11, tj12, tj13, tj14, tj15, tj16, tj24, tj30, tj31, tj32, tj48, tj56, tj57, tj60, tj63, tj99, tj100, tj130, tj199, tj200, tj240, tj999, tj1000, tj20, tj21, tj22, tj23, tj65535, tj32767, tj144]; omega), e1, e2, digC hv hk, digM hv hk]
  · have bad : Ct yX11_digit MX11_digit (d + 1) [.ref 88, .int x1, .int x2] σ (fun v2 σ2 => v2 = some (.int (-10)) ∧ Fr [] [] σ σ2 ∧ True) := by
      refine (qX11_digit d x1 x2 σ).mono (fun w s h => ⟨?_, by rw [h.2]; exact Fr.rf, trivial⟩)
      rw [h.1]
      unfold rX11_digit
      by_cases q : (0 : Int64) ≤ x1.toInt64 ∧ x1.toInt64 ≤ (65535 : Int64)
      · rw [if_pos q, if_neg (by intro q2; simp only [Int32.lt_iff_toInt_lt, Int32.le_iff_toInt_le, Int64.lt_iff_toInt_lt, Int64.le_iff_toInt_le, ← Int32.toInt_inj, ← Int64.toInt_inj, Int32.toInt_toInt64, tim20, tim13, tim12, tim11, tim10, tim4, tim3, tim2, tim1, ti0, ti1, ti2, ti3, ti4, ti5, ti6, ti7, ti8, ti9, ti10, ti11, ti12, ti13, ti14, ti15, ti16, ti24, ti30, ti31, ti32, ti48, ti56, ti57, ti60, ti63, ti99, ti100, ti130, ti199, ti200, ti240, ti999, ti1000, ti20, ti21, ti22, ti23, ti65535, ti32767, ti144, tjm20, tjm13, tjm12, tjm11, tjm10, tjm4, tjm3, tjm2, tjm1, tj0, tj1, tj2, tj3, tj4, tj5, tj6, tj7, tj8, tj9, tj10, tj11, tj12, tj13, tj14, tj15, tj16, tj24, tj30, tj31, tj32, tj48, tj56, tj57, tj60, tj63, tj99, tj100, tj130, tj199, tj200, tj240, tj999, tj1000, tj20, tj21, tj22, tj23, tj65535, tj32767, tj144] at q q2; omega)]
      · rw [if_neg q]
    exact Ct.of mX10_digit.1 (Nat.le_of_ble_eq_true rfl) (bX10_digit_0 x1 x2 σ (fun _ => ⟨_, rfl, bad⟩) (fun _ _ => ⟨_, rfl, bad⟩) (fun _ _ _ => ⟨_, rfl, bad⟩) (fun a b c e => False.elim (by simp only [Int32.lt_iff_toInt_lt, Int32.le_iff_toInt_le, Int64.lt_iff_toInt_lt, Int64.le_iff_toInt_le, ← Int32.toInt_inj, ← Int64.toInt_inj, Int32.toInt_toInt64, tim20, tim13, tim12, tim11, tim10, tim4, tim3, tim2, tim1, ti0, ti1, ti2, ti3, ti4, ti5, ti6, ti7, ti8, ti9, ti10, ti11, ti12, ti13, ti14, ti15, ti16, ti24, ti30, ti31, ti32, ti48, ti56, ti57, ti60, ti63, ti99, ti100, ti130, ti199, ti200, ti240, ti999, ti1000, ti20, ti21, ti22, ti23, ti65535, ti32767, ti144, tjm20, tjm13, tjm12, tjm11, tjm10, tjm4, tjm3, tjm2, tjm1, tj0, tj1, tj2, tj3, tj4, tj5, tj6, tj7, tj8, tj9, tj10, tj11, tj12, tj13, tj14, tj15, tj16, tj24, tj30, tj31, tj32, tj48, tj56, tj57, tj60, tj63, tj99, tj100, tj130, tj199, tj200, tj240, tj999, tj1000, tj20, tj21, tj22, tj23, tj65535, tj32767, tj144] at a b c e; omega)) (fun _ _ _ _ => ⟨_, rfl, bad⟩))
end SMALL

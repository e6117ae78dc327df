section SHEET
def SH : List Nat := [80, 81, 82, 83, 84, 85, 86, 87, 108, 109, 110]
theorem sh_o : ∀ k, k < 4 → gr 31 k = 80 + 2 * k ∧ gr (80 + 2 * k) 2 = 81 + 2 * k ∧ kd (80 + 2 * k) = 6 ∧ 80 + 2 * k ∈ SH ∧ 81 + 2 * k ∈ SH ∧ ln (81 + 2 * k) = 60 := by decide +kernel
/-- SHEETS: both hold the same -/
def RS (σ : St) : Prop := ∀ k, k < 4 → σ.1 108 k = σ.1 (80 + 2 * k) 1 ∧ σ.1 109 k = σ.1 (80 + 2 * k) 0 ∧ (∃ m, m ≤ 60 ∧ σ.1 (80 + 2 * k) 0 = nI m) ∧ ∀ i, i < 60 → σ.1 110 (60 * k + i) = σ.1 (81 + 2 * k) i
theorem RS.keep {S F : List Nat} {σ σ' : St} (hF : Fr S F σ σ') (hd : ∀ i, i ∈ SH → i ∉ S) (h : RS σ) : RS σ' := by
  intro k hk
  obtain ⟨-, -, -, m1, m2, -⟩ := sh_o k hk
  rw [hF.1 108 (hd 108 (by decide)) (by decide), hF.1 109 (hd 109 (by decide)) (by decide), hF.1 110 (hd 110 (by decide)) (by decide), hF.1 _ (hd _ m1) (by omega), hF.1 _ (hd _ m2) (by omega)]
  exact h k hk
theorem tX7_renew (d o : Nat) (x1 x2 : Int32) (σ : St) (ho : kd o = 6) (hne : gr o 2 ≠ o) (h8 : o ≠ 88) (h88 : gr o 2 ≠ 88) : Ct yX7_renew MX7_renew d [.ref o, .int x1, .int x2] σ (fun v σ' => v = none ∧ Fr [o, gr o 2] [] σ σ' ∧ σ'.1 o 1 = x1 ∧ σ'.1 o 0 = x2 ∧ ∀ i, i < 60 → σ'.1 (gr o 2) i = 0) := by
  refine Ct.of mX7_renew.1 (Nat.le_of_ble_eq_true rfl) (bX7_renew_0 o x1 x2 σ ho ?_)
  refine loopI1 (fun x s => Run MX7_renew d 12 [some (.ref o), none, none, some (.int x)] [] s _) (fun k s => Fr [o, gr o 2] [] σ s ∧ s.1 o 1 = x1 ∧ s.1 o 0 = x2 ∧ ∀ i, i < k → s.1 (gr o 2) i = 0) 60 ?_ ?_ 0 _ (by decide) ⟨(Fr.A (by simp) h8).tA (by simp) h8, by rw [sA_at]; simp [upd_eq, sA_at], by rw [sA_at]; simp [upd_eq], fun i hi => absurd hi (Nat.not_lt_zero i)⟩
  · intro s hs
    exact bX7_renew_12 o (nI 60) s ho (fun q => absurd q (by decide)) (fun _ => ⟨rfl, hs⟩) (fun q => absurd q (by decide))
  · intro k s hk hs ih
    refine bX7_renew_12 o (nI k) s ho (fun _ => vp_in_nI hk (by decide)) (fun q => absurd q (nI_ge hk (by decide))) (fun _ => ih _ ⟨hs.1.tA (by simp) h88, by rw [sA_ne hne.symm]; exact hs.2.1, by rw [sA_ne hne.symm]; exact hs.2.2.1, fun c hc => ?_⟩)
    rw [sA_at, nI_clamp (by omega), upd_eq]
    by_cases e : c = k
    · rw [if_pos e]
    · rw [if_neg e]; exact hs.2.2.2 c (by omega)
theorem pub_sheet (d : Nat) (x1 x2 x3 : Int32) (σ : St) (hR : RS σ) : PB yX10_sheet MX10_sheet (d + 1) yX11_sheet MX11_sheet (d + 2) [.int x1, .int x2, .int x3] σ SH [] RS := by
  by_cases hg : 0 ≤ x1.toInt ∧ x1.toInt < (4 : Nat) ∧ 0 ≤ x2.toInt ∧ x2.toInt < 3 ∧ x3.toInt < (61 : Nat)
  · obtain ⟨k, hk, e1⟩ := ofI hg.1 hg.2.1 (by decide)
    obtain ⟨o1, o2, o3, m1, m2, l1⟩ := sh_o k hk
    by_cases h3 : 0 ≤ x3.toInt
    · obtain ⟨m, hm, e3⟩ := ofI h3 hg.2.2.2.2 (by decide)
      have eo : gr 31 x1.toNatClampNeg = 80 + 2 * k := by rw [e1, nI_clamp (by omega), o1]
      refine Ct.of mX10_sheet.1 (Nat.le_of_ble_eq_true rfl) (bX10_sheet_0 x1 x2 x3 σ (fun a b => False.elim (by simp only [Int32.lt_iff_toInt_lt, Int32.le_iff_toInt_le, Int64.lt_iff_toInt_lt, Int64.le_iff_toInt_le, ← Int32.toInt_inj, ← Int64.toInt_inj, Int32.toInt_toInt64, tim20, tim13, tim12, tim11, tim10, tim4, tim3, tim2, tim1, ti0, ti1, ti2, ti3, ti4, ti5, ti6, ti7, ti8, ti9, ti10, ti11, ti12, ti13, ti14, ti15, ti16, ti24, ti30, ti31, ti32, ti48, ti56, ti57, ti60, ti63, ti99, ti100, ti130, ti199, ti200, ti240, ti999, ti1000, ti20, ti21, ti22, ti23, ti65535, ti32767, ti144, tjm20, tjm13, tjm12, tjm11, tjm10, tjm4, tjm3, tjm2, tjm1, tj0, tj1, tj2, tj3, tj4, tj5, tj6, tj7, tj8, tj9, tj10, tj11, tj12, tj13, tj14, tj15, tj16, tj24, tj30, tj31, tj32, tj48, tj56, tj57, tj60, tj63, tj99, tj100, tj130, tj199, tj200, tj240, tj999, tj1000, tj20, tj21, tj22, tj23, tj65535, tj32767, tj144] at a b; omega)) (fun a b c => False.elim (by simp only [Int32.lt_iff_toInt_lt, Int32.le_iff_toInt_le, Int64.lt_iff_toInt_lt, Int64.le_iff_toInt_le, ← Int32.toInt_inj, ← Int64.toInt_inj, Int32.toInt_toInt64, tim20, tim13, tim12, tim11, tim10, tim4, tim3, tim2, tim1, ti0, ti1, ti2, ti3, ti4, ti5, ti6, ti7, ti8, ti9, ti10, ti11, ti12, ti13, ti14, ti15, ti16, ti24, ti30, ti31, ti32, ti48, ti56, ti57, ti60, ti63, ti99, ti100, ti130, ti199, ti200, ti240, ti999, ti1000, ti20, ti21, ti22, ti23, ti65535, ti32767, ti144, tjm20, tjm13, tjm12, tjm11, tjm10, tjm4, tjm3, tjm2, tjm1, tj0, tj1, tj2, tj3, tj4, tj5, tj6, tj7, tj8, tj9, tj10, tj11, tj12, tj13, tj14, tj15, tj16, tj24, tj30, tj31, tj32, tj48, tj56, tj57, tj60, tj63, tj99, tj100, tj130, tj199, tj200, tj240, tj999, tj1000, tj20, tj21, tj22, tj23, tj65535, tj32767, tj144] at a b c; omega)) (fun _ _ _ _ _ => ?_) (fun a b c e f => False.elim (by simp only [Int32.lt_iff_toInt_lt, Int32.le_iff_toInt_le, Int64.lt_iff_toInt_lt, Int64.le_iff_toInt_le, ← Int32.toInt_inj, ← Int64.toInt_inj, Int32.toInt_toInt64, tim20, tim13, tim12, tim11, tim10, tim4, tim3, tim2, tim1, ti0, ti1, ti2, ti3, ti4, ti5, ti6, ti7, ti8, ti9, ti10, ti11, ti12, ti13, ti14, ti15, ti16, ti24, ti30, ti31, ti32, ti48, ti56, ti57, ti60, ti63, ti99, ti100, ti130, ti199, ti200, ti240, ti999, ti1000, ti20, ti21, ti22, ti23, ti65535, ti32767, ti144, tjm20, tjm13, tjm12, tjm11, tjm10, tjm4, tjm3, tjm2, tjm1, tj0, tj1, tj2, tj3, tj4, tj5, tj6, tj7, tj8, tj9, tj10, tj11, tj12, tj13, tj14, tj15, tj16, tj24, tj30, tj31, tj32, tj48, tj56, tj57, tj60, tj63, tj99, tj100, tj130, tj199, tj200, tj240, tj999, tj1000, tj20, tj21, tj22, tj23, tj65535, tj32767, tj144] at a b c e f; omega)) (fun a b c e => False.elim (by simp only [Int32.lt_iff_toInt_lt, Int32.le_iff_toInt_le, Int64.lt_iff_toInt_lt, Int64.le_iff_toInt_le, ← Int32.toInt_inj, ← Int64.toInt_inj, Int32.toInt_toInt64, tim20, tim13, tim12, tim11, tim10, tim4, tim3, tim2, tim1, ti0, ti1, ti2, ti3, ti4, ti5, ti6, ti7, ti8, ti9, ti10, ti11, ti12, ti13, ti14, ti15, ti16, ti24, ti30, ti31, ti32, ti48, ti56, ti57, ti60, ti63, ti99, ti100, ti130, ti199, ti200, ti240, ti999, ti1000, ti20, ti21, ti22, ti23, ti65535, ti32767, ti144, tjm20, tjm13, tjm12, tjm11, tjm10, tjm4, tjm3, tjm2, tjm1, tj0, tj1, tj2, tj3, tj4, tj5, tj6, tj7, tj8, tj9, tj10, tj11, tj12, tj13, tj14, tj15, tj16, tj24, tj30, tj31, tj32, tj48, tj56, tj57, tj60, tj63, tj99, tj100, tj130, tj199, tj200, tj240, tj999, tj1000, tj20, tj21, tj22, tj23, tj65535, tj32767, tj144] at a b c e; omega)) (fun a => False.elim (by simp only [Int32.lt_iff_toInt_lt, Int32.le_iff_toInt_le, Int64.lt_iff_toInt_lt, Int64.le_iff_toInt_le, ← Int32.toInt_inj, ← Int64.toInt_inj, Int32.toInt_toInt64, tim20, tim13, tim12, tim11, tim10, tim4, tim3, tim2, tim1, ti0, ti1, ti2, ti3, ti4, ti5, ti6, ti7, ti8, ti9, ti10, ti11, ti12, ti13, ti14, ti15, ti16, ti24, ti30, ti31, ti32, ti48, ti56, ti57, ti60, ti63, ti99, ti100, ti130, ti199, ti200, ti240, ti999, ti1000, ti20, ti21, ti22, ti23, ti65535, ti32767, ti144, tjm20, tjm13, tjm12, tjm11, tjm10, tjm4, tjm3, tjm2, tjm1, tj0, tj1, tj2, tj3, tj4, tj5, tj6, tj7, tj8, tj9, tj10, tj11, tj12, tj13, tj14, tj15, tj16, tj24, tj30, tj31, tj32, tj48, tj56, tj57, tj60, tj63, tj99, tj100, tj130, tj199, tj200, tj240, tj999, tj1000, tj20, tj21, tj22, tj23, tj65535, tj32767, tj144] at a; omega)))
      rw [eo]
      refine (tX7_renew d (80 + 2 * k) x2 x3 σ o3 (by rw [o2]; omega) (by omega) (by rw [o2]; omega)).mono ?_
      rintro v1 s1 ⟨hv, hF, f1, f2, f3⟩
      rw [hv]
      rw [o2] at hF f3
      refine bX10_sheet_43 s1 ⟨_, rfl, ?_⟩
      have hF' : Fr SH [] σ s1 := hF.mono (by intro i hi; simp only [List.mem_cons, List.not_mem_nil, or_false] at hi; rcases hi with rfl | rfl <;> assumption) (fun _ h => h)
      refine Ct.of mX11_sheet.1 (Nat.le_of_ble_eq_true rfl) (bX11_sheet_0 x1 x2 x3 s1 (fun _ _ _ => by rw [e1]; exact vp_in_nI hk (by decide)) (fun a => False.elim (by simp only [Int32.lt_iff_toInt_lt, Int32.le_iff_toInt_le, Int64.lt_iff_toInt_lt, Int64.le_iff_toInt_le, ← Int32.toInt_inj, ← Int64.toInt_inj, Int32.toInt_toInt64, tim20, tim13, tim12, tim11, tim10, tim4, tim3, tim2, tim1, ti0, ti1, ti2, ti3, ti4, ti5, ti6, ti7, ti8, ti9, ti10, ti11, ti12, ti13, ti14, ti15, ti16, ti24, ti30, ti31, ti32, ti48, ti56, ti57, ti60, ti63, ti99, ti100, ti130, ti199, ti200, ti240, ti999, ti1000, ti20, ti21, ti22, ti23, ti65535, ti32767, ti144, tjm20, tjm13, tjm12, tjm11, tjm10, tjm4, tjm3, tjm2, tjm1, tj0, tj1, tj2, tj3, tj4, tj5, tj6, tj7, tj8, tj9, tj10, tj11, tj12, tj13, tj14, tj15, tj16, tj24, tj30, tj31, tj32, tj48, tj56, tj57, tj60, tj63, tj99, tj100, tj130, tj199, tj200, tj240, tj999, tj1000, tj20, tj21, tj22, tj23, tj65535, tj32767, tj144] at a; omega)) (fun _ _ _ => ?_) (fun a b c => False.elim (by simp only [Int32.lt_iff_toInt_lt, Int32.le_iff_toInt_le, Int64.lt_iff_toInt_lt, Int64.le_iff_toInt_le, ← Int32.toInt_inj, ← Int64.toInt_inj, Int32.toInt_toInt64, tim20, tim13, tim12, tim11, tim10, tim4, tim3, tim2, tim1, ti0, ti1, ti2, ti3, ti4, ti5, ti6, ti7, ti8, ti9, ti10, ti11, ti12, ti13, ti14, ti15, ti16, ti24, ti30, ti31, ti32, ti48, ti56, ti57, ti60, ti63, ti99, ti100, ti130, ti199, ti200, ti240, ti999, ti1000, ti20, ti21, ti22, ti23, ti65535, ti32767, ti144, tjm20, tjm13, tjm12, tjm11, tjm10, tjm4, tjm3, tjm2, tjm1, tj0, tj1, tj2, tj3, tj4, tj5, tj6, tj7, tj8, tj9, tj10, tj11, tj12, tj13, tj14, tj15, tj16, tj24, tj30, tj31, tj32, tj48, tj56, tj57, tj60, tj63, tj99, tj100, tj130, tj199, tj200, tj240, tj999, tj1000, tj20, tj21, tj22, tj23, tj65535, tj32767, tj144] at a b c; omega)) (fun a b => False.elim (by simp only [Int32.lt_iff_toInt_lt, Int32.le_iff_toInt_le, Int64.lt_iff_toInt_lt, Int64.le_iff_toInt_le, ← Int32.toInt_inj, ← Int64.toInt_inj, Int32.toInt_toInt64, tim20, tim13, tim12, tim11, tim10, tim4, tim3, tim2, tim1, ti0, ti1, ti2, ti3, ti4, ti5, ti6, ti7, ti8, ti9, ti10, ti11, ti12, ti13, ti14, ti15, ti16, ti24, ti30, ti31, ti32, ti48, ti56, ti57, ti60, ti63, ti99, ti100, ti130, ti199, ti200, ti240, ti999, ti1000, ti20, ti21, ti22, ti23, ti65535, ti32767, ti144, tjm20, tjm13, tjm12, tjm11, tjm10, tjm4, tjm3, tjm2, tjm1, tj0, tj1, tj2, tj3, tj4, tj5, tj6, tj7, tj8, tj9, tj10, tj11, tj12, tj13, tj14, tj15, tj16, tj24, tj30, tj31, tj32, tj48, tj56, tj57, tj60, tj63, tj99, tj100, tj130, tj199, tj200, tj240, tj999, tj1000, tj20, tj21, tj22, tj23, tj65535, tj32767, tj144] at a b; omega)))
      rw [e1, nI_clamp (by omega)]
      refine loopI1 (fun x s => Run MX11_sheet (d + 2) 40 [some (.ref 88), some (.int (nI k)), none, none, some (.int x)] [] s _) (fun j s => Fr SH [] σ s ∧ s.1 108 = upd (σ.1 108) k x2 ∧ s.1 109 = upd (σ.1 109) k x3 ∧ (∀ i, i < 108 → s.1 i = s1.1 i) ∧ (∀ i, i < j → s.1 110 (60 * k + i) = 0) ∧ ∀ i, (i < 60 * k ∨ 60 * k + 60 ≤ i) → s.1 110 i = σ.1 110 i) 60 ?_ ?_ 0 _ (by decide) ⟨(hF'.tA (by decide) (by decide)).tA (by decide) (by decide), ?_, ?_, fun i hi => ?_, fun i hi => absurd hi (Nat.not_lt_zero i), fun i _ => ?_⟩
      · intro s ⟨g1, g2, g3, g4, g5, g6⟩
        refine bX11_sheet_40 (nI k) (nI 60) s (fun q => absurd q (by decide)) (fun _ => ⟨rfl, g1, fun k2 hk2 => ?_⟩) (fun q => absurd q (by decide))
        rw [g2, g3, g4 (80 + 2 * k2) (by omega), g4 (81 + 2 * k2) (by omega), upd_eq, upd_eq]
        by_cases e : k2 = k
        · subst e
          rw [if_pos rfl, if_pos rfl, f1, f2]
          exact ⟨rfl, rfl, ⟨m, by omega, e3⟩, fun i hi => by rw [g5 i hi, f3 i hi]⟩
        · rw [if_neg e, if_neg e, hF.1 (80 + 2 * k2) (by simp; omega) (by omega), hF.1 (81 + 2 * k2) (by simp; omega) (by omega)]
          obtain ⟨r1, r2, r3, r4⟩ := hR k2 hk2
          exact ⟨r1, r2, r3, fun i hi => by rw [g6 _ (by omega)]; exact r4 i hi⟩
      · intro j s hj ⟨g1, g2, g3, g4, g5, g6⟩ ih
        have ea : (60 : Int32) * nI k + nI j = nI (60 * k + j) := by rw [show (60 : Int32) = nI 60 from rfl, pk_mul, nI_add]
        refine bX11_sheet_40 (nI k) (nI j) s (fun _ => by rw [ea]; exact vp_in_nI (by omega) (by decide)) (fun q => absurd q (nI_ge hj (by decide))) (fun _ => ih _ ⟨g1.tA (by decide) (by decide), g2, g3, fun i hi => by rw [sA_ne (by omega)]; exact g4 i hi, fun i hi => ?_, fun i hi => ?_⟩)
        · rw [sA_at, ea, nI_clamp (by omega), upd_eq]
          by_cases e : i = j
          · rw [if_pos (by omega)]
          · rw [if_neg (by omega)]; exact g5 i (by omega)
        · rw [sA_at, ea, nI_clamp (by omega), upd_eq, if_neg (by omega)]; exact g6 i hi
      · show upd (s1.1 108) k x2 = _
        rw [hF.1 108 (by simp; omega) (by decide)]
      · show upd (s1.1 109) k x3 = _
        rw [hF.1 109 (by simp; omega) (by decide)]
      · rw [sA_ne (by omega), sA_ne (by omega)]
      · show s1.1 110 i = _
        rw [hF.1 110 (by simp; omega) (by decide)]
    · have bad : Ct yX11_sheet MX11_sheet (d + 2) [.ref 88, .int x1, .int x2, .int x3] σ (fun v2 σ2 => v2 = some (.int (-14)) ∧ Fr SH [] σ σ2 ∧ RS σ2) :=
        Ct.of mX11_sheet.1 (Nat.le_of_ble_eq_true rfl) (bX11_sheet_0 x1 x2 x3 σ (fun a b c => False.elim (by simp only [Int32.lt_iff_toInt_lt, Int32.le_iff_toInt_le, Int64.lt_iff_toInt_lt, Int64.le_iff_toInt_le, ← Int32.toInt_inj, ← Int64.toInt_inj, Int32.toInt_toInt64, tim20, tim13, tim12, tim11, tim10, tim4, tim3, tim2, tim1, ti0, ti1, ti2, ti3, ti4, ti5, ti6, ti7, ti8, ti9, ti10, ti11, ti12, ti13, ti14, ti15, ti16, ti24, ti30, ti31, ti32, ti48, ti56, ti57, ti60, ti63, ti99, ti100, ti130, ti199, ti200, ti240, ti999, ti1000, ti20, ti21, ti22, ti23, ti65535, ti32767, ti144, tjm20, tjm13, tjm12, tjm11, tjm10, tjm4, tjm3, tjm2, tjm1, tj0, tj1, tj2, tj3, tj4, tj5, tj6, tj7, tj8, tj9, tj10, tj11, tj12, tj13, tj14, tj15, tj16, tj24, tj30, tj31, tj32, tj48, tj56, tj57, tj60, tj63, tj99, tj100, tj130, tj199, tj200, tj240, tj999, tj1000, tj20, tj21, tj22, tj23, tj65535, tj32767, tj144] at a b c; omega)) (fun a => False.elim (by simp only [Int32.lt_iff_toInt_lt, Int32.le_iff_toInt_le, Int64.lt_iff_toInt_lt, Int64.le_iff_toInt_le, ← Int32.toInt_inj, ← Int64.toInt_inj, Int32.toInt_toInt64, tim20, tim13, tim12, tim11, tim10, tim4, tim3, tim2, tim1, ti0, ti1, ti2, ti3, ti4, ti5, ti6, ti7, ti8, ti9, ti10, ti11, ti12, ti13, ti14, ti15, ti16, ti24, ti30, ti31, ti32, ti48, ti56, ti57, ti60, ti63, ti99, ti100, ti130, ti199, ti200, ti240, ti999, ti1000, ti20, ti21, ti22, ti23, ti65535, ti32767, ti144, tjm20, tjm13, tjm12, tjm11, tjm10, tjm4, tjm3, tjm2, tjm1, tj0, tj1, tj2, tj3, tj4, tj5, tj6, tj7, tj8, tj9, tj10, tj11, tj12, tj13, tj14, tj15, tj16, tj24, tj30, tj31, tj32, tj48, tj56, tj57, tj60, tj63, tj99, tj100, tj130, tj199, tj200, tj240, tj999, tj1000, tj20, tj21, tj22, tj23, tj65535, tj32767, tj144] at a; omega)) (fun a b c => False.elim (by simp only [Int32.lt_iff_toInt_lt, Int32.le_iff_toInt_le, Int64.lt_iff_toInt_lt, Int64.le_iff_toInt_le, ← Int32.toInt_inj, ← Int64.toInt_inj, Int32.toInt_toInt64, tim20, tim13, tim12, tim11, tim10, tim4, tim3, tim2, tim1, ti0, ti1, ti2, ti3, ti4, ti5, ti6, ti7, ti8, ti9, ti10, ti11, ti12, ti13, ti14, ti15, ti16, ti24, ti30, ti31, ti32, ti48, ti56, ti57, ti60, ti63, ti99, ti100, ti130, ti199, ti200, ti240, ti999, ti1000, ti20, ti21, ti22, ti23, ti65535, ti32767, ti144, tjm20, tjm13, tjm12, tjm11, tjm10, tjm4, tjm3, tjm2, tjm1, tj0, tj1, tj2, tj3, tj4, tj5, tj6, tj7, tj8, tj9, tj10, tj11, tj12, tj13, tj14, tj15, tj16, tj24, tj30, tj31, tj32, tj48, tj56, tj57, tj60, tj63, tj99, tj100, tj130, tj199, tj200, tj240, tj999, tj1000, tj20, tj21, tj22, tj23, tj65535, tj32767, tj144] at a b c; omega)) (fun _ _ _ => ⟨rfl, Fr.rf, hR⟩) (fun a b => False.elim (by simp only [Int32.lt_iff_toInt_lt, Int32.le_iff_toInt_le, Int64.lt_iff_toInt_lt, Int64.le_iff_toInt_le, ← Int32.toInt_inj, ← Int64.toInt_inj, Int32.toInt_toInt64, tim20, tim13, tim12, tim11, tim10, tim4, tim3, tim2, tim1, ti0, ti1, ti2, ti3, ti4, ti5, ti6, ti7, ti8, ti9, ti10, ti11, ti12, ti13, ti14, ti15, ti16, ti24, ti30, ti31, ti32, ti48, ti56, ti57, ti60, ti63, ti99, ti100, ti130, ti199, ti200, ti240, ti999, ti1000, ti20, ti21, ti22, ti23, ti65535, ti32767, ti144, tjm20, tjm13, tjm12, tjm11, tjm10, tjm4, tjm3, tjm2, tjm1, tj0, tj1, tj2, tj3, tj4, tj5, tj6, tj7, tj8, tj9, tj10, tj11, tj12, tj13, tj14, tj15, tj16, tj24, tj30, tj31, tj32, tj48, tj56, tj57, tj60, tj63, tj99, tj100, tj130, tj199, tj200, tj240, tj999, tj1000, tj20, tj21, tj22, tj23, tj65535, tj32767, tj144] at a b; omega)))
      exact Ct.of mX10_sheet.1 (Nat.le_of_ble_eq_true rfl) (bX10_sheet_0 x1 x2 x3 σ (fun a b => False.elim (by simp only [Int32.lt_iff_toInt_lt, Int32.le_iff_toInt_le, Int64.lt_iff_toInt_lt, Int64.le_iff_toInt_le, ← Int32.toInt_inj, ← Int64.toInt_inj, Int32.toInt_toInt64, tim20, tim13, tim12, tim11, tim10, tim4, tim3, tim2, tim1, ti0, ti1, ti2, ti3, ti4, ti5, ti6, ti7, ti8, ti9, ti10, ti11, ti12, ti13, ti14, ti15, ti16, ti24, ti30, ti31, ti32, ti48, ti56, ti57, ti60, ti63, ti99, ti100, ti130, ti199, ti200, ti240, ti999, ti1000, ti20, ti21, ti22, ti23, ti65535, ti32767, ti144, tjm20, tjm13, tjm12, tjm11, tjm10, tjm4, tjm3, tjm2, tjm1, tj0, tj1, tj2, tj3, tj4, tj5, tj6, tj7, tj8, tj9, tj10, tj11, tj12, tj13, tj14, tj15, tj16, tj24, tj30, tj31, tj32, tj48, tj56, tj57, tj60, tj63, tj99, tj100, tj130, tj199, tj200, tj240, tj999, tj1000, tj20, tj21, tj22, tj23, tj65535, tj32767, tj144] at a b; omega)) (fun a b c => False.elim (by simp only [Int32.lt_iff_toInt_lt, Int32.le_iff_toInt_le, Int64.lt_iff_toInt_lt, Int64.le_iff_toInt_le, ← Int32.toInt_inj, ← Int64.toInt_inj, Int32.toInt_toInt64, tim20, tim13, tim12, tim11, tim10, tim4, tim3, tim2, tim1, ti0, ti1, ti2, ti3, ti4, ti5, ti6, ti7, ti8, ti9, ti10, ti11, ti12, ti13, ti14, ti15, ti16, ti24, ti30, ti31, ti32, ti48, ti56, ti57, ti60, ti63, ti99, ti100, ti130, ti199, ti200, ti240, ti999, ti1000, ti20, ti21, ti22, ti23, ti65535, ti32767, ti144, tjm20, tjm13, tjm12, tjm11, tjm10, tjm4, tjm3, tjm2, tjm1, tj0, tj1, tj2, tj3, tj4, tj5, tj6, tj7, tj8, tj9, tj10, tj11, tj12, tj13, tj14, tj15, tj16, tj24, tj30, tj31, tj32, tj48, tj56, tj57, tj60, tj63, tj99, tj100, tj130, tj199, tj200, tj240, tj999, tj1000, tj20, tj21, tj22, tj23, tj65535, tj32767, tj144] at a b c; omega)) (fun a b c e f => False.elim (by simp only [Int32.lt_iff_toInt_lt, Int32.le_iff_toInt_le, Int64.lt_iff_toInt_lt, Int64.le_iff_toInt_le, ← Int32.toInt_inj, ← Int64.toInt_inj, Int32.toInt_toInt64, tim20, tim13, tim12, tim11, tim10, tim4, tim3, tim2, tim1, ti0, ti1, ti2, ti3, ti4, ti5, ti6, ti7, ti8, ti9, ti10, ti11, ti12, ti13, ti14, ti15, ti16, ti24, ti30, ti31, ti32, ti48, ti56, ti57, ti60, ti63, ti99, ti100, ti130, ti199, ti200, ti240, ti999, ti1000, ti20, ti21, ti22, ti23, ti65535, ti32767, ti144, tjm20, tjm13, tjm12, tjm11, tjm10, tjm4, tjm3, tjm2, tjm1, tj0, tj1, tj2, tj3, tj4, tj5, tj6, tj7, tj8, tj9, tj10, tj11, tj12, tj13, tj14, tj15, tj16, tj24, tj30, tj31, tj32, tj48, tj56, tj57, tj60, tj63, tj99, tj100, tj130, tj199, tj200, tj240, tj999, tj1000, tj20, tj21, tj22, tj23, tj65535, tj32767, tj144] at a b c e f; omega)) (fun _ _ _ _ _ => ⟨_, rfl, bad⟩) (fun a b c e => False.elim (by simp only [Int32.lt_iff_toInt_lt, Int32.le_iff_toInt_le, Int64.lt_iff_toInt_lt, Int64.le_iff_toInt_le, ← Int32.toInt_inj, ← Int64.toInt_inj, Int32.toInt_toInt64, tim20, tim13, tim12, tim11, tim10, tim4, tim3, tim2, tim1, ti0, ti1, ti2, ti3, ti4, ti5, ti6, ti7, ti8, ti9, ti10, ti11, ti12, ti13, ti14, ti15, ti16, ti24, ti30, ti31, ti32, ti48, ti56, ti57, ti60, ti63, ti99, ti100, ti130, ti199, ti200, ti240, ti999, ti1000, ti20, ti21, ti22, ti23, ti65535, ti32767, ti144, tjm20, tjm13, tjm12, tjm11, tjm10, tjm4, tjm3, tjm2, tjm1, tj0, tj1, tj2, tj3, tj4, tj5, tj6, tj7, tj8, tj9, tj10, tj11, tj12, tj13, tj14, tj15, tj16, tj24, tj30, tj31, tj32, tj48, tj56, tj57, tj60, tj63, tj99, tj100, tj130, tj199, tj200, tj240, tj999, tj1000, tj20, tj21, tj22, tj23, tj65535, tj32767, tj144] at a b c e; omega)) (fun a => False.elim (by simp only [Int32.lt_iff_toInt_lt, Int32.le_iff_toInt_le, Int64.lt_iff_toInt_lt, Int64.le_iff_toInt_le, ← Int32.toInt_inj, ← Int64.toInt_inj, Int32.toInt_toInt64, tim20, tim13, tim12, tim11, tim10, tim4, tim3, tim2, tim1, ti0, ti1, ti2, ti3, ti4, ti5, ti6, ti7, ti8, ti9, ti10, ti11, ti12, ti13, ti14, ti15, ti16, ti24, ti30, ti31, ti32, ti48, ti56, ti57, ti60, ti63, ti99, ti100, ti130, ti199, ti200, ti240, ti999, ti1000, ti20, ti21, ti22, ti23, ti65535, ti32767, ti144, tjm20, tjm13, tjm12, tjm11, tjm10, tjm4, tjm3, tjm2, tjm1, tj0, tj1, tj2, tj3, tj4, tj5, tj6, tj7, tj8, tj9, tj10, tj11, tj12, tj13, tj14, tj15, tj16, tj24, tj30, tj31, tj32, tj48, tj56, tj57, tj60, tj63, tj99, tj100, tj130, tj199, tj200, tj240, tj999, tj1000, tj20, tj21, tj22, tj23, tj65535, tj32767, tj144] at a; omega)))
  · have bad : Ct yX11_sheet MX11_sheet (d + 2) [.ref 88, .int x1, .int x2, .int x3] σ (fun v2 σ2 => v2 = some (.int (-1)) ∧ Fr SH [] σ σ2 ∧ RS σ2) :=
      Ct.of mX11_sheet.1 (Nat.le_of_ble_eq_true rfl) (bX11_sheet_0 x1 x2 x3 σ (fun a b c => False.elim (by simp only [Int32.lt_iff_toInt_lt, Int32.le_iff_toInt_le, Int64.lt_iff_toInt_lt, Int64.le_iff_toInt_le, ← Int32.toInt_inj, ← Int64.toInt_inj, Int32.toInt_toInt64, tim20, tim13, tim12, tim11, tim10, tim4, tim3, tim2, tim1, ti0, ti1, ti2, ti3, ti4, ti5, ti6, ti7, ti8, ti9, ti10, ti11, ti12, ti13, ti14, ti15, ti16, ti24, ti30, ti31, ti32, ti48, ti56, ti57, ti60, ti63, ti99, ti100, ti130, ti199, ti200, ti240, ti999, ti1000, ti20, ti21, ti22, ti23, ti65535, ti32767, ti144, tjm20, tjm13, tjm12, tjm11, tjm10, tjm4, tjm3, tjm2, tjm1, tj0, tj1, tj2, tj3, tj4, tj5, tj6, tj7, tj8, tj9, tj10, tj11, tj12, tj13, tj14, tj15, tj16, tj24, tj30, tj31, tj32, tj48, tj56, tj57, tj60, tj63, tj99, tj100, tj130, tj199, tj200, tj240, tj999, tj1000, tj20, tj21, tj22, tj23, tj65535, tj32767, tj144] at a b c; omega)) (fun _ => ⟨rfl, Fr.rf, hR⟩) (fun a b c => False.elim (by simp only [Int32.lt_iff_toInt_lt, Int32.le_iff_toInt_le, Int64.lt_iff_toInt_lt, Int64.le_iff_toInt_le, ← Int32.toInt_inj, ← Int64.toInt_inj, Int32.toInt_toInt64, tim20, tim13, tim12, tim11, tim10, tim4, tim3, tim2, tim1, ti0, ti1, ti2, ti3, ti4, ti5, ti6, ti7, ti8, ti9, ti10, ti11, ti12, ti13, ti14, ti15, ti16, ti24, ti30, ti31, ti32, ti48, ti56, ti57, ti60, ti63, ti99, ti100, ti130, ti199, ti200, ti240, ti999, ti1000, ti20, ti21, ti22, ti23, ti65535, ti32767, ti144, tjm20, tjm13, tjm12, tjm11, tjm10, tjm4, tjm3, tjm2, tjm1, tj0, tj1, tj2, tj3, tj4, tj5, tj6, tj7, tj8, tj9, tj10, tj11, tj12, tj13, tj14, tj15, tj16, tj24, tj30, tj31, tj32, tj48, tj56, tj57, tj60, tj63, tj99, tj100, tj130, tj199, tj200, tj240, tj999, tj1000, tj20, tj21, tj22, tj23, tj65535, tj32767, tj144] at a b c; omega)) (fun a b c => False.elim (by simp only [Int32.lt_iff_toInt_lt, Int32.le_iff_toInt_le, Int64.lt_iff_toInt_lt, Int64.le_iff_toInt_le, ← Int32.toInt_inj, ← Int64.toInt_inj, Int32.toInt_toInt64, tim20, tim13, tim12, tim11, tim10, tim4, tim3, tim2, tim1, ti0, ti1, ti2, ti3, ti4, ti5, ti6, ti7, ti8, ti9, ti10, ti11, ti12, ti13, ti14, ti15, ti16, ti24, ti30, ti31, ti32, ti48, ti56, ti57, ti60, ti63, ti99, ti100, ti130, ti199, ti200, ti240, ti999, ti1000, ti20, ti21, ti22, ti23, ti65535, ti32767, ti144, tjm20, tjm13, tjm12, tjm11, tjm10, tjm4, tjm3, tjm2, tjm1, tj0, tj1, tj2, tj3, tj4, tj5, tj6, tj7, tj8, tj9, tj10, tj11, tj12, tj13, tj14, tj15, tj16, tj24, tj30, tj31, tj32, tj48, tj56, tj57, tj60, tj63, tj99, tj100, tj130, tj199, tj200, tj240, tj999, tj1000, tj20, tj21, tj22, tj23, tj65535, tj32767, tj144] at a b c; omega)) (fun _ _ => ⟨rfl, Fr.rf, hR⟩))
    exact Ct.of mX10_sheet.1 (Nat.le_of_ble_eq_true rfl) (bX10_sheet_0 x1 x2 x3 σ (fun _ _ => ⟨_, rfl, bad⟩) (fun _ _ _ => ⟨_, rfl, bad⟩) (fun a b c e f => False.elim (by simp only [Int32.lt_iff_toInt_lt, Int32.le_iff_toInt_le, Int64.lt_iff_toInt_lt, Int64.le_iff_toInt_le, ← Int32.toInt_inj, ← Int64.toInt_inj, Int32.toInt_toInt64, tim20, tim13, tim12, tim11, tim10, tim4, tim3, tim2, tim1, ti0, ti1, ti2, ti3, ti4, ti5, ti6, ti7, ti8, ti9, ti10, ti11, ti12, ti13, ti14, ti15, ti16, ti24, ti30, ti31, ti32, ti48, ti56, ti57, ti60, ti63, ti99, ti100, ti130, ti199, ti200, ti240, ti999, ti1000, ti20, ti21, ti22, ti23, ti65535, ti32767, ti144, tjm20, tjm13, tjm12, tjm11, tjm10, tjm4, tjm3, tjm2, tjm1, tj0, tj1, tj2, tj3, tj4, tj5, tj6, tj7, tj8, tj9, tj10, tj11, tj12, tj13, tj14, tj15, tj16, tj24, tj30, tj31, tj32, tj48, tj56, tj57, tj60, tj63, tj99, tj100, tj130, tj199, tj200, tj240, tj999, tj1000, tj20, tj21, tj22, tj23, tj65535, tj32767, tj144] at a b c e f; omega)) (fun a b c e f => False.elim (by simp only [Int32.lt_iff_toInt_lt, Int32.le_iff_toInt_le, Int64.lt_iff_toInt_lt, Int64.le_iff_toInt_le, ← Int32.toInt_inj, ← Int64.toInt_inj, Int32.toInt_toInt64, tim20, tim13, tim12, tim11, tim10, tim4, tim3, tim2, tim1, ti0, ti1, ti2, ti3, ti4, ti5, ti6, ti7, ti8, ti9, ti10, ti11, ti12, ti13, ti14, ti15, ti16, ti24, ti30, ti31, ti32, ti48, ti56, ti57, ti60, ti63, ti99, ti100, ti130, ti199, ti200, ti240, ti999, ti1000, ti20, ti21, ti22, ti23, ti65535, ti32767, ti144, tjm20, tjm13, tjm12, tjm11, tjm10, tjm4, tjm3, tjm2, tjm1, tj0, tj1, tj2, tj3, tj4, tj5, tj6, tj7, tj8, tj9, tj10, tj11, tj12, tj13, tj14, tj15, tj16, tj24, tj30, tj31, tj32, tj48, tj56, tj57, tj60, tj63, tj99, tj100, tj130, tj199, tj200, tj240, tj999, tj1000, tj20, tj21, tj22, tj23, tj65535, tj32767, tj144] at a b c e f; omega)) (fun _ _ _ _ => ⟨_, rfl, bad⟩) (fun _ => ⟨_, rfl, bad⟩))
theorem pub_lay (d : Nat) (x1 x2 x3 : Int32) (σ : St) (hR : RS σ) : PB yX10_lay MX10_lay (d + 2) yX11_lay MX11_lay (d + 2) [.int x1, .int x2, .int x3] σ SH [] RS := by
  by_cases hg : 0 ≤ x1.toInt ∧ x1.toInt < (4 : Nat)
  · obtain ⟨k, hk, e1⟩ := ofI hg.1 hg.2 (by decide)
    obtain ⟨o1, o2, o3, m1, m2, l1⟩ := sh_o k hk
    obtain ⟨r1, r2, ⟨m, hm, r3⟩, r4⟩ := hR k hk
    have ec : x1.toNatClampNeg = k := by rw [e1, nI_clamp (by omega)]
    have eo : gr 31 x1.toNatClampNeg = 80 + 2 * k := by rw [ec, o1]
    have ref : ∀ (r : Int32) (s : St) , s.1 108 = σ.1 108 → s.1 109 = σ.1 109 → (σ.1 (80 + 2 * k) 1 = (-4) → r = -11 ∧ s = σ) → (¬ σ.1 (80 + 2 * k) 1 = (-4) → ¬ (0 ≤ x2.toInt ∧ x2.toInt < m) → r = -12 ∧ s = σ) → (¬ σ.1 (80 + 2 * k) 1 = (-4) → (0 ≤ x2.toInt ∧ x2.toInt < m) → r = 1 ∧ Fr SH [] σ s ∧ ∀ j, x2 = nI j → j < 60 → RS (sA s 110 (upd (s.1 110) (60 * k + j) (if (σ.1 (80 + 2 * k) 1) = 0 then x3.toInt8.toInt32 else (if (σ.1 (80 + 2 * k) 1) = 1 then x3.toInt16.toInt32 else x3))))) → Ct yX11_lay MX11_lay (d + 2) [.ref 88, .int x1, .int x2, .int x3] s (fun v2 σ2 => v2 = some (.int r) ∧ Fr SH [] σ σ2 ∧ RS σ2) := by
      intro r s e108 e109 c1 c2 c3
      have hsz : ((s.1 109 x1.toNatClampNeg) - 1).toInt = (m : Int) - 1 := by
        rw [ec, e109, r2, r3, show nI m - 1 = zI ((m : Int) - 1) by (simp only [nI_zI, zl0, zl1, zl2, zl3, zl4, zl5, zl6, zl7, zl8, zl9, zl10, zl11, zl12, zl13, zl14, zl15, zl16, zl24, zl30, zl31, zl32, zl48, zl56, zl57, zl60, zl63, zl99, zl100, zl130, zl199, zl200, zl240, zl999, zl1000, ← zI_add, ← zI_sub, ← zI_mul, ← zI_neg] <;> first | rfl | (congr 1; omega)), zI_toInt (by omega) (by omega)]
      refine Ct.of mX11_lay.1 (Nat.le_of_ble_eq_true rfl) (bX11_lay_0 x1 x2 x3 s (fun _ => by rw [e1]; exact vp_in_nI hk (by decide)) (fun _ _ b => ?_) (fun _ a b => ?_) (fun _ a b => ?_) (fun _ a => ?_) (fun a => ?_))
      · simp only [Int64.le_iff_toInt_le, Int32.toInt_toInt64, hsz, tj0] at b
        rw [vp_in_iff, e1, show (60 : Int32) * nI k + x2 = zI (60 * k + x2.toInt) by rw [zI_add, zI_mul, ← nI_zI, ← zI_of]; rfl, zI_toInt (by omega) (by omega)]
        omega
      · simp only [Int64.le_iff_toInt_le, Int32.toInt_toInt64, hsz, tj0] at b
        rw [ec, e108, r1] at a
        obtain ⟨c4, c5, c6⟩ := c3 a (by omega)
        obtain ⟨j, hj, e2⟩ := ofI (x := x2) (n := 60) b.1 (by omega) (by decide)
        refine ⟨by rw [c4], c5.tA (by decide) (by decide), ?_⟩
        have := c6 j e2 hj
        rw [ec, e108, r1, e1, e2, show (60 : Int32) * nI k + nI j = nI (60 * k + j) by rw [show (60 : Int32) = nI 60 from rfl, pk_mul, nI_add], nI_clamp (by omega)]
        exact this
      · simp only [Int64.le_iff_toInt_le, Int32.toInt_toInt64, hsz, tj0] at b
        rw [ec, e108, r1] at a
        obtain ⟨c4, c5⟩ := c2 a (by omega)
        rw [c4, c5]
        exact ⟨rfl, Fr.rf, hR⟩
      · rw [ec, e108, r1] at a
        obtain ⟨c4, c5⟩ := c1 a
        rw [c4, c5]
        exact ⟨rfl, Fr.rf, hR⟩
      · exfalso; simp only [Int32.lt_iff_toInt_lt, Int32.le_iff_toInt_le, Int64.lt_iff_toInt_lt, Int64.le_iff_toInt_le, ← Int32.toInt_inj, ← Int64.toInt_inj, Int32.toInt_toInt64, tim20, tim13, tim12, tim11, tim10, tim4, tim3, tim2, tim1, ti0, ti1, ti2, ti3, ti4, ti5, ti6, ti7, ti8, ti9, ti10, ti11, ti12, ti13, ti14, ti15, ti16, ti24, ti30, ti31, ti32, ti48, ti56, ti57, ti60, ti63, ti99, ti100, ti130, ti199, ti200, ti240, ti999, ti1000, ti20, ti21, ti22, ti23, ti65535, ti32767, ti144, tjm20, tjm13, tjm12, tjm11, tjm10, tjm4, tjm3, tjm2, tjm1, tj0, tj1, tj2, tj3, tj4, tj5, tj6, tj7, tj8, tj9, tj10, tj11, tj12, tj13, tj14, tj15, tj16, tj24, tj30, tj31, tj32, tj48, tj56, tj57, tj60, tj63, tj99, tj100, tj130, tj199, tj200, tj240, tj999, tj1000, tj20, tj21, tj22, tj23, tj65535, tj32767, tj144] at a; omega
    have hsz : (σ.1 (80 + 2 * k) 0).toInt = m := by rw [r3, nI_toInt (by omega)]
    refine Ct.of mX10_lay.1 (Nat.le_of_ble_eq_true rfl) (bX10_lay_0 x1 x2 x3 σ (fun _ a b => ?_) (fun _ a b => ?_) (fun _ a => ?_) (fun a => False.elim (by simp only [Int32.lt_iff_toInt_lt, Int32.le_iff_toInt_le, Int64.lt_iff_toInt_lt, Int64.le_iff_toInt_le, ← Int32.toInt_inj, ← Int64.toInt_inj, Int32.toInt_toInt64, tim20, tim13, tim12, tim11, tim10, tim4, tim3, tim2, tim1, ti0, ti1, ti2, ti3, ti4, ti5, ti6, ti7, ti8, ti9, ti10, ti11, ti12, ti13, ti14, ti15, ti16, ti24, ti30, ti31, ti32, ti48, ti56, ti57, ti60, ti63, ti99, ti100, ti130, ti199, ti200, ti240, ti999, ti1000, ti20, ti21, ti22, ti23, ti65535, ti32767, ti144, tjm20, tjm13, tjm12, tjm11, tjm10, tjm4, tjm3, tjm2, tjm1, tj0, tj1, tj2, tj3, tj4, tj5, tj6, tj7, tj8, tj9, tj10, tj11, tj12, tj13, tj14, tj15, tj16, tj24, tj30, tj31, tj32, tj48, tj56, tj57, tj60, tj63, tj99, tj100, tj130, tj199, tj200, tj240, tj999, tj1000, tj20, tj21, tj22, tj23, tj65535, tj32767, tj144] at a; omega)))
    · rw [eo] at a b ⊢
      simp only [Int32.le_iff_toInt_le, Int32.lt_iff_toInt_lt, hsz, ti0] at b
      obtain ⟨j, hj, e2⟩ := ofI (x := x2) (n := 60) b.1 (by omega) (by decide)
      have es : sX7_write (80 + 2 * k) x2 x3 σ = sA σ (81 + 2 * k) (upd (σ.1 (81 + 2 * k)) j (if (σ.1 (80 + 2 * k) 1) = 0 then x3.toInt8.toInt32 else (if (σ.1 (80 + 2 * k) 1) = 1 then x3.toInt16.toInt32 else x3))) := by
        unfold sX7_write; rw [o2, e2]; exact aP_in l1 hj
      rw [es]
      refine ⟨_, rfl, ref 1 _ (sA_ne (by omega)) (sA_ne (by omega)) (fun q => absurd q a) (fun _ q => absurd b q) (fun _ _ => ⟨rfl, Fr.A m2 (by omega), fun j' e' hj' => ?_⟩)⟩
      have ej : j' = j := (nI_eq (by omega) (by omega)).mp (e'.symm.trans e2)
      subst ej
      intro k2 hk2
      obtain ⟨q1, q2, q3, q4⟩ := hR k2 hk2
      rw [sA_ne (show 108 ≠ 110 by decide), sA_ne (show 109 ≠ 110 by decide), sA_ne (show 80 + 2 * k2 ≠ 110 by omega), sA_ne (show 81 + 2 * k2 ≠ 110 by omega), sA_ne (show 108 ≠ 81 + 2 * k by omega), sA_ne (show 109 ≠ 81 + 2 * k by omega), sA_ne (show 80 + 2 * k2 ≠ 81 + 2 * k by omega), sA_ne (show 110 ≠ 81 + 2 * k by omega)]
      refine ⟨q1, q2, q3, fun i hi => ?_⟩
      rw [sA_at, upd_eq]
      by_cases e : k2 = k
      · subst e
        rw [sA_at, upd_eq]
        by_cases e' : i = j'
        · rw [if_pos (by omega), if_pos e']
        · rw [if_neg (by omega), if_neg e']; exact q4 i hi
      · rw [if_neg (by omega), sA_ne (by omega)]; exact q4 i hi
    · rw [eo] at a b
      simp only [Int32.le_iff_toInt_le, Int32.lt_iff_toInt_lt, hsz, ti0] at b
      exact ⟨_, rfl, ref _ σ rfl rfl (fun q => absurd q a) (fun _ _ => ⟨rfl, rfl⟩) (fun _ q => absurd q b)⟩
    · rw [eo] at a
      exact ⟨_, rfl, ref _ σ rfl rfl (fun _ => ⟨rfl, rfl⟩) (fun q => absurd a q) (fun q => absurd a q)⟩
  · have bad : Ct yX11_lay MX11_lay (d + 2) [.ref 88, .int x1, .int x2, .int x3] σ (fun v2 σ2 => v2 = some (.int (-1)) ∧ Fr SH [] σ σ2 ∧ RS σ2) :=
      Ct.of mX11_lay.1 (Nat.le_of_ble_eq_true rfl) (bX11_lay_0 x1 x2 x3 σ (fun a => False.elim (by simp only [Int32.lt_iff_toInt_lt, Int32.le_iff_toInt_le, Int64.lt_iff_toInt_lt, Int64.le_iff_toInt_le, ← Int32.toInt_inj, ← Int64.toInt_inj, Int32.toInt_toInt64, tim20, tim13, tim12, tim11, tim10, tim4, tim3, tim2, tim1, ti0, ti1, ti2, ti3, ti4, ti5, ti6, ti7, ti8, ti9, ti10, ti11, ti12, ti13, ti14, ti15, ti16, ti24, ti30, ti31, ti32, ti48, ti56, ti57, ti60, ti63, ti99, ti100, ti130, ti199, ti200, ti240, ti999, ti1000, ti20, ti21, ti22, ti23, ti65535, ti32767, ti144, tjm20, tjm13, tjm12, tjm11, tjm10, tjm4, tjm3, tjm2, tjm1, tj0, tj1, tj2, tj3, tj4, tj5, tj6, tj7, tj8, tj9, tj10, tj11, tj12, tj13, tj14, tj15, tj16, tj24, tj30, tj31, tj32, tj48, tj56, tj57, tj60, tj63, tj99, tj100, tj130, tj199, tj200, tj240, tj999, tj1000, tj20, tj21, tj22, tj23, tj65535, tj32767, tj144] at a; omega)) (fun a _ _ => False.elim (by simp only [Int32.lt_iff_toInt_lt, Int32.le_iff_toInt_le, Int64.lt_iff_toInt_lt, Int64.le_iff_toInt_le, ← Int32.toInt_inj, ← Int64.toInt_inj, Int32.toInt_toInt64, tim20, tim13, tim12, tim11, tim10, tim4, tim3, tim2, tim1, ti0, ti1, ti2, ti3, ti4, ti5, ti6, ti7, ti8, ti9, ti10, ti11, ti12, ti13, ti14, ti15, ti16, ti24, ti30, ti31, ti32, ti48, ti56, ti57, ti60, ti63, ti99, ti100, ti130, ti199, ti200, ti240, ti999, ti1000, ti20, ti21, ti22, ti23, ti65535, ti32767, ti144, tjm20, tjm13, tjm12, tjm11, tjm10, tjm4, tjm3, tjm2, tjm1, tj0, tj1, tj2, tj3, tj4, tj5, tj6, tj7, tj8, tj9, tj10, tj11, tj12, tj13, tj14, tj15, tj16, tj24, tj30, tj31, tj32, tj48, tj56, tj57, tj60, tj63, tj99, tj100, tj130, tj199, tj200, tj240, tj999, tj1000, tj20, tj21, tj22, tj23, tj65535, tj32767, tj144] at a; omega)) (fun a _ _ => False.elim (by simp only [Int32.lt_iff_toInt_lt, Int32.le_iff_toInt_le, Int64.lt_iff_toInt_lt, Int64.le_iff_toInt_le, ← Int32.toInt_inj, ← Int64.toInt_inj, Int32.toInt_toInt64, tim20, tim13, tim12, tim11, tim10, tim4, tim3, tim2, tim1, ti0, ti1, ti2, ti3, ti4, ti5, ti6, ti7, ti8, ti9, ti10, ti11, ti12, ti13, ti14, ti15, ti16, ti24, ti30, ti31, ti32, ti48, ti56, ti57, ti60, ti63, ti99, ti100, ti130, ti199, ti200, ti240, ti999, ti1000, ti20, ti21, ti22, ti23, ti65535, ti32767, ti144, tjm20, tjm13, tjm12, tjm11, tjm10, tjm4, tjm3, tjm2, tjm1, tj0, tj1, tj2, tj3, tj4, tj5, tj6, tj7, tj8, tj9, tj10, tj11, tj12, tj13, tj14, tj15, tj16, tj24, tj30, tj31, tj32, tj48, tj56, tj57, tj60, tj63, tj99, tj100, tj130, tj199, tj200, tj240, tj999, tj1000, tj20, tj21, tj22, tj23, tj65535, tj32767, tj144] at a; omega)) (fun a _ _ => False.elim (by simp only [Int32.lt_iff_toInt_lt, Int32.le_iff_toInt_le, Int64.lt_iff_toInt_lt, Int64.le_iff_toInt_le, ← Int32.toInt_inj, ← Int64.toInt_inj, Int32.toInt_toInt64, tim20, tim13, tim12, tim11, tim10, tim4, tim3, tim2, tim1, ti0, ti1, ti2, ti3, ti4, ti5, ti6, ti7, ti8, ti9, ti10, ti11, ti12, ti13, ti14, ti15, ti16, ti24, ti30, ti31, ti32, ti48, ti56, ti57, ti60, ti63, ti99, ti100, ti130, ti199, ti200, ti240, ti999, ti1000, ti20, ti21, ti22, ti23, ti65535, ti32767, ti144, tjm20, tjm13, tjm12, tjm11, tjm10, tjm4, tjm3, tjm2, tjm1, tj0, tj1, tj2, tj3, tj4, tj5, tj6, tj7, tj8, tj9, tj10, tj11, tj12, tj13, tj14, tj15, tj16, tj24, tj30, tj31, tj32, tj48, tj56, tj57, tj60, tj63, tj99, tj100, tj130, tj199, tj200, tj240, tj999, tj1000, tj20, tj21, tj22, tj23, tj65535, tj32767, tj144] at a; omega)) (fun a _ => False.elim (by simp only [Int32.lt_iff_toInt_lt, Int32.le_iff_toInt_le, Int64.lt_iff_toInt_lt, Int64.le_iff_toInt_le, ← Int32.toInt_inj, ← Int64.toInt_inj, Int32.toInt_toInt64, tim20, tim13, tim12, tim11, tim10, tim4, tim3, tim2, tim1, ti0, ti1, ti2, ti3, ti4, ti5, ti6, ti7, ti8, ti9, ti10, ti11, ti12, ti13, ti14, ti15, ti16, ti24, ti30, ti31, ti32, ti48, ti56, ti57, ti60, ti63, ti99, ti100, ti130, ti199, ti200, ti240, ti999, ti1000, ti20, ti21, ti22, ti23, ti65535, ti32767, ti144, tjm20, tjm13, tjm12, tjm11, tjm10, tjm4, tjm3, tjm2, tjm1, tj0, tj1, tj2, tj3, tj4, tj5, tj6, tj7, tj8, tj9, tj10, tj11, tj12, tj13, tj14, tj15, tj16, tj24, tj30, tj31, tj32, tj48, tj56, tj57, tj60, tj63, tj99, tj100, tj130, tj199, tj200, tj240, tj999, tj1000, tj20, tj21, tj22, tj23, tj65535, tj32767, tj144] at a; omega)) (fun _ => ⟨rfl, Fr.rf, hR⟩))
    exact Ct.of mX10_lay.1 (Nat.le_of_ble_eq_true rfl) (bX10_lay_0 x1 x2 x3 σ (fun a _ _ => False.elim (by simp only [Int32.lt_iff_toInt_lt, Int32.le_iff_toInt_le, Int64.lt_iff_toInt_lt, Int64.le_iff_toInt_le, ← Int32.toInt_inj, ← Int64.toInt_inj, Int32.toInt_toInt64, tim20, tim13, tim12, tim11, tim10, tim4, tim3, tim2, tim1, ti0, ti1, ti2, ti3, ti4, ti5, ti6, ti7, ti8, ti9, ti10, ti11, ti12, ti13, ti14, ti15, ti16, ti24, ti30, ti31, ti32, ti48, ti56, ti57, ti60, ti63, ti99, ti100, ti130, ti199, ti200, ti240, ti999, ti1000, ti20, ti21, ti22, ti23, ti65535, ti32767, ti144, tjm20, tjm13, tjm12, tjm11, tjm10, tjm4, tjm3, tjm2, tjm1, tj0, tj1, tj2, tj3, tj4, tj5, tj6, tj7, tj8, tj9, tj10, tj11, tj12, tj13, tj14, tj15, tj16, tj24, tj30, tj31, tj32, tj48, tj56, tj57, tj60, tj63, tj99, tj100, tj130, tj199, tj200, tj240, tj999, tj1000, tj20, tj21, tj22, tj23, tj65535, tj32767, tj144] at a; omega)) (fun a _ _ => False.elim (by simp only [Int32.lt_iff_toInt_lt, Int32.le_iff_toInt_le, Int64.lt_iff_toInt_lt, Int64.le_iff_toInt_le, ← Int32.toInt_inj, ← Int64.toInt_inj, Int32.toInt_toInt64, tim20, tim13, tim12, tim11, tim10, tim4, tim3, tim2, tim1, ti0, ti1, ti2, ti3, ti4, ti5, ti6, ti7, ti8, ti9, ti10, ti11, ti12, ti13, ti14, ti15, ti16, ti24, ti30, ti31, ti32, ti48, ti56, ti57, ti60, ti63, ti99, ti100, ti130, ti199, ti200, ti240, ti999, ti1000, ti20, ti21, ti22, ti23, ti65535, ti32767, ti144, tjm20, tjm13, tjm12, tjm11, tjm10, tjm4, tjm3, tjm2, tjm1, tj0, tj1, tj2, tj3, tj4, tj5, tj6, tj7, tj8, tj9, tj10, tj11, tj12, tj13, tj14, tj15, tj16, tj24, tj30, tj31, tj32, tj48, tj56, tj57, tj60, tj63, tj99, tj100, tj130, tj199, tj200, tj240, tj999, tj1000, tj20, tj21, tj22, tj23, tj65535, tj32767, tj144] at a; omega)) (fun a _ => False.elim (by simp only [Int32.lt_iff_toInt_lt, Int32.le_iff_toInt_le, Int64.lt_iff_toInt_lt, Int64.le_iff_toInt_le, ← Int32.toInt_inj, ← Int64.toInt_inj, Int32.toInt_toInt64, tim20, tim13, tim12, tim11, tim10, tim4, tim3, tim2, tim1, ti0, ti1, ti2, ti3, ti4, ti5, ti6, ti7, ti8, ti9, ti10, ti11, ti12, ti13, ti14, ti15, ti16, ti24, ti30, ti31, ti32, ti48, ti56, ti57, ti60, ti63, ti99, ti100, ti130, ti199, ti200, ti240, ti999, ti1000, ti20, ti21, ti22, ti23, ti65535, ti32767, ti144, tjm20, tjm13, tjm12, tjm11, tjm10, tjm4, tjm3, tjm2, tjm1, tj0, tj1, tj2, tj3, tj4, tj5, tj6, tj7, tj8, tj9, tj10, tj11, tj12, tj13, tj14, tj15, tj16, tj24, tj30, tj31, tj32, tj48, tj56, tj57, tj60, tj63, tj99, tj100, tj130, tj199, tj200, tj240, tj999, tj1000, tj20, tj21, tj22, tj23, tj65535, tj32767, tj144] at a; omega)) (fun _ => ⟨_, rfl, bad⟩))
/-! heights read of a SHEET -/
def hr (f : Int) (m : Nat) (g : Nat → Int32) : Nat → Nat → Int32
  | 0, _ => 0
  | n + 1, i => if 0 ≤ f + i ∧ f + i < m then (if 0 ≤ (g (f + i).toNat).toInt ∧ (g (f + i).toNat).toInt ≤ 12 then hr f m g n (i + 1) else (-20) - nI i) else -12
theorem hr_bad (i : Nat) (h : i < 12) : ((-20 : Int32) - nI i) ≠ 0 := by
  intro q
  have : ((-20 : Int32) - nI i).toInt = -20 - (i : Int) := by
    rw [show (-20 : Int32) - nI i = zI (-20 - (i : Int)) by rw [zI_sub, ← nI_zI]; rfl, zI_toInt (by omega) (by omega)]
  rw [q] at this
  have e : (0 : Int32).toInt = 0 := rfl
  omega
theorem hr_0 {f : Int} {m : Nat} {g : Nat → Int32} : ∀ {n i : Nat}, i + n ≤ 12 → hr f m g n i = 0 → ∀ j, i ≤ j → j < i + n → 0 ≤ f + j ∧ f + j < m ∧ 0 ≤ (g (f + j).toNat).toInt ∧ (g (f + j).toNat).toInt ≤ 12
  | 0, i, _, _, j, h1, h2 => by omega
  | n + 1, i, hi, h, j, h1, h2 => by
    unfold hr at h
    by_cases c1 : 0 ≤ f + i ∧ f + i < m
    · rw [if_pos c1] at h
      by_cases c2 : 0 ≤ (g (f + i).toNat).toInt ∧ (g (f + i).toNat).toInt ≤ 12
      · rw [if_pos c2] at h
        by_cases e : j = i
        · subst e; exact ⟨c1.1, c1.2, c2⟩
        · exact hr_0 (by omega) h j (by omega) (by omega)
      · rw [if_neg c2] at h; exact absurd h (hr_bad i (by omega))
    · rw [if_neg c1] at h; exact absurd h (by decide)
theorem wrapC {f : Int32} {i m : Nat} (hi : i < 12) (hm : m ≤ 60) : (0 ≤ (f + nI i).toInt ∧ (f + nI i).toInt < m) ↔ (0 ≤ f.toInt + i ∧ f.toInt + i < m) := by
  have h1 := Int32.le_toInt f
  have h2 := Int32.toInt_lt f
  rw [Int32.toInt_add, nI_toInt (by omega)]
  by_cases h : f.toInt + i < 2 ^ 31
  · rw [Int.bmod_eq_of_le (by omega) (by omega)]
  · have : (f.toInt + (i : Int)).bmod (2 ^ 32) = f.toInt + i - 2 ^ 32 := by
      rw [Int.bmod_def]; split <;> omega
    rw [this]; omega
theorem wrapE {f : Int32} {i m : Nat} (hi : i < 12) (hm : m ≤ 60) (h : 0 ≤ f.toInt + i ∧ f.toInt + i < m) : f + nI i = nI (f.toInt + i).toNat := by
  have e : nI (f.toInt + i).toNat = zI (f.toInt + i) := by rw [nI_zI, Int.toNat_of_nonneg h.1]
  rw [e, zI_add, ← zI_of, nI_zI]
theorem tX7_refusal (d o : Nat) (x1 f : Int32) (N m : Nat) (σ : St) (ho : kd o = 6) (hN : N ≤ 12) (hm : m ≤ 60) (hsz : σ.1 o 0 = nI m) : Ct yX7_refusal MX7_refusal (d + 2) [.ref o, .int x1, .int f, .int (nI N)] σ (fun v σ' => v = some (.int (if σ.1 o 1 = -4 then -11 else if σ.1 o 1 = x1 then hr f.toInt m (σ.1 (gr o 2)) N 0 else -13)) ∧ σ' = σ) := by
  refine Ct.of mX7_refusal.1 (Nat.le_of_ble_eq_true rfl) (bX7_refusal_0 o x1 f (nI N) σ ho (fun a b => ?_) (fun a b => ⟨by rw [if_neg a, if_neg b], rfl⟩) (fun a => ⟨by rw [if_pos a], rfl⟩))
  rw [if_neg a, if_pos b]
  have key : ∀ n i, i + n = N → Run MX7_refusal (d + 2) 24 [some (.ref o), none, some (.int f), some (.int (nI N)), some (.int (nI i))] [] σ (fun v σ' => v = some (.int (hr f.toInt m (σ.1 (gr o 2)) n i)) ∧ σ' = σ) := by
    intro n
    induction n with
    | zero =>
      intro i hi
      have : i = N := by omega
      subst this
      refine bX7_refusal_24 o f (nI i) (nI i) σ ho (fun _ => ⟨rfl, rfl⟩) (fun q => absurd q (nI_nlt (Nat.le_refl _) (by omega))) (fun q => absurd q (nI_nlt (Nat.le_refl _) (by omega))) (fun q => absurd q (nI_nlt (Nat.le_refl _) (by omega))) (fun q => absurd q (nI_nlt (Nat.le_refl _) (by omega)))
    | succ n ih =>
      intro i hi
      have hw := wrapC (f := f) (i := i) (m := m) (by omega) hm
      have hin : ((0 : Int32) ≤ (f + nI i) ∧ (f + nI i) < (σ.1 o 0)) ↔ (0 ≤ f.toInt + i ∧ f.toInt + i < m) := by
        rw [← hw, Int32.le_iff_toInt_le, Int32.lt_iff_toInt_lt, hsz, nI_toInt (by omega), ti0]
      have hg : (0 ≤ f.toInt + i ∧ f.toInt + i < m) → aG (gr o 2) (f + nI i) σ = σ.1 (gr o 2) (f.toInt + i).toNat := fun q => by
        rw [wrapE (by omega) hm q]; exact aG_in (kf_6_2 ho).2 (by omega)
      refine bX7_refusal_24 o f (nI N) (nI i) σ ho (fun q => absurd q (nI_ge (by omega) (by omega))) (fun _ a b => ?_) (fun _ a b c => ?_) (fun _ a b c => ?_) (fun _ a => ?_)
      · have a := hin.mp a
        rw [hg a, Int32.lt_iff_toInt_lt, ti0] at b
        refine ⟨?_, rfl⟩
        show _ = some (Value.int (if 0 ≤ f.toInt + i ∧ f.toInt + i < m then _ else _))
        rw [if_pos a, if_neg (by omega)]
      · have a := hin.mp a
        rw [hg a, Int32.le_iff_toInt_le] at b c
        rw [nI_1]
        have := ih (i + 1) (by omega)
        have e : hr f.toInt m (σ.1 (gr o 2)) (n + 1) i = hr f.toInt m (σ.1 (gr o 2)) n (i + 1) := by
          show (if 0 ≤ f.toInt + i ∧ f.toInt + i < m then _ else _) = _
          rw [if_pos a, if_pos ⟨b, c⟩]
        rw [e]; exact this
      · have a := hin.mp a
        rw [hg a] at b c
        rw [Int32.lt_iff_toInt_lt, ti12] at c
        refine ⟨?_, rfl⟩
        show _ = some (Value.int (if 0 ≤ f.toInt + i ∧ f.toInt + i < m then _ else _))
        rw [if_pos a, if_neg (by omega)]
      · have a : ¬ _ := fun q => a (hin.mpr q)
        refine ⟨?_, rfl⟩
        show _ = some (Value.int (if 0 ≤ f.toInt + i ∧ f.toInt + i < m then _ else _))
        rw [if_neg a]
  exact key N 0 (by omega)
theorem pub_heights (d : Nat) (x1 x2 x3 x4 : Int32) (σ : St) (hR : RS σ) (hH : RH σ) : PB yX10_heights MX10_heights (d + 3) yX11_heights MX11_heights (d + 2) [.int x1, .int x2, .int x3, .int x4] σ [28, 106] [] RH := by
  by_cases hg : 0 ≤ x1.toInt ∧ x1.toInt < (4 : Nat) ∧ 0 ≤ x2.toInt ∧ x2.toInt < 3 ∧ 1 ≤ x4.toInt ∧ x4.toInt < (13 : Nat)
  · obtain ⟨k, hk, e1⟩ := ofI hg.1 hg.2.1 (by decide)
    obtain ⟨N, hN, e4⟩ := ofI (x := x4) (n := 13) (by omega) hg.2.2.2.2.2 (by decide)
    have hN1 : 1 ≤ N := by have := hg.2.2.2.2.1; rw [e4, nI_toInt (by omega)] at this; omega
    obtain ⟨o1, o2, o3, m1, m2, l1⟩ := sh_o k hk
    obtain ⟨r1, r2, ⟨m, hm, r3⟩, r4⟩ := hR k hk
    have ec : x1.toNatClampNeg = k := by rw [e1, nI_clamp (by omega)]
    have eo : gr 31 x1.toNatClampNeg = 80 + 2 * k := by rw [ec, o1]
    have hx24 : x2 ≠ -4 := fun q => by rw [q] at hg; simp only [tim4] at hg; omega
    -- the reference's way up to its reading
    have ref : ∀ (r : Int32) (s : St), Fr [28, 106] [] σ s → (s.1 108 = σ.1 108 ∧ s.1 109 = σ.1 109 ∧ s.1 110 = σ.1 110) → (σ.1 (80 + 2 * k) 1 = (-4) → r = -11 ∧ s = σ) → (¬ σ.1 (80 + 2 * k) 1 = (-4) → ¬ σ.1 (80 + 2 * k) 1 = x2 → r = -13 ∧ s = σ) →
        (σ.1 (80 + 2 * k) 1 = x2 → hr x3.toInt m (σ.1 (81 + 2 * k)) N 0 ≠ 0 → r = hr x3.toInt m (σ.1 (81 + 2 * k)) N 0 ∧ s = σ) →
        (σ.1 (80 + 2 * k) 1 = x2 → hr x3.toInt m (σ.1 (81 + 2 * k)) N 0 = 0 → ∃ h : Nat → Nat, r = nI (sm h 12) ∧ ∀ c, c < 12 → s.1 28 c = nI (h c) ∧ h c ≤ 12 ∧ nI (h c) = if c < N then σ.1 (81 + 2 * k) (x3.toInt + c).toNat else 0) →
        Ct yX11_heights MX11_heights (d + 2) [.ref 88, .int x1, .int x2, .int x3, .int x4] s (fun v2 σ2 => v2 = some (.int r) ∧ Fr [28, 106] [] σ σ2 ∧ RH σ2) := by
      intro r s hF ⟨e108, e109, e110⟩ c1 c2 c3 c4
      refine Ct.of mX11_heights.1 (Nat.le_of_ble_eq_true rfl) (bX11_heights_0 x1 x2 x3 x4 s (fun _ _ => by rw [e1]; exact vp_in_nI hk (by decide)) (fun a => False.elim (by simp only [Int32.lt_iff_toInt_lt, Int32.le_iff_toInt_le, Int64.lt_iff_toInt_lt, Int64.le_iff_toInt_le, ← Int32.toInt_inj, ← Int64.toInt_inj, Int32.toInt_toInt64, tim20, tim13, tim12, tim11, tim10, tim4, tim3, tim2, tim1, ti0, ti1, ti2, ti3, ti4, ti5, ti6, ti7, ti8, ti9, ti10, ti11, ti12, ti13, ti14, ti15, ti16, ti24, ti30, ti31, ti32, ti48, ti56, ti57, ti60, ti63, ti99, ti100, ti130, ti199, ti200, ti240, ti999, ti1000, ti20, ti21, ti22, ti23, ti65535, ti32767, ti144, tjm20, tjm13, tjm12, tjm11, tjm10, tjm4, tjm3, tjm2, tjm1, tj0, tj1, tj2, tj3, tj4, tj5, tj6, tj7, tj8, tj9, tj10, tj11, tj12, tj13, tj14, tj15, tj16, tj24, tj30, tj31, tj32, tj48, tj56, tj57, tj60, tj63, tj99, tj100, tj130, tj199, tj200, tj240, tj999, tj1000, tj20, tj21, tj22, tj23, tj65535, tj32767, tj144] at a; omega)) (fun _ _ a => ?_) (fun _ _ a => ?_) (fun a b => False.elim (by simp only [Int32.lt_iff_toInt_lt, Int32.le_iff_toInt_le, Int64.lt_iff_toInt_lt, Int64.le_iff_toInt_le, ← Int32.toInt_inj, ← Int64.toInt_inj, Int32.toInt_toInt64, tim20, tim13, tim12, tim11, tim10, tim4, tim3, tim2, tim1, ti0, ti1, ti2, ti3, ti4, ti5, ti6, ti7, ti8, ti9, ti10, ti11, ti12, ti13, ti14, ti15, ti16, ti24, ti30, ti31, ti32, ti48, ti56, ti57, ti60, ti63, ti99, ti100, ti130, ti199, ti200, ti240, ti999, ti1000, ti20, ti21, ti22, ti23, ti65535, ti32767, ti144, tjm20, tjm13, tjm12, tjm11, tjm10, tjm4, tjm3, tjm2, tjm1, tj0, tj1, tj2, tj3, tj4, tj5, tj6, tj7, tj8, tj9, tj10, tj11, tj12, tj13, tj14, tj15, tj16, tj24, tj30, tj31, tj32, tj48, tj56, tj57, tj60, tj63, tj99, tj100, tj130, tj199, tj200, tj240, tj999, tj1000, tj20, tj21, tj22, tj23, tj65535, tj32767, tj144] at a b; omega)))
      · rw [ec, e108, r1] at a
        -- the loop of tests
        have fill : hr x3.toInt m (σ.1 (81 + 2 * k)) N 0 = 0 → Run MX11_heights (d + 2) 132 [some (.ref 88), some (.int x1), none, some (.int x3), some (.int x4), some (.int 0), none, none] [] s (fun v2 σ2 => v2 = some (.int r) ∧ Fr [28, 106] [] σ σ2 ∧ RH σ2) := by
          intro h0
          obtain ⟨h, er, hh⟩ := c4 a h0
          have hall := hr_0 (by omega) h0
          refine loopI1 (fun x z => Run MX11_heights (d + 2) 132 [some (.ref 88), some (.int x1), none, some (.int x3), some (.int x4), some (.int x), none, none] [] z _) (fun c z => Fr [106] [] s z ∧ ∀ i, i < c → z.1 106 i = nI (h i)) 12 ?_ ?_ 0 s (by decide) ⟨Fr.rf, fun i hi => absurd hi (Nat.not_lt_zero i)⟩
          · intro z hz
            refine bX11_heights_132 x1 x3 x4 (nI 12) z (fun q => absurd q (by decide)) (fun q => absurd q (by decide)) (fun _ => (tX11_allBits (d + 1) z h (fun c hc => ⟨hz.2 c hc, (hh c hc).2.1⟩)).mono ?_) (fun q => absurd q (by decide))
            rintro v1 s1 ⟨hv, hs⟩
            rw [hv, hs]
            refine bX11_heights_181 _ z ⟨by rw [er], hF.tr (hz.1.mono (by decide) (by decide)), h, fun c hc => ⟨?_, hz.2 c hc, (hh c hc).2.1⟩⟩
            rw [hz.1.1 28 (by decide) (by decide)]; exact (hh c hc).1
          · intro c z hc hz ih
            have hix : c < N → (60 : Int32) * x1 + x3 + nI c = nI (60 * k + (x3.toInt + c).toNat) := fun q => by
              have := hall c (by omega) (by omega)
              rw [Int32.add_assoc, wrapE (m := m) (by omega) hm ⟨this.1, this.2.1⟩, e1, show (60 : Int32) = nI 60 from rfl, pk_mul, nI_add]
            refine bX11_heights_132 x1 x3 x4 (nI c) z (fun _ q => ?_) (fun _ => vp_in_nI hc (by decide)) (fun q => absurd q (nI_ge hc (by decide))) (fun _ => ih _ ⟨hz.1.tA (by decide) (by decide), fun i hi => ?_⟩)
            · rw [e4] at q
              have q := (nI_ltI (by omega) (by omega)).mp q
              have := hall c (by omega) (by omega)
              rw [hix q]; exact vp_in_nI (by omega) (by decide)
            · rw [sA_at, nI_clamp (by omega), upd_eq]
              by_cases e : i = c
              · subst e
                rw [if_pos rfl, (hh i hc).2.2, e4]
                by_cases q : i < N
                · have := hall i (by omega) (by omega)
                  rw [if_pos q, if_neg (nI_ge q (by omega)), hix q, nI_clamp (by omega), hz.1.1 110 (by decide) (by decide), e110, r4 _ (by omega)]
                · rw [if_neg q, if_pos (nI_le (by omega) (by omega))]
              · rw [if_neg e]; exact hz.2 i (by omega)
        have key : ∀ n i, i + n = N → hr x3.toInt m (σ.1 (81 + 2 * k)) n i = hr x3.toInt m (σ.1 (81 + 2 * k)) N 0 → Run MX11_heights (d + 2) 55 [some (.ref 88), some (.int x1), none, some (.int x3), some (.int x4), some (.int (nI i)), none, none] [] s (fun v2 σ2 => v2 = some (.int r) ∧ Fr [28, 106] [] σ σ2 ∧ RH σ2) := by
          intro n
          induction n with
          | zero =>
            intro i hi he
            have : i = N := by omega
            subst this
            rw [e4]
            have nl : ¬ nI i < nI i := nI_nlt (Nat.le_refl _) (by omega)
            refine bX11_heights_55 x1 x3 (nI i) (nI i) s (fun q => absurd q nl) (fun q => absurd q nl) (fun _ => by rw [← e4]; exact fill he.symm) (fun q => absurd q nl) (fun q => absurd q nl) (fun q => absurd q nl) (fun q => absurd q nl)
          | succ n ih =>
            intro i hi he
            have hp : (x3.toInt64 + (nI i).toInt64).toInt = x3.toInt + i := by
              have h1 := Int32.le_toInt x3
              have h2 := Int32.toInt_lt x3
              rw [Int64.toInt_add, Int32.toInt_toInt64, Int32.toInt_toInt64, nI_toInt (by omega), Int.bmod_eq_of_le (by omega) (by omega)]
            have hp32 : (x3.toInt64 + (nI i).toInt64).toInt32 = x3 + nI i := by
              rw [Int64.toInt32_add, Int32.toInt32_toInt64, Int32.toInt32_toInt64]
            have hsz : ((s.1 109 x1.toNatClampNeg).toInt64).toInt = m := by rw [Int32.toInt_toInt64, ec, e109, r2, r3, nI_toInt (by omega)]
            have ix : (0 ≤ x3.toInt + i ∧ x3.toInt + i < m) → (60 : Int32) * x1 + (x3.toInt64 + (nI i).toInt64).toInt32 = nI (60 * k + (x3.toInt + i).toNat) := fun q => by
              rw [hp32, wrapE (m := m) (by omega) hm q, e1, show (60 : Int32) = nI 60 from rfl, pk_mul, nI_add]
            have cv : (0 ≤ x3.toInt + i ∧ x3.toInt + i < m) → s.1 110 ((60 : Int32) * x1 + (x3.toInt64 + (nI i).toInt64).toInt32).toNatClampNeg = σ.1 (81 + 2 * k) (x3.toInt + i).toNat := fun q => by
              rw [ix q, nI_clamp (by omega), e110, r4 _ (by omega)]
            have hrE : hr x3.toInt m (σ.1 (81 + 2 * k)) (n + 1) i = if 0 ≤ x3.toInt + i ∧ x3.toInt + i < m then (if 0 ≤ (σ.1 (81 + 2 * k) (x3.toInt + i).toNat).toInt ∧ (σ.1 (81 + 2 * k) (x3.toInt + i).toNat).toInt ≤ 12 then hr x3.toInt m (σ.1 (81 + 2 * k)) n (i + 1) else (-20) - nI i) else -12 := rfl
            have out : ∀ w : Int32, w ≠ 0 → hr x3.toInt m (σ.1 (81 + 2 * k)) (n + 1) i = w → (some (Value.int w) = some (.int r) ∧ Fr [28, 106] [] σ s ∧ RH s) := by
              intro w hw e
              have := c3 a (by rw [← he, e]; exact hw)
              rw [this.1, this.2, ← he, e]
              exact ⟨rfl, Fr.rf, hH⟩
            refine bX11_heights_55 x1 x3 x4 (nI i) s (fun _ _ => by rw [e1]; exact vp_in_nI hk (by decide)) (fun _ p q => ?_) (fun q => absurd q (by rw [e4]; exact nI_ge (by omega) (by omega))) (fun _ p => ?_) (fun _ p q t => ?_) (fun _ p q t => ?_) (fun _ p q => ?_)
            · rw [Int64.le_iff_toInt_le, hp, tj0] at p
              rw [Int64.lt_iff_toInt_lt, hp, hsz] at q
              rw [ix ⟨p, q⟩]; exact vp_in_nI (by omega) (by decide)
            · rw [Int64.lt_iff_toInt_lt, hp, tj0] at p
              exact out _ (by decide) (by rw [hrE, if_neg (by omega)])
            · rw [Int64.le_iff_toInt_le, hp, tj0] at p
              rw [Int64.lt_iff_toInt_lt, hp, hsz] at q
              rw [cv ⟨p, q⟩] at t
              simp only [Int64.le_iff_toInt_le, Int32.toInt_toInt64, tj0, tj12] at t
              rw [nI_1]
              refine ih (i + 1) (by omega) ?_
              rw [← he, hrE, if_pos ⟨p, q⟩, if_pos t]
            · rw [Int64.le_iff_toInt_le, hp, tj0] at p
              rw [Int64.lt_iff_toInt_lt, hp, hsz] at q
              rw [cv ⟨p, q⟩] at t
              simp only [Int64.le_iff_toInt_le, Int32.toInt_toInt64, tj0, tj12] at t
              exact out _ (hr_bad i (by omega)) (by rw [hrE, if_pos ⟨p, q⟩, if_neg t])
            · rw [Int64.le_iff_toInt_le, hp, tj0] at p
              rw [Int64.le_iff_toInt_le, hp, hsz] at q
              exact out _ (by decide) (by rw [hrE, if_neg (by omega)])
        exact key N 0 (by omega) rfl
      · rw [ec, e108, r1] at a ⊢
        by_cases q : σ.1 (80 + 2 * k) 1 = -4
        · have := c1 q
          rw [if_pos q, this.1, this.2]; exact ⟨rfl, Fr.rf, hH⟩
        · have := c2 q a
          rw [if_neg q, this.1, this.2]; exact ⟨rfl, Fr.rf, hH⟩
    refine Ct.of mX10_heights.1 (Nat.le_of_ble_eq_true rfl) (bX10_heights_0 x1 x2 x3 x4 σ (fun a b => False.elim (by simp only [Int32.lt_iff_toInt_lt, Int32.le_iff_toInt_le, Int64.lt_iff_toInt_lt, Int64.le_iff_toInt_le, ← Int32.toInt_inj, ← Int64.toInt_inj, Int32.toInt_toInt64, tim20, tim13, tim12, tim11, tim10, tim4, tim3, tim2, tim1, ti0, ti1, ti2, ti3, ti4, ti5, ti6, ti7, ti8, ti9, ti10, ti11, ti12, ti13, ti14, ti15, ti16, ti24, ti30, ti31, ti32, ti48, ti56, ti57, ti60, ti63, ti99, ti100, ti130, ti199, ti200, ti240, ti999, ti1000, ti20, ti21, ti22, ti23, ti65535, ti32767, ti144, tjm20, tjm13, tjm12, tjm11, tjm10, tjm4, tjm3, tjm2, tjm1, tj0, tj1, tj2, tj3, tj4, tj5, tj6, tj7, tj8, tj9, tj10, tj11, tj12, tj13, tj14, tj15, tj16, tj24, tj30, tj31, tj32, tj48, tj56, tj57, tj60, tj63, tj99, tj100, tj130, tj199, tj200, tj240, tj999, tj1000, tj20, tj21, tj22, tj23, tj65535, tj32767, tj144] at a b; omega)) (fun a b c => False.elim (by simp only [Int32.lt_iff_toInt_lt, Int32.le_iff_toInt_le, Int64.lt_iff_toInt_lt, Int64.le_iff_toInt_le, ← Int32.toInt_inj, ← Int64.toInt_inj, Int32.toInt_toInt64, tim20, tim13, tim12, tim11, tim10, tim4, tim3, tim2, tim1, ti0, ti1, ti2, ti3, ti4, ti5, ti6, ti7, ti8, ti9, ti10, ti11, ti12, ti13, ti14, ti15, ti16, ti24, ti30, ti31, ti32, ti48, ti56, ti57, ti60, ti63, ti99, ti100, ti130, ti199, ti200, ti240, ti999, ti1000, ti20, ti21, ti22, ti23, ti65535, ti32767, ti144, tjm20, tjm13, tjm12, tjm11, tjm10, tjm4, tjm3, tjm2, tjm1, tj0, tj1, tj2, tj3, tj4, tj5, tj6, tj7, tj8, tj9, tj10, tj11, tj12, tj13, tj14, tj15, tj16, tj24, tj30, tj31, tj32, tj48, tj56, tj57, tj60, tj63, tj99, tj100, tj130, tj199, tj200, tj240, tj999, tj1000, tj20, tj21, tj22, tj23, tj65535, tj32767, tj144] at a b c; omega)) (fun a b c e => False.elim (by simp only [Int32.lt_iff_toInt_lt, Int32.le_iff_toInt_le, Int64.lt_iff_toInt_lt, Int64.le_iff_toInt_le, ← Int32.toInt_inj, ← Int64.toInt_inj, Int32.toInt_toInt64, tim20, tim13, tim12, tim11, tim10, tim4, tim3, tim2, tim1, ti0, ti1, ti2, ti3, ti4, ti5, ti6, ti7, ti8, ti9, ti10, ti11, ti12, ti13, ti14, ti15, ti16, ti24, ti30, ti31, ti32, ti48, ti56, ti57, ti60, ti63, ti99, ti100, ti130, ti199, ti200, ti240, ti999, ti1000, ti20, ti21, ti22, ti23, ti65535, ti32767, ti144, tjm20, tjm13, tjm12, tjm11, tjm10, tjm4, tjm3, tjm2, tjm1, tj0, tj1, tj2, tj3, tj4, tj5, tj6, tj7, tj8, tj9, tj10, tj11, tj12, tj13, tj14, tj15, tj16, tj24, tj30, tj31, tj32, tj48, tj56, tj57, tj60, tj63, tj99, tj100, tj130, tj199, tj200, tj240, tj999, tj1000, tj20, tj21, tj22, tj23, tj65535, tj32767, tj144] at a b c e; omega)) (fun _ _ _ _ _ => ?_) (fun a b c e f => False.elim (by simp only [Int32.lt_iff_toInt_lt, Int32.le_iff_toInt_le, Int64.lt_iff_toInt_lt, Int64.le_iff_toInt_le, ← Int32.toInt_inj, ← Int64.toInt_inj, Int32.toInt_toInt64, tim20, tim13, tim12, tim11, tim10, tim4, tim3, tim2, tim1, ti0, ti1, ti2, ti3, ti4, ti5, ti6, ti7, ti8, ti9, ti10, ti11, ti12, ti13, ti14, ti15, ti16, ti24, ti30, ti31, ti32, ti48, ti56, ti57, ti60, ti63, ti99, ti100, ti130, ti199, ti200, ti240, ti999, ti1000, ti20, ti21, ti22, ti23, ti65535, ti32767, ti144, tjm20, tjm13, tjm12, tjm11, tjm10, tjm4, tjm3, tjm2, tjm1, tj0, tj1, tj2, tj3, tj4, tj5, tj6, tj7, tj8, tj9, tj10, tj11, tj12, tj13, tj14, tj15, tj16, tj24, tj30, tj31, tj32, tj48, tj56, tj57, tj60, tj63, tj99, tj100, tj130, tj199, tj200, tj240, tj999, tj1000, tj20, tj21, tj22, tj23, tj65535, tj32767, tj144] at a b c e f; omega)) (fun a => False.elim (by simp only [Int32.lt_iff_toInt_lt, Int32.le_iff_toInt_le, Int64.lt_iff_toInt_lt, Int64.le_iff_toInt_le, ← Int32.toInt_inj, ← Int64.toInt_inj, Int32.toInt_toInt64, tim20, tim13, tim12, tim11, tim10, tim4, tim3, tim2, tim1, ti0, ti1, ti2, ti3, ti4, ti5, ti6, ti7, ti8, ti9, ti10, ti11, ti12, ti13, ti14, ti15, ti16, ti24, ti30, ti31, ti32, ti48, ti56, ti57, ti60, ti63, ti99, ti100, ti130, ti199, ti200, ti240, ti999, ti1000, ti20, ti21, ti22, ti23, ti65535, ti32767, ti144, tjm20, tjm13, tjm12, tjm11, tjm10, tjm4, tjm3, tjm2, tjm1, tj0, tj1, tj2, tj3, tj4, tj5, tj6, tj7, tj8, tj9, tj10, tj11, tj12, tj13, tj14, tj15, tj16, tj24, tj30, tj31, tj32, tj48, tj56, tj57, tj60, tj63, tj99, tj100, tj130, tj199, tj200, tj240, tj999, tj1000, tj20, tj21, tj22, tj23, tj65535, tj32767, tj144] at a; omega)))
    rw [eo, e4]
    refine (tX7_refusal d (80 + 2 * k) x2 x3 N m σ o3 (by omega) hm r3).mono ?_
    rintro v1 s1 ⟨hv, hs⟩
    rw [hv, hs, o2]
    have same : σ.1 108 = σ.1 108 ∧ σ.1 109 = σ.1 109 ∧ σ.1 110 = σ.1 110 := ⟨rfl, rfl, rfl⟩
    by_cases q1 : σ.1 (80 + 2 * k) 1 = -4
    · rw [if_pos q1]
      have q2 : ¬ σ.1 (80 + 2 * k) 1 = x2 := fun q => hx24 (q.symm.trans q1)
      rw [← e4]
      exact bX10_heights_45 x3 x4 (80 + 2 * k) _ σ o3 (fun q => absurd q (by decide)) (fun _ => ⟨_, rfl, ref _ σ Fr.rf same (fun _ => ⟨rfl, rfl⟩) (fun q => absurd q1 q) (fun q => absurd q q2) (fun q => absurd q q2)⟩)
    · rw [if_neg q1]
      by_cases q2 : σ.1 (80 + 2 * k) 1 = x2
      · rw [if_pos q2]
        by_cases h0 : hr x3.toInt m (σ.1 (81 + 2 * k)) N 0 = 0
        · rw [h0]
          refine bX10_heights_45 x3 (nI N) (80 + 2 * k) _ σ o3 (fun _ => (tX3_clear (d + 2) 27 σ rfl).mono ?_) (fun q => absurd rfl q)
          rintro v2 s2 ⟨hv2, hF2, hz⟩
          rw [hv2]
          refine bX10_heights_62 x3 (nI N) (80 + 2 * k) s2 o3 ?_
          have hall := hr_0 (by omega) h0
          -- the heights that come
          have hex : ∃ h : Nat → Nat, ∀ c, c < 12 → h c ≤ 12 ∧ nI (h c) = if c < N then σ.1 (81 + 2 * k) (x3.toInt + c).toNat else 0 := by
            refine ⟨fun c => if c < N then (σ.1 (81 + 2 * k) (x3.toInt + c).toNat).toInt.toNat else 0, fun c hc => ?_⟩
            by_cases q : c < N
            · have := hall c (by omega) (by omega)
              simp only [if_pos q]
              refine ⟨by omega, ?_⟩
              rw [nI_zI, Int.toNat_of_nonneg this.2.2.1, ← zI_of]
            · simp only [if_neg q]; exact ⟨by omega, rfl⟩
          obtain ⟨h, hh⟩ := hex
          refine loopI1 (fun x z => Run MX10_heights (d + 3) 65 [some (.ref 0), none, none, some (.int x3), some (.int (nI N)), some (.ref (80 + 2 * k)), none, some (.int x)] [] z _) (fun c z => Fr [28] [] σ z ∧ (∀ i, i < c → z.1 28 i = nI (h i)) ∧ ∀ i, c ≤ i → i < 12 → z.1 28 i = 0) N ?_ ?_ 0 s2 (by omega) ⟨hF2, fun i hi => absurd hi (Nat.not_lt_zero i), fun i _ hi => hz i hi⟩
          · intro z hz
            have h28 : ∀ c, c < 12 → z.1 28 c = nI (h c) := fun c hc => by
              by_cases q : c < N
              · exact hz.2.1 c q
              · rw [hz.2.2 c (by omega) hc, (hh c hc).2, if_neg q]
            refine bX10_heights_65 x3 (nI N) (80 + 2 * k) (nI N) z o3 (fun _ => (tX3_allBits (d + 2) 27 z rfl h (fun c hc => ⟨h28 c hc, (hh c hc).1⟩)).mono ?_) (fun q => absurd q (nI_nlt (Nat.le_refl _) (by omega)))
            rintro v3 s3 ⟨hv3, hs3⟩
            rw [hv3, hs3]
            refine bX10_heights_103 _ z ⟨_, rfl, ?_⟩
            rw [← e4]
            exact ref _ z (hz.1.mono (by decide) (by decide)) ⟨hz.1.1 108 (by decide) (by decide), hz.1.1 109 (by decide) (by decide), hz.1.1 110 (by decide) (by decide)⟩ (fun q => absurd q q1) (fun _ q => absurd q2 q) (fun _ q => absurd h0 q) (fun _ _ => ⟨h, rfl, fun c hc => ⟨h28 c hc, hh c hc⟩⟩)
          · intro c z hc hz ih
            have := hall c (by omega) (by omega)
            have eg : aG (gr (80 + 2 * k) 2) (x3 + nI c) z = nI (h c) := by
              rw [o2, wrapE (m := m) (by omega) hm ⟨this.1, this.2.1⟩, aG_in l1 (by omega), hz.1.1 _ (by simp; omega) (by omega), (hh c (by omega)).2, if_pos hc]
            have es : sX3_setHeight 27 (nI c) (nI (h c)) z = sA z 28 (upd (z.1 28) c (nI (h c))) := aP_in ln_28 (by omega)
            refine bX10_heights_65 x3 (nI N) (80 + 2 * k) (nI c) z o3 (fun q => absurd q (nI_ge hc (by omega))) (fun _ => ih _ ?_)
            rw [eg, es]
            refine ⟨hz.1.tA (by decide) (by decide), fun i hi => ?_, fun i hi hi2 => ?_⟩
            · rw [sA_at, upd_eq]
              by_cases e : i = c
              · rw [if_pos e, e]
              · rw [if_neg e]; exact hz.2.1 i (by omega)
            · rw [sA_at, upd_eq, if_neg (by omega)]; exact hz.2.2 i (by omega) hi2
        · rw [← e4]
          exact bX10_heights_45 x3 x4 (80 + 2 * k) _ σ o3 (fun q => absurd q h0) (fun _ => ⟨_, rfl, ref _ σ Fr.rf same (fun q => absurd q q1) (fun _ q => absurd q2 q) (fun _ _ => ⟨rfl, rfl⟩) (fun _ q => absurd q h0)⟩)
      · rw [if_neg q2, ← e4]
        exact bX10_heights_45 x3 x4 (80 + 2 * k) _ σ o3 (fun q => absurd q (by decide)) (fun _ => ⟨_, rfl, ref _ σ Fr.rf same (fun q => absurd q q1) (fun _ _ => ⟨rfl, rfl⟩) (fun q => absurd q q2) (fun q => absurd q q2)⟩)
  · have bad : Ct yX11_heights MX11_heights (d + 2) [.ref 88, .int x1, .int x2, .int x3, .int x4] σ (fun v2 σ2 => v2 = some (.int (-1)) ∧ Fr [28, 106] [] σ σ2 ∧ RH σ2) :=
      Ct.of mX11_heights.1 (Nat.le_of_ble_eq_true rfl) (bX11_heights_0 x1 x2 x3 x4 σ (fun a b => False.elim (by simp only [Int32.lt_iff_toInt_lt, Int32.le_iff_toInt_le, Int64.lt_iff_toInt_lt, Int64.le_iff_toInt_le, ← Int32.toInt_inj, ← Int64.toInt_inj, Int32.toInt_toInt64, tim20, tim13, tim12, tim11, tim10, tim4, tim3, tim2, tim1, ti0, ti1, ti2, ti3, ti4, ti5, ti6, ti7, ti8, ti9, ti10, ti11, ti12, ti13, ti14, ti15, ti16, ti24, ti30, ti31, ti32, ti48, ti56, ti57, ti60, ti63, ti99, ti100, ti130, ti199, ti200, ti240, ti999, ti1000, ti20, ti21, ti22, ti23, ti65535, ti32767, ti144, tjm20, tjm13, tjm12, tjm11, tjm10, tjm4, tjm3, tjm2, tjm1, tj0, tj1, tj2, tj3, tj4, tj5, tj6, tj7, tj8, tj9, tj10, tj11, tj12, tj13, tj14, tj15, tj16, tj24, tj30, tj31, tj32, tj48, tj56, tj57, tj60, tj63, tj99, tj100, tj130, tj199, tj200, tj240, tj999, tj1000, tj20, tj21, tj22, tj23, tj65535, tj32767, tj144] at a b; omega)) (fun _ => ⟨rfl, Fr.rf, hH⟩) (fun a b _ => False.elim (by simp only [Int32.lt_iff_toInt_lt, Int32.le_iff_toInt_le, Int64.lt_iff_toInt_lt, Int64.le_iff_toInt_le, ← Int32.toInt_inj, ← Int64.toInt_inj, Int32.toInt_toInt64, tim20, tim13, tim12, tim11, tim10, tim4, tim3, tim2, tim1, ti0, ti1, ti2, ti3, ti4, ti5, ti6, ti7, ti8, ti9, ti10, ti11, ti12, ti13, ti14, ti15, ti16, ti24, ti30, ti31, ti32, ti48, ti56, ti57, ti60, ti63, ti99, ti100, ti130, ti199, ti200, ti240, ti999, ti1000, ti20, ti21, ti22, ti23, ti65535, ti32767, ti144, tjm20, tjm13, tjm12, tjm11, tjm10, tjm4, tjm3, tjm2, tjm1, tj0, tj1, tj2, tj3, tj4, tj5, tj6, tj7, tj8, tj9, tj10, tj11, tj12, tj13, tj14, tj15, tj16, tj24, tj30, tj31, tj32, tj48, tj56, tj57, tj60, tj63, tj99, tj100, tj130, tj199, tj200, tj240, tj999, tj1000, tj20, tj21, tj22, tj23, tj65535, tj32767, tj144] at a b; omega)) (fun a b _ => False.elim (by simp only [Int32.lt_iff_toInt_lt, Int32.le_iff_toInt_le, Int64.lt_iff_toInt_lt, Int64.le_iff_toInt_le, ← Int32.toInt_inj, ← Int64.toInt_inj, Int32.toInt_toInt64, tim20, tim13, tim12, tim11, tim10, tim4, tim3, tim2, tim1, ti0, ti1, ti2, ti3, ti4, ti5, ti6, ti7, ti8, ti9, ti10, ti11, ti12, ti13, ti14, ti15, ti16, ti24, ti30, ti31, ti32, ti48, ti56, ti57, ti60, ti63, ti99, ti100, ti130, ti199, ti200, ti240, ti999, ti1000, ti20, ti21, ti22, ti23, ti65535, ti32767, ti144, tjm20, tjm13, tjm12, tjm11, tjm10, tjm4, tjm3, tjm2, tjm1, tj0, tj1, tj2, tj3, tj4, tj5, tj6, tj7, tj8, tj9, tj10, tj11, tj12, tj13, tj14, tj15, tj16, tj24, tj30, tj31, tj32, tj48, tj56, tj57, tj60, tj63, tj99, tj100, tj130, tj199, tj200, tj240, tj999, tj1000, tj20, tj21, tj22, tj23, tj65535, tj32767, tj144] at a b; omega)) (fun _ _ => ⟨rfl, Fr.rf, hH⟩))
    exact Ct.of mX10_heights.1 (Nat.le_of_ble_eq_true rfl) (bX10_heights_0 x1 x2 x3 x4 σ (fun _ _ => ⟨_, rfl, bad⟩) (fun _ _ _ => ⟨_, rfl, bad⟩) (fun _ _ _ _ => ⟨_, rfl, bad⟩) (fun a b c e f => False.elim (by simp only [Int32.lt_iff_toInt_lt, Int32.le_iff_toInt_le, Int64.lt_iff_toInt_lt, Int64.le_iff_toInt_le, ← Int32.toInt_inj, ← Int64.toInt_inj, Int32.toInt_toInt64, tim20, tim13, tim12, tim11, tim10, tim4, tim3, tim2, tim1, ti0, ti1, ti2, ti3, ti4, ti5, ti6, ti7, ti8, ti9, ti10, ti11, ti12, ti13, ti14, ti15, ti16, ti24, ti30, ti31, ti32, ti48, ti56, ti57, ti60, ti63, ti99, ti100, ti130, ti199, ti200, ti240, ti999, ti1000, ti20, ti21, ti22, ti23, ti65535, ti32767, ti144, tjm20, tjm13, tjm12, tjm11, tjm10, tjm4, tjm3, tjm2, tjm1, tj0, tj1, tj2, tj3, tj4, tj5, tj6, tj7, tj8, tj9, tj10, tj11, tj12, tj13, tj14, tj15, tj16, tj24, tj30, tj31, tj32, tj48, tj56, tj57, tj60, tj63, tj99, tj100, tj130, tj199, tj200, tj240, tj999, tj1000, tj20, tj21, tj22, tj23, tj65535, tj32767, tj144] at a b c e f; omega)) (fun _ _ _ _ _ => ⟨_, rfl, bad⟩) (fun _ => ⟨_, rfl, bad⟩))
theorem pub_count (d : Nat) (x1 : Int32) (σ : St) (hS : RS σ) (h0 : σ.1 88 0 = σ.1 0 1) (h1 : σ.1 88 4 = σ.1 14 0) (h2 : σ.1 88 5 = σ.1 14 1) (h3 : σ.1 88 10 = σ.1 2 0) : PB yX10_count MX10_count (d + 2) yX11_count MX11_count d [.int x1] σ [] [] (fun _ => True) := by
  have ref : ∀ r : Int32, r = rX11_count x1 σ → Ct yX11_count MX11_count d [.ref 88, .int x1] σ (fun v2 σ2 => v2 = some (.int r) ∧ Fr [] [] σ σ2 ∧ True) := fun r hr => (qX11_count d x1 σ).mono (fun v s h => ⟨by rw [h.1, hr], by rw [h.2]; exact Fr.rf, trivial⟩)
  obtain ⟨r1, r2, -, -⟩ := hS 0 (by decide)
  refine Ct.of mX10_count.1 (Nat.le_of_ble_eq_true rfl) (bX10_count_0 x1 σ (fun a => ⟨_, rfl, ref _ ?_⟩) (fun a => ⟨_, rfl, ref _ ?_⟩) (fun a => ⟨_, rfl, ref _ ?_⟩) (fun a => ⟨_, rfl, ref _ ?_⟩) (fun a => ?_) (fun a => ⟨_, rfl, ref _ ?_⟩))
  · unfold rX11_count; rw [if_pos a, h0]
  · unfold rX11_count; rw [if_neg (by rw [a]; decide), if_pos a, h1]
  · unfold rX11_count; rw [if_neg (by rw [a]; decide), if_neg (by rw [a]; decide), if_pos a, h2]
  · unfold rX11_count; rw [if_neg (by rw [a]; decide), if_neg (by rw [a]; decide), if_neg (by rw [a]; decide), if_pos a, h3]
  · refine Ct.of mX10_cellsOfFirstSheet.1 (Nat.le_of_ble_eq_true rfl) (bX10_cellsOfFirstSheet_0 σ (fun _ => ?_) (fun q => absurd (by decide) q))
    refine bX10_count_69 _ σ ⟨_, rfl, ref _ ?_⟩
    have e : rX11_count x1 σ = (if σ.1 108 0 = -4 then (-4 : Int32) else σ.1 109 0) := by
      unfold rX11_count
      rw [if_neg (by rw [a]; decide), if_neg (by rw [a]; decide), if_neg (by rw [a]; decide), if_neg (by rw [a]; decide), if_pos a]; rfl
    rw [e, r1, r2]
    rfl
  · have : ∀ n : Int32, 0 ≤ n.toInt → n.toInt ≤ 4 → ¬ x1 = n := fun n h1 h2 e => by rw [e] at a; omega
    unfold rX11_count
    rw [if_neg (this 0 (by decide) (by decide)), if_neg (this 1 (by decide) (by decide)), if_neg (this 2 (by decide) (by decide)), if_neg (this 3 (by decide) (by decide)), if_neg (this 4 (by decide) (by decide))]
end SHEET

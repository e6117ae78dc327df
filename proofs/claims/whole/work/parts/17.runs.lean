section RUNSX
/-! RUN of a sum -/
theorem bit_of (x s : Int32) : ∃ j, j < 2 ∧ (x >>> (s &&& 31)) &&& 1 = nI j := pk_andE _ 1 rfl
def rnL (w l : Nat) : Nat := if w = 2 then 1 else if w = 1 then (if l = 0 then 0 else l + 1) else 0
theorem rnC {w l : Nat} (hw : w ≤ 2) (hl : l < 2 ^ 20) : (if nI w = 2 then (1 : Int32) else (if nI w = 0 then (0 : Int32) else (if nI l ≤ 0 then nI l else (nI l + 1)))) = nI (rnL w l) := by
  unfold rnL
  by_cases h2 : w = 2
  · rw [if_pos h2, if_pos (show nI w = 2 by rw [h2]; rfl)]; rfl
  · rw [if_neg h2, if_neg (show ¬ nI w = 2 from fun q => h2 ((nI_eq (b := 2) (by omega) (by decide)).mp q))]
    by_cases h0 : w = 0
    · rw [if_neg (show ¬ w = 1 by omega), if_pos (show nI w = 0 by rw [h0]; rfl)]; rfl
    · rw [if_pos (show w = 1 by omega), if_neg (show ¬ nI w = 0 from fun q => h0 ((nI_eq (b := 0) (by omega) (by decide)).mp q))]
      by_cases hl0 : l = 0
      · rw [if_pos hl0, if_pos (show nI l ≤ 0 by rw [hl0]; decide), hl0]
      · rw [if_neg hl0, if_neg (show ¬ nI l ≤ 0 from fun q => hl0 (by have := (nI_leI (b := 0) (by omega) (by decide)).mp q; omega)), nI_1]
theorem rnM {w l : Nat} (hw : w ≤ 2) (hl : l < 2 ^ 20) : (if nI w = 2 then (1 : Int32) else (if nI w = 1 then (if nI l ≤ 0 then (0 : Int32) else (nI l + 1)) else 0)) = nI (rnL w l) := by
  unfold rnL
  by_cases h2 : w = 2
  · rw [if_pos h2, if_pos (show nI w = 2 by rw [h2]; rfl)]; rfl
  · rw [if_neg h2, if_neg (show ¬ nI w = 2 from fun q => h2 ((nI_eq (b := 2) (by omega) (by decide)).mp q))]
    by_cases h1 : w = 1
    · rw [if_pos h1, if_pos (show nI w = 1 by rw [h1]; rfl)]
      by_cases hl0 : l = 0
      · rw [if_pos hl0, if_pos (show nI l ≤ 0 by rw [hl0]; decide)]; rfl
      · rw [if_neg hl0, if_neg (show ¬ nI l ≤ 0 from fun q => hl0 (by have := (nI_leI (b := 0) (by omega) (by decide)).mp q; omega)), nI_1]
    · rw [if_neg h1, if_neg (show ¬ nI w = 1 from fun q => h1 ((nI_eq (b := 1) (by omega) (by decide)).mp q))]; rfl
/-- (the longest, the present) behind i PLACES -/
def rnS (w : Nat → Nat) : Nat → Nat × Nat
  | 0 => (0, 0)
  | i + 1 => (max (rnS w i).1 (rnL (w i) (rnS w i).2), rnL (w i) (rnS w i).2)
theorem rnS_le (w : Nat → Nat) : ∀ i, (rnS w i).1 ≤ i ∧ (rnS w i).2 ≤ i
  | 0 => ⟨Nat.le_refl _, Nat.le_refl _⟩
  | i + 1 => by
    have h := rnS_le w i
    have : rnL (w i) (rnS w i).2 ≤ i + 1 := by
      unfold rnL
      split
      · omega
      · split
        · split <;> omega
        · omega
    show max _ _ ≤ i + 1 ∧ _ ≤ i + 1
    exact ⟨Nat.max_le.mpr ⟨by omega, this⟩, this⟩
theorem pw31 {n : Nat} (h : n < 32) : 2 ^ n ≤ 2147483648 := by
  have : 2 ^ n ≤ 2 ^ 31 := Nat.pow_le_pow_right (by decide) (by omega)
  omega
theorem shl1 {n : Nat} (h : n < 64) : (1 : Int64) <<< ((nI n).toInt64 &&& 63) = lN (2 ^ n) := by
  have := wb_shl 1 h
  rw [Nat.one_mul] at this
  exact this
theorem pub_run (d : Nat) (x1 x2 x3 : Int32) (σ : St) : PB yX10_run MX10_run (d + 1) yX11_run MX11_run (d + 1) [.int x1, .int x2, .int x3] σ [] [] (fun _ => True) := by
  by_cases hg : 1 ≤ x1.toInt ∧ x1.toInt < (32 : Nat)
  · obtain ⟨n, hn, e1⟩ := ofI (x := x1) (n := 32) (by omega) hg.2 (by decide)
    have hp := pw31 hn
    have hp0 : 0 < 2 ^ n := Nat.two_pow_pos n
    have eP : (1 : Int64) <<< (x1.toInt64 &&& 63) = lN (2 ^ n) := by rw [e1]; exact shl1 (by omega)
    have tP : ((1 : Int64) <<< (x1.toInt64 &&& 63)).toInt = (2 ^ n : Nat) := by rw [eP, pk_lT (by omega)]
    have tP1 : ((1 : Int64) <<< (x1.toInt64 &&& 63) - 1).toInt = (2 ^ n : Nat) - 1 := by
      rw [eP, show lN (2 ^ n) - 1 = lN (2 ^ n - 1) from lN_sub (b := 1) hp0, pk_lT (by omega)]; omega
    by_cases hb : 0 ≤ x2.toInt ∧ x2.toInt < (2 ^ n : Nat) ∧ 0 ≤ x3.toInt ∧ x3.toInt < (2 ^ n : Nat)
    · -- the bits
      have hw : ∃ w : Nat → Nat, ∀ i, w i ≤ 2 ∧ ((x2 >>> (nI i &&& 31)) &&& 1) + ((x3 >>> (nI i &&& 31)) &&& 1) = nI (w i) := by
        refine ⟨fun i => (bit_of x2 (nI i)).choose + (bit_of x3 (nI i)).choose, fun i => ?_⟩
        have h1 := (bit_of x2 (nI i)).choose_spec
        have h2 := (bit_of x3 (nI i)).choose_spec
        refine ⟨by show (bit_of x2 (nI i)).choose + (bit_of x3 (nI i)).choose ≤ 2; omega, ?_⟩
        rw [← nI_add, ← h1.2, ← h2.2]
      obtain ⟨w, hw⟩ := hw
      refine Ct.of mX10_run.1 (Nat.le_of_ble_eq_true rfl) (bX10_run_0 x1 x2 x3 σ (fun a => False.elim (by simp only [Int32.lt_iff_toInt_lt, Int32.le_iff_toInt_le, Int64.lt_iff_toInt_lt, Int64.le_iff_toInt_le, ← Int32.toInt_inj, ← Int64.toInt_inj, Int32.toInt_toInt64, tim20, tim13, tim12, tim11, tim10, tim4, tim3, tim2, tim1, ti0, ti1, ti2, ti3, ti4, ti5, ti6, ti7, ti8, ti9, ti10, ti11, ti12, ti13, ti14, ti15, ti16, ti24, ti30, ti31, ti32, ti48, ti56, ti57, ti60, ti63, ti99, ti100, ti130, ti199, ti200, ti240, ti999, ti1000, ti20, ti21, ti22, ti23, ti65535, ti32767, ti144, tjm20, tjm13, tjm12, tjm11, tjm10, tjm4, tjm3, tjm2, tjm1, tj0, tj1, tj2, tj3, tj4, tj5, tj6, tj7, tj8, tj9, tj10, tj11, tj12, tj13, tj14, tj15, tj16, tj24, tj30, tj31, tj32, tj48, tj56, tj57, tj60, tj63, tj99, tj100, tj130, tj199, tj200, tj240, tj999, tj1000, tj20, tj21, tj22, tj23, tj65535, tj32767, tj144] at a; omega)) (fun a b => False.elim (by simp only [Int32.lt_iff_toInt_lt, Int32.le_iff_toInt_le, Int64.lt_iff_toInt_lt, Int64.le_iff_toInt_le, ← Int32.toInt_inj, ← Int64.toInt_inj, Int32.toInt_toInt64, tim20, tim13, tim12, tim11, tim10, tim4, tim3, tim2, tim1, ti0, ti1, ti2, ti3, ti4, ti5, ti6, ti7, ti8, ti9, ti10, ti11, ti12, ti13, ti14, ti15, ti16, ti24, ti30, ti31, ti32, ti48, ti56, ti57, ti60, ti63, ti99, ti100, ti130, ti199, ti200, ti240, ti999, ti1000, ti20, ti21, ti22, ti23, ti65535, ti32767, ti144, tjm20, tjm13, tjm12, tjm11, tjm10, tjm4, tjm3, tjm2, tjm1, tj0, tj1, tj2, tj3, tj4, tj5, tj6, tj7, tj8, tj9, tj10, tj11, tj12, tj13, tj14, tj15, tj16, tj24, tj30, tj31, tj32, tj48, tj56, tj57, tj60, tj63, tj99, tj100, tj130, tj199, tj200, tj240, tj999, tj1000, tj20, tj21, tj22, tj23, tj65535, tj32767, tj144] at a b; omega)) (fun _ _ c => False.elim (c ?_)) (fun _ _ _ _ => ?_) (fun _ _ _ c => False.elim (c ?_)))
      · simp only [Int32.le_iff_toInt_le, Int64.lt_iff_toInt_lt, Int32.toInt_toInt64, tP, ti0]; omega
      · rw [e1]
        refine loopI2 (fun x a b => Run MX10_run (d + 1) 38 [none, some (.int (nI n)), some (.int x2), some (.int x3), some (.int a), some (.int b), some (.int x), none] [] σ _) (fun i a b => a = nI (rnS w i).1 ∧ b = nI (rnS w i).2) n ?_ ?_ 0 0 0 (by omega) ⟨rfl, rfl⟩
        · intro a b ⟨ha, hb'⟩
          refine bX10_run_38 (nI n) x2 x3 a b (nI n) σ (fun _ => ⟨_, rfl, ?_⟩) (fun q => absurd q (nI_nlt (Nat.le_refl _) (by omega)))
          rw [← e1]
          refine Ct.of mX11_run.1 (Nat.le_of_ble_eq_true rfl) (bX11_run_0 x1 x2 x3 σ (fun a => False.elim (by simp only [Int32.lt_iff_toInt_lt, Int32.le_iff_toInt_le, Int64.lt_iff_toInt_lt, Int64.le_iff_toInt_le, ← Int32.toInt_inj, ← Int64.toInt_inj, Int32.toInt_toInt64, tim20, tim13, tim12, tim11, tim10, tim4, tim3, tim2, tim1, ti0, ti1, ti2, ti3, ti4, ti5, ti6, ti7, ti8, ti9, ti10, ti11, ti12, ti13, ti14, ti15, ti16, ti24, ti30, ti31, ti32, ti48, ti56, ti57, ti60, ti63, ti99, ti100, ti130, ti199, ti200, ti240, ti999, ti1000, ti20, ti21, ti22, ti23, ti65535, ti32767, ti144, tjm20, tjm13, tjm12, tjm11, tjm10, tjm4, tjm3, tjm2, tjm1, tj0, tj1, tj2, tj3, tj4, tj5, tj6, tj7, tj8, tj9, tj10, tj11, tj12, tj13, tj14, tj15, tj16, tj24, tj30, tj31, tj32, tj48, tj56, tj57, tj60, tj63, tj99, tj100, tj130, tj199, tj200, tj240, tj999, tj1000, tj20, tj21, tj22, tj23, tj65535, tj32767, tj144] at a; omega)) (fun _ c => False.elim (c ?_)) (fun _ _ _ => ?_) (fun _ _ c => False.elim (c ?_)))
          · simp only [Int64.le_iff_toInt_le, Int32.toInt_toInt64, tP1, tj0]; omega
          · rw [e1]
            refine loopI2 (fun x u v => Run MX11_run (d + 1) 51 [none, some (.int (nI n)), some (.int x2), some (.int x3), some (.int v), some (.int u), some (.int x), none] [] σ _) (fun i u v => u = nI (rnS w i).1 ∧ v = nI (rnS w i).2) n ?_ ?_ 0 0 0 (by omega) ⟨rfl, rfl⟩
            · intro u v ⟨hu, hv⟩
              exact bX11_run_51 (nI n) x2 x3 v u (nI n) σ (fun _ => ⟨by rw [hu, ha], Fr.rf, trivial⟩) (fun q => absurd q (nI_nlt (Nat.le_refl _) (by omega)))
            · intro i u v hi ⟨hu, hv⟩ ih
              have hl := rnS_le w i
              refine bX11_run_51 (nI n) x2 x3 v u (nI i) σ (fun q => absurd q (nI_ge hi (by omega))) (fun _ => ?_)
              rw [(hw i).2, hv, rnM (hw i).1 (by omega), hu]
              have hl2 := rnS_le w (i + 1)
              exact ih _ _ ⟨mxI2 (by omega) (by have := hl2.2; have e : (rnS w (i + 1)).2 = rnL (w i) (rnS w i).2 := rfl; omega), rfl⟩
          · simp only [Int64.le_iff_toInt_le, Int32.toInt_toInt64, tP1, tj0]; omega
        · intro i a b hi ⟨ha, hb'⟩ ih
          have hl := rnS_le w i
          refine bX10_run_38 (nI n) x2 x3 a b (nI i) σ (fun q => absurd q (nI_ge hi (by omega))) (fun _ => ?_)
          rw [(hw i).2, hb', rnC (hw i).1 (by omega), ha]
          have hl2 := rnS_le w (i + 1)
          exact ih _ _ ⟨mx_nI (by omega) (by have := hl2.2; have e : (rnS w (i + 1)).2 = rnL (w i) (rnS w i).2 := rfl; omega), rfl⟩
      · simp only [Int32.le_iff_toInt_le, Int64.lt_iff_toInt_lt, Int32.toInt_toInt64, tP, ti0]; omega
    · have bad : Ct yX11_run MX11_run (d + 1) [.ref 88, .int x1, .int x2, .int x3] σ (fun v2 σ2 => v2 = some (.int (-1)) ∧ Fr [] [] σ σ2 ∧ True) :=
        Ct.of mX11_run.1 (Nat.le_of_ble_eq_true rfl) (bX11_run_0 x1 x2 x3 σ (fun a => False.elim (by simp only [Int32.lt_iff_toInt_lt, Int32.le_iff_toInt_le, Int64.lt_iff_toInt_lt, Int64.le_iff_toInt_le, ← Int32.toInt_inj, ← Int64.toInt_inj, Int32.toInt_toInt64, tim20, tim13, tim12, tim11, tim10, tim4, tim3, tim2, tim1, ti0, ti1, ti2, ti3, ti4, ti5, ti6, ti7, ti8, ti9, ti10, ti11, ti12, ti13, ti14, ti15, ti16, ti24, ti30, ti31, ti32, ti48, ti56, ti57, ti60, ti63, ti99, ti100, ti130, ti199, ti200, ti240, ti999, ti1000, ti20, ti21, ti22, ti23, ti65535, ti32767, ti144, tjm20, tjm13, tjm12, tjm11, tjm10, tjm4, tjm3, tjm2, tjm1, tj0, tj1, tj2, tj3, tj4, tj5, tj6, tj7, tj8, tj9, tj10, tj11, tj12, tj13, tj14, tj15, tj16, tj24, tj30, tj31, tj32, tj48, tj56, tj57, tj60, tj63, tj99, tj100, tj130, tj199, tj200, tj240, tj999, tj1000, tj20, tj21, tj22, tj23, tj65535, tj32767, tj144] at a; omega)) (fun _ _ => ⟨rfl, Fr.rf, trivial⟩) (fun _ b c => False.elim (by simp only [Int64.le_iff_toInt_le, Int32.toInt_toInt64, tP1, tj0] at b c; omega)) (fun _ _ _ => ⟨rfl, Fr.rf, trivial⟩))
      exact Ct.of mX10_run.1 (Nat.le_of_ble_eq_true rfl) (bX10_run_0 x1 x2 x3 σ (fun a => False.elim (by simp only [Int32.lt_iff_toInt_lt, Int32.le_iff_toInt_le, Int64.lt_iff_toInt_lt, Int64.le_iff_toInt_le, ← Int32.toInt_inj, ← Int64.toInt_inj, Int32.toInt_toInt64, tim20, tim13, tim12, tim11, tim10, tim4, tim3, tim2, tim1, ti0, ti1, ti2, ti3, ti4, ti5, ti6, ti7, ti8, ti9, ti10, ti11, ti12, ti13, ti14, ti15, ti16, ti24, ti30, ti31, ti32, ti48, ti56, ti57, ti60, ti63, ti99, ti100, ti130, ti199, ti200, ti240, ti999, ti1000, ti20, ti21, ti22, ti23, ti65535, ti32767, ti144, tjm20, tjm13, tjm12, tjm11, tjm10, tjm4, tjm3, tjm2, tjm1, tj0, tj1, tj2, tj3, tj4, tj5, tj6, tj7, tj8, tj9, tj10, tj11, tj12, tj13, tj14, tj15, tj16, tj24, tj30, tj31, tj32, tj48, tj56, tj57, tj60, tj63, tj99, tj100, tj130, tj199, tj200, tj240, tj999, tj1000, tj20, tj21, tj22, tj23, tj65535, tj32767, tj144] at a; omega)) (fun a b => False.elim (by simp only [Int32.lt_iff_toInt_lt, Int32.le_iff_toInt_le, Int64.lt_iff_toInt_lt, Int64.le_iff_toInt_le, ← Int32.toInt_inj, ← Int64.toInt_inj, Int32.toInt_toInt64, tim20, tim13, tim12, tim11, tim10, tim4, tim3, tim2, tim1, ti0, ti1, ti2, ti3, ti4, ti5, ti6, ti7, ti8, ti9, ti10, ti11, ti12, ti13, ti14, ti15, ti16, ti24, ti30, ti31, ti32, ti48, ti56, ti57, ti60, ti63, ti99, ti100, ti130, ti199, ti200, ti240, ti999, ti1000, ti20, ti21, ti22, ti23, ti65535, ti32767, ti144, tjm20, tjm13, tjm12, tjm11, tjm10, tjm4, tjm3, tjm2, tjm1, tj0, tj1, tj2, tj3, tj4, tj5, tj6, tj7, tj8, tj9, tj10, tj11, tj12, tj13, tj14, tj15, tj16, tj24, tj30, tj31, tj32, tj48, tj56, tj57, tj60, tj63, tj99, tj100, tj130, tj199, tj200, tj240, tj999, tj1000, tj20, tj21, tj22, tj23, tj65535, tj32767, tj144] at a b; omega)) (fun _ _ _ => ⟨_, rfl, bad⟩) (fun _ _ b c => False.elim (by simp only [Int32.le_iff_toInt_le, Int64.lt_iff_toInt_lt, Int32.toInt_toInt64, tP, ti0] at b c; omega)) (fun _ _ _ _ => ⟨_, rfl, bad⟩))
  · have bad : Ct yX11_run MX11_run (d + 1) [.ref 88, .int x1, .int x2, .int x3] σ (fun v2 σ2 => v2 = some (.int (-1)) ∧ Fr [] [] σ σ2 ∧ True) :=
      Ct.of mX11_run.1 (Nat.le_of_ble_eq_true rfl) (bX11_run_0 x1 x2 x3 σ (fun _ => ⟨rfl, Fr.rf, trivial⟩) (fun a _ => False.elim (by simp only [Int32.lt_iff_toInt_lt, Int32.le_iff_toInt_le, Int64.lt_iff_toInt_lt, Int64.le_iff_toInt_le, ← Int32.toInt_inj, ← Int64.toInt_inj, Int32.toInt_toInt64, tim20, tim13, tim12, tim11, tim10, tim4, tim3, tim2, tim1, ti0, ti1, ti2, ti3, ti4, ti5, ti6, ti7, ti8, ti9, ti10, ti11, ti12, ti13, ti14, ti15, ti16, ti24, ti30, ti31, ti32, ti48, ti56, ti57, ti60, ti63, ti99, ti100, ti130, ti199, ti200, ti240, ti999, ti1000, ti20, ti21, ti22, ti23, ti65535, ti32767, ti144, tjm20, tjm13, tjm12, tjm11, tjm10, tjm4, tjm3, tjm2, tjm1, tj0, tj1, tj2, tj3, tj4, tj5, tj6, tj7, tj8, tj9, tj10, tj11, tj12, tj13, tj14, tj15, tj16, tj24, tj30, tj31, tj32, tj48, tj56, tj57, tj60, tj63, tj99, tj100, tj130, tj199, tj200, tj240, tj999, tj1000, tj20, tj21, tj22, tj23, tj65535, tj32767, tj144] at a; omega)) (fun a _ _ => False.elim (by simp only [Int32.lt_iff_toInt_lt, Int32.le_iff_toInt_le, Int64.lt_iff_toInt_lt, Int64.le_iff_toInt_le, ← Int32.toInt_inj, ← Int64.toInt_inj, Int32.toInt_toInt64, tim20, tim13, tim12, tim11, tim10, tim4, tim3, tim2, tim1, ti0, ti1, ti2, ti3, ti4, ti5, ti6, ti7, ti8, ti9, ti10, ti11, ti12, ti13, ti14, ti15, ti16, ti24, ti30, ti31, ti32, ti48, ti56, ti57, ti60, ti63, ti99, ti100, ti130, ti199, ti200, ti240, ti999, ti1000, ti20, ti21, ti22, ti23, ti65535, ti32767, ti144, tjm20, tjm13, tjm12, tjm11, tjm10, tjm4, tjm3, tjm2, tjm1, tj0, tj1, tj2, tj3, tj4, tj5, tj6, tj7, tj8, tj9, tj10, tj11, tj12, tj13, tj14, tj15, tj16, tj24, tj30, tj31, tj32, tj48, tj56, tj57, tj60, tj63, tj99, tj100, tj130, tj199, tj200, tj240, tj999, tj1000, tj20, tj21, tj22, tj23, tj65535, tj32767, tj144] at a; omega)) (fun a _ _ => False.elim (by simp only [Int32.lt_iff_toInt_lt, Int32.le_iff_toInt_le, Int64.lt_iff_toInt_lt, Int64.le_iff_toInt_le, ← Int32.toInt_inj, ← Int64.toInt_inj, Int32.toInt_toInt64, tim20, tim13, tim12, tim11, tim10, tim4, tim3, tim2, tim1, ti0, ti1, ti2, ti3, ti4, ti5, ti6, ti7, ti8, ti9, ti10, ti11, ti12, ti13, ti14, ti15, ti16, ti24, ti30, ti31, ti32, ti48, ti56, ti57, ti60, ti63, ti99, ti100, ti130, ti199, ti200, ti240, ti999, ti1000, ti20, ti21, ti22, ti23, ti65535, ti32767, ti144, tjm20, tjm13, tjm12, tjm11, tjm10, tjm4, tjm3, tjm2, tjm1, tj0, tj1, tj2, tj3, tj4, tj5, tj6, tj7, tj8, tj9, tj10, tj11, tj12, tj13, tj14, tj15, tj16, tj24, tj30, tj31, tj32, tj48, tj56, tj57, tj60, tj63, tj99, tj100, tj130, tj199, tj200, tj240, tj999, tj1000, tj20, tj21, tj22, tj23, tj65535, tj32767, tj144] at a; omega)))
    exact Ct.of mX10_run.1 (Nat.le_of_ble_eq_true rfl) (bX10_run_0 x1 x2 x3 σ (fun _ => ⟨_, rfl, bad⟩) (fun _ _ => ⟨_, rfl, bad⟩) (fun a b _ => False.elim (by simp only [Int32.lt_iff_toInt_lt, Int32.le_iff_toInt_le, Int64.lt_iff_toInt_lt, Int64.le_iff_toInt_le, ← Int32.toInt_inj, ← Int64.toInt_inj, Int32.toInt_toInt64, tim20, tim13, tim12, tim11, tim10, tim4, tim3, tim2, tim1, ti0, ti1, ti2, ti3, ti4, ti5, ti6, ti7, ti8, ti9, ti10, ti11, ti12, ti13, ti14, ti15, ti16, ti24, ti30, ti31, ti32, ti48, ti56, ti57, ti60, ti63, ti99, ti100, ti130, ti199, ti200, ti240, ti999, ti1000, ti20, ti21, ti22, ti23, ti65535, ti32767, ti144, tjm20, tjm13, tjm12, tjm11, tjm10, tjm4, tjm3, tjm2, tjm1, tj0, tj1, tj2, tj3, tj4, tj5, tj6, tj7, tj8, tj9, tj10, tj11, tj12, tj13, tj14, tj15, tj16, tj24, tj30, tj31, tj32, tj48, tj56, tj57, tj60, tj63, tj99, tj100, tj130, tj199, tj200, tj240, tj999, tj1000, tj20, tj21, tj22, tj23, tj65535, tj32767, tj144] at a b; omega)) (fun a b _ _ => False.elim (by simp only [Int32.lt_iff_toInt_lt, Int32.le_iff_toInt_le, Int64.lt_iff_toInt_lt, Int64.le_iff_toInt_le, ← Int32.toInt_inj, ← Int64.toInt_inj, Int32.toInt_toInt64, tim20, tim13, tim12, tim11, tim10, tim4, tim3, tim2, tim1, ti0, ti1, ti2, ti3, ti4, ti5, ti6, ti7, ti8, ti9, ti10, ti11, ti12, ti13, ti14, ti15, ti16, ti24, ti30, ti31, ti32, ti48, ti56, ti57, ti60, ti63, ti99, ti100, ti130, ti199, ti200, ti240, ti999, ti1000, ti20, ti21, ti22, ti23, ti65535, ti32767, ti144, tjm20, tjm13, tjm12, tjm11, tjm10, tjm4, tjm3, tjm2, tjm1, tj0, tj1, tj2, tj3, tj4, tj5, tj6, tj7, tj8, tj9, tj10, tj11, tj12, tj13, tj14, tj15, tj16, tj24, tj30, tj31, tj32, tj48, tj56, tj57, tj60, tj63, tj99, tj100, tj130, tj199, tj200, tj240, tj999, tj1000, tj20, tj21, tj22, tj23, tj65535, tj32767, tj144] at a b; omega)) (fun a b _ _ => False.elim (by simp only [Int32.lt_iff_toInt_lt, Int32.le_iff_toInt_le, Int64.lt_iff_toInt_lt, Int64.le_iff_toInt_le, ← Int32.toInt_inj, ← Int64.toInt_inj, Int32.toInt_toInt64, tim20, tim13, tim12, tim11, tim10, tim4, tim3, tim2, tim1, ti0, ti1, ti2, ti3, ti4, ti5, ti6, ti7, ti8, ti9, ti10, ti11, ti12, ti13, ti14, ti15, ti16, ti24, ti30, ti31, ti32, ti48, ti56, ti57, ti60, ti63, ti99, ti100, ti130, ti199, ti200, ti240, ti999, ti1000, ti20, ti21, ti22, ti23, ti65535, ti32767, ti144, tjm20, tjm13, tjm12, tjm11, tjm10, tjm4, tjm3, tjm2, tjm1, tj0, tj1, tj2, tj3, tj4, tj5, tj6, tj7, tj8, tj9, tj10, tj11, tj12, tj13, tj14, tj15, tj16, tj24, tj30, tj31, tj32, tj48, tj56, tj57, tj60, tj63, tj99, tj100, tj130, tj199, tj200, tj240, tj999, tj1000, tj20, tj21, tj22, tj23, tj65535, tj32767, tj144] at a b; omega)))
/-! all pairs by their RUN -/
def rv (k : Nat) : Nat → Nat → Nat
  | 0, c => if c = 0 then 1 else 0
  | n + 1, c => if c = 0 then sm (rv k n) (k + 1) + 2 * rv k n 0 else if c = 1 then sm (rv k n) (k + 1) else 2 * rv k n (c - 1)
def rR (n k : Nat) : Nat := sm (rv k n) (k + 1)
theorem sm_shift (f : Nat → Nat) (n : Nat) : sm f (n + 1) = f 0 + sm (fun c => f (c + 1)) n := by
  induction n with
  | zero => show 0 + f 0 = f 0 + 0; omega
  | succ n ih =>
    show sm f (n + 1) + f (n + 1) = f 0 + (sm (fun c => f (c + 1)) n + f (n + 1))
    omega
theorem sm_mul (a : Nat) (f : Nat → Nat) (n : Nat) : sm (fun c => a * f c) n = a * sm f n := by
  induction n with
  | zero => rfl
  | succ n ih => show sm (fun c => a * f c) n + a * f n = a * (sm f n + f n); rw [ih, Nat.mul_add]
theorem rR_le (k : Nat) : ∀ n, rR n k ≤ 4 ^ n
  | 0 => by
    unfold rR
    rw [sm_shift]
    have : sm (fun c => rv k 0 (c + 1)) k = 0 := by
      have h := sm_le (h := fun c => rv k 0 (c + 1)) (b := 0) (n := k) (fun c _ => Nat.le_refl 0)
      omega
    rw [this]; exact Nat.le_refl 1
  | n + 1 => by
    have ih := rR_le k n
    have h4 : 4 ^ (n + 1) = 4 * 4 ^ n := by rw [Nat.pow_succ, Nat.mul_comm]
    have hS : rR n k = sm (rv k n) (k + 1) := rfl
    have hz : sm (rv k n) (k + 1) = rv k n 0 + sm (fun c => rv k n (c + 1)) k := sm_shift _ _
    show sm (rv k (n + 1)) (k + 1) ≤ _
    rw [sm_shift]
    have h0 : rv k (n + 1) 0 = rR n k + 2 * rv k n 0 := rfl
    rw [h0]
    cases k with
    | zero => show rR n 0 + 2 * rv 0 n 0 + 0 ≤ _; have : rR n 0 = 0 + rv 0 n 0 := rfl; omega
    | succ k =>
      rw [sm_shift]
      have h1 : rv (k + 1) (n + 1) (0 + 1) = rR n (k + 1) := rfl
      have h2 : sm (fun c => rv (k + 1) (n + 1) (c + 1 + 1)) k = 2 * sm (fun c => rv (k + 1) n (c + 1)) k := by rw [← sm_mul]; rfl
      rw [h1, h2]
      have h3 : sm (fun c => rv (k + 1) n (c + 1)) (k + 1) = sm (fun c => rv (k + 1) n (c + 1)) k + rv (k + 1) n (k + 1) := rfl
      omega
theorem sm_tail {f : Nat → Nat} {m n : Nat} (h : ∀ c, m ≤ c → c < n → f c = 0) (hm : m ≤ n) : sm f n = sm f m := by
  have key : ∀ q, (∀ c, m ≤ c → c < m + q → f c = 0) → sm f (m + q) = sm f m := by
    intro q
    induction q with
    | zero => intro _; rfl
    | succ q ih =>
      intro hz
      show sm f (m + q) + f (m + q) = _
      rw [ih (fun c a b => hz c a (by omega)), hz (m + q) (by omega) (by omega), Nat.add_zero]
  have := key (n - m) (fun c a b => h c a (by omega))
  rwa [show m + (n - m) = n by omega] at this
theorem l2 (a : Nat) : (2 : Int64) * lN a = lN (2 * a) := lN_mul 2 a
theorem tX10_pairsInAll (d : Nat) (σ : St) (f : Nat → Nat) (hf : ∀ c, c < 32 → σ.2 26 c = lN (f c)) : Ct yX10_pairsInAll MX10_pairsInAll d [.ref 0] σ (fun v σ' => v = some (.long (lN (sm f 32))) ∧ σ' = σ) := by
  refine Ct.of mX10_pairsInAll.1 (Nat.le_of_ble_eq_true rfl) (bX10_pairsInAll_0 σ ?_)
  refine loopI1 (fun x a => Run MX10_pairsInAll d 14 [none, some (.long a), none, some (.ref 26), some (.int 32), some (.int x), none, none] [] σ _) (fun k a => a = lN (sm f k)) 32 ?_ ?_ 0 0 (by decide) rfl
  · intro a ha
    exact bX10_pairsInAll_14 a 32 (nI 32) σ (fun q => absurd q (by decide)) (fun _ => ⟨by rw [ha], rfl⟩) (fun q => absurd q (by decide))
  · intro k a hk ha ih
    refine bX10_pairsInAll_14 a 32 (nI k) σ (fun _ => vp_in_nI hk (by decide)) (fun q => absurd q (nI_ge hk (by decide))) (fun _ => ih _ ?_)
    rw [ha, nI_clamp (by omega), hf k hk, lN_add]; rfl
theorem tX10_pairsRunningAtMost (d n k : Nat) (hn : n ≤ 31) (hk : k ≤ 31) (σ : St) : Ct yX10_pairsRunningAtMost MX10_pairsRunningAtMost (d + 1) [.ref 0, .int (nI n), .int (nI k)] σ (fun v σ' => v = some (.long (lN (rR n k))) ∧ Fr [26] [] σ σ') := by
  refine Ct.of mX10_pairsRunningAtMost.1 (Nat.le_of_ble_eq_true rfl) (bX10_pairsRunningAtMost_0 (nI n) (nI k) σ ?_)
  refine loopI1 (fun x s => Run MX10_pairsRunningAtMost (d + 1) 2 [some (.ref 0), some (.int (nI n)), some (.int (nI k)), some (.int x), none, none, none, none, none, none] [] s _) (fun j s => Fr [26] [] σ s ∧ ∀ c, c < j → s.2 26 c = lN (rv k 0 c)) 32 ?_ ?_ 0 σ (by decide) ⟨Fr.rf, fun c hc => absurd hc (Nat.not_lt_zero c)⟩
  · intro s ⟨hF, h0⟩
    refine bX10_pairsRunningAtMost_2 (nI n) (nI k) (nI 32) s (fun q => absurd q (by decide)) (fun _ => ?_) (fun q => absurd q (by decide))
    have em : mnI (nI k) ((32 : Int32) - 1) = nI k := by
      rw [show (32 : Int32) - 1 = nI 31 from by decide, mn_nI (by omega) (by decide), Nat.min_eq_left hk]
    rw [em]
    -- f i: what the row holds behind i PLACES
    refine loopI1 (fun x s => Run MX10_pairsRunningAtMost (d + 1) 47 [some (.ref 0), some (.int (nI n)), none, some (.int (nI k)), some (.int x), none, none, none, none, none] [] s _) (fun i s => Fr [26] [] σ s ∧ ∀ c, c < 32 → s.2 26 c = lN (if c ≤ k then rv k i c else 0)) n ?_ ?_ 0 s (by omega) ⟨hF, fun c hc => ?_⟩
    · intro s ⟨hF, h1⟩
      refine bX10_pairsRunningAtMost_47 (nI n) (nI k) (nI n) s (fun _ => (tX10_pairsInAll d s _ h1).mono ?_) (fun q => absurd q (nI_nlt (Nat.le_refl _) (by omega)))
      rintro v1 s1 ⟨hv, hs⟩
      rw [hv, hs]
      refine bX10_pairsRunningAtMost_139 _ s ⟨?_, hF⟩
      rw [sm_tail (m := k + 1) (fun c a b => by rw [if_neg (by omega)]) (by omega), sm_cong (g := rv k n) (fun c hc => by rw [if_pos (by omega)])]; rfl
    · intro i s hi ⟨hF, h1⟩ ih
      refine bX10_pairsRunningAtMost_47 (nI n) (nI k) (nI i) s (fun q => absurd q (nI_ge hi (by omega))) (fun _ => (tX10_pairsInAll d s _ h1).mono ?_)
      rintro v1 s1 ⟨hv, hs⟩
      rw [hv, hs]
      have eS : sm (fun c => if c ≤ k then rv k i c else 0) 32 = rR i k := by
        rw [sm_tail (m := k + 1) (fun c a b => by rw [if_neg (by omega)]) (by omega), sm_cong (g := rv k i) (fun c hc => by rw [if_pos (by omega)])]; rfl
      rw [eS]
      refine bX10_pairsRunningAtMost_57 (nI n) (nI k) (nI i) _ s ?_
      have e0 : s.2 26 ((0 : Int32).toNatClampNeg) = lN (rv k i 0) := by
        have := h1 0 (by decide); rw [if_pos (Nat.zero_le _)] at this; exact this
      rw [e0]
      -- the inner loop
      have key : ∀ j s2, j ≤ k → Fr [26] [] σ s2 → (∀ c, c < 32 → s2.2 26 c = lN (if c ≤ k then (if j < c ∧ 1 < c then 2 * rv k i (c - 1) else rv k i c) else 0)) → Run MX10_pairsRunningAtMost (d + 1) 70 [some (.ref 0), some (.int (nI n)), none, some (.int (nI k)), some (.int (nI i)), some (.long (lN (rR i k))), none, some (.long (lN (rv k i 0))), none, some (.int (nI j))] [] s2 (fun v σ' => v = some (.long (lN (rR n k))) ∧ Fr [26] [] σ σ') := by
        intro j
        induction j with
        | zero =>
          intro s2 hj hF2 h2
          refine bX10_pairsRunningAtMost_70 (nI n) (nI k) (nI i) _ _ (nI 0) s2 (fun q => absurd q (by decide)) (fun q => absurd q (by decide)) (fun _ q => ?_) (fun _ q => ?_) (fun q => absurd q (by decide))
          · have hk0 : k = 0 := by have := (nI_leI (b := 0) (by omega) (by decide)).mp q; omega
            refine ih _ ⟨hF2.tJ (by decide), fun c hc => ?_⟩
            rw [sJ_at, updL_eq, l2, lN_add]
            by_cases e : c = 0
            · subst e; rw [if_pos (by decide), if_pos (Nat.zero_le _)]; rfl
            · rw [if_neg (by exact e), h2 c hc, if_neg (by omega), if_neg (by omega)]
          · have hk1 : 0 < k := (nI_ltI (a := 0) (by decide) (by omega)).mp q
            refine ih _ ⟨(hF2.tJ (by decide)).tJ (by decide), fun c hc => ?_⟩
            rw [sJ_at, updL_eq, l2, lN_add]
            by_cases e : c = 0
            · subst e; rw [if_pos (by decide), if_pos (Nat.zero_le _)]; rfl
            · rw [if_neg (by exact e), updL_eq]
              by_cases e1 : c = 1
              · subst e1; rw [if_pos (by decide), if_pos (by omega)]; rfl
              · rw [if_neg (by exact e1), h2 c hc]
                by_cases e2 : c ≤ k
                · rw [if_pos e2, if_pos (by omega), if_pos e2]
                  show _ = lN (if c = 0 then _ else if c = 1 then _ else _)
                  rw [if_neg e, if_neg e1]
                · rw [if_neg e2, if_neg e2]
        | succ j ihj =>
          intro s2 hj hF2 h2
          by_cases hj0 : j = 0
          · subst hj0
            refine bX10_pairsRunningAtMost_70 (nI n) (nI k) (nI i) _ _ (nI (0 + 1)) s2 (fun q => absurd q (by decide)) (fun q => absurd q (by decide)) (fun _ q => ?_) (fun _ q => ?_) (fun q => absurd q (by decide))
            · have hk0 : k = 0 := by have := (nI_leI (b := 0) (by omega) (by decide)).mp q; omega
              omega
            · refine ih _ ⟨(hF2.tJ (by decide)).tJ (by decide), fun c hc => ?_⟩
              rw [sJ_at, updL_eq, l2, lN_add]
              by_cases e : c = 0
              · subst e; rw [if_pos (by decide), if_pos (Nat.zero_le _)]; rfl
              · rw [if_neg (by exact e), updL_eq]
                by_cases e1 : c = 1
                · subst e1; rw [if_pos (by decide), if_pos (by omega)]; rfl
                · rw [if_neg (by exact e1), h2 c hc]
                  by_cases e2 : c ≤ k
                  · rw [if_pos e2, if_pos (by omega), if_pos e2]
                    show _ = lN (if c = 0 then _ else if c = 1 then _ else _)
                    rw [if_neg e, if_neg e1]
                  · rw [if_neg e2, if_neg e2]
          · have em1 : nI (j + 1) - 1 = nI j := nI_pred j
            refine bX10_pairsRunningAtMost_70 (nI n) (nI k) (nI i) _ _ (nI (j + 1)) s2 (fun _ => by rw [em1]; exact vp_in_nI (by omega) (by decide)) (fun _ => vp_in_nI (by omega) (by decide)) (fun q => absurd ((nI_leI (b := 1) (by omega) (by decide)).mp q) (by omega)) (fun q => absurd ((nI_leI (b := 1) (by omega) (by decide)).mp q) (by omega)) (fun _ => ?_)
            rw [pk_m1]
            refine ihj _ (by omega) (hF2.tJ (by decide)) (fun c hc => ?_)
            have ej : s2.2 26 j = lN (rv k i j) := by rw [h2 j (by omega), if_pos (by omega), if_neg (by omega)]
            rw [sJ_at, updL_eq, nI_clamp (by omega), em1, nI_clamp (by omega), ej, l2]
            by_cases e : c = j + 1
            · subst e; rw [if_pos rfl, if_pos (by omega), if_pos (by omega)]; rfl
            · rw [if_neg e, h2 c hc]
              by_cases e2 : c ≤ k
              · rw [if_pos e2, if_pos e2]
                congr 1
                by_cases e3 : j + 1 < c ∧ 1 < c
                · rw [if_pos e3, if_pos (by omega)]
                · rw [if_neg e3, if_neg (by omega)]
              · rw [if_neg e2, if_neg e2]
      exact key k s (Nat.le_refl _) hF (fun c hc => by
        rw [h1 c hc]
        by_cases e2 : c ≤ k
        · rw [if_pos e2, if_pos e2, if_neg (by omega)]
        · rw [if_neg e2, if_neg e2])
    · rw [h0 c hc]
      by_cases e2 : c ≤ k
      · rw [if_pos e2]
      · rw [if_neg e2]; show lN (if c = 0 then 1 else 0) = _; rw [if_neg (by omega)]
  · intro j s hj ⟨hF, h0⟩ ih
    refine bX10_pairsRunningAtMost_2 (nI n) (nI k) (nI j) s (fun _ => vp_in_nI hj (by decide)) (fun q => absurd q (nI_ge hj (by decide))) (fun _ => ih _ ⟨hF.tJ (by decide), fun c hc => ?_⟩)
    rw [sJ_at, nI_clamp (by omega), updL_eq]
    by_cases e : c = j
    · subst e
      rw [if_pos rfl]
      show _ = lN (if c = 0 then 1 else 0)
      by_cases e0 : c = 0
      · rw [if_pos e0, if_pos (show nI c = 0 by rw [e0]; rfl)]; rfl
      · rw [if_neg e0, if_neg (show ¬ nI c = 0 from fun q => e0 ((nI_eq (b := 0) (by omega) (by decide)).mp q))]; rfl
    · rw [if_neg e]; exact h0 c (by omega)
theorem tX11_runsOf (d n k : Nat) (hn : n ≤ 31) (hk : k ≤ 31) (σ : St) : Ct yX11_runsOf MX11_runsOf d [.ref 88, .int (nI n), .int (nI k)] σ (fun v σ' => v = some (.long (lN (rR n k))) ∧ Fr [104, 105] [] σ σ') := by
  have le : ∀ {j : Nat}, j < k + 1 → nI j ≤ nI k := fun h => nI_le (by omega) (by omega)
  have nle : ¬ nI (k + 1) ≤ nI k := nI_ge (by omega) (by omega)
  have nlt : ∀ {j : Nat}, j < k + 1 → ¬ nI k < nI j := fun h => nI_nlt (by omega) (by omega)
  refine Ct.of mX11_runsOf.1 (Nat.le_of_ble_eq_true rfl) (bX11_runsOf_0 (nI n) (nI k) σ ?_)
  refine loopI1 (fun x s => Run MX11_runsOf d 2 [some (.ref 88), some (.int (nI n)), some (.int (nI k)), some (.int x), none, none, none] [] s _) (fun j s => Fr [104, 105] [] σ s ∧ ∀ c, c < j → s.2 104 c = lN (rv k 0 c)) (k + 1) ?_ ?_ 0 σ (by omega) ⟨Fr.rf, fun c hc => absurd hc (Nat.not_lt_zero c)⟩
  · intro s hs
    refine bX11_runsOf_2 (nI n) (nI k) (nI (k + 1)) s (fun q => absurd q nle) (fun _ => ?_) (fun q => absurd q nle)
    refine loopI1 (fun x s => Run MX11_runsOf d 30 [some (.ref 88), some (.int (nI n)), some (.int (nI k)), some (.int x), none, none, none] [] s _) (fun i s => Fr [104, 105] [] σ s ∧ ∀ c, c < k + 1 → s.2 104 c = lN (rv k i c)) n ?_ ?_ 0 s (by omega) hs
    · intro s hs
      refine bX11_runsOf_30 (nI n) (nI k) (nI n) s (fun _ => ?_) (fun q => absurd q (nI_nlt (Nat.le_refl _) (by omega)))
      refine loopI1 (fun x a => Run MX11_runsOf d 170 [some (.ref 88), none, some (.int (nI k)), some (.long a), none, some (.int x), none] [] s _) (fun j a => a = lN (sm (rv k n) j)) (k + 1) ?_ ?_ 0 0 (by omega) rfl
      · intro a ha
        exact bX11_runsOf_170 (nI k) a (nI (k + 1)) s (fun q => absurd q nle) (fun _ => ⟨by rw [ha]; rfl, hs.1⟩) (fun q => absurd q nle)
      · intro j a hj ha ih
        refine bX11_runsOf_170 (nI k) a (nI j) s (fun _ => vp_in_nI (by omega) (by decide)) (fun q => absurd q (nlt hj)) (fun _ => ih _ ?_)
        rw [ha, nI_clamp (by omega), hs.2 j hj, lN_add]; rfl
    · intro i s hi hs ih
      refine bX11_runsOf_30 (nI n) (nI k) (nI i) s (fun q => absurd q (nI_ge hi (by omega))) (fun _ => ?_)
      refine loopI1 (fun x a => Run MX11_runsOf d 41 [some (.ref 88), some (.int (nI n)), some (.int (nI k)), some (.int (nI i)), some (.long a), none, some (.int x)] [] s _) (fun j a => a = lN (sm (rv k i) j)) (k + 1) ?_ ?_ 0 0 (by omega) rfl
      · intro a ha
        refine bX11_runsOf_41 (nI n) (nI k) (nI i) a (nI (k + 1)) s (fun q => absurd q nle) (fun _ => ?_) (fun q => absurd q nle)
        have e0 : s.2 104 ((0 : Int32).toNatClampNeg) = lN (rv k i 0) := hs.2 0 (by omega)
        rw [e0, ha, l2, lN_add]
        refine loopI1 (fun x z => Run MX11_runsOf d 87 [some (.ref 88), some (.int (nI n)), some (.int (nI k)), some (.int (nI i)), some (.long (lN (sm (rv k i) (k + 1)))), none, some (.int x)] [] z _) (fun j z => 1 ≤ j ∧ Fr [104, 105] [] σ z ∧ z.2 104 = s.2 104 ∧ ∀ c, c < j → z.2 105 c = lN (rv k (i + 1) c)) (k + 1) ?_ ?_ 1 _ (by omega) ⟨Nat.le_refl _, hs.1.tJ (by decide), rfl, fun c hc => ?_⟩
        · intro z ⟨_, z1, z2, z3⟩
          refine bX11_runsOf_87 (nI n) (nI k) (nI i) _ (nI (k + 1)) z (fun q => absurd q nle) (fun q => absurd q nle) (fun _ => ?_) (fun q => absurd q nle)
          refine loopI1 (fun x y => Run MX11_runsOf d 133 [some (.ref 88), some (.int (nI n)), some (.int (nI k)), some (.int (nI i)), none, none, some (.int x)] [] y _) (fun j y => Fr [104, 105] [] σ y ∧ y.2 105 = z.2 105 ∧ ∀ c, c < j → y.2 104 c = lN (rv k (i + 1) c)) (k + 1) ?_ ?_ 0 z (by omega) ⟨z1, rfl, fun c hc => absurd hc (Nat.not_lt_zero c)⟩
          · intro y ⟨y1, y2, y3⟩
            exact bX11_runsOf_133 (nI n) (nI k) (nI i) (nI (k + 1)) y (fun q => absurd q nle) (fun _ => ih y ⟨y1, y3⟩) (fun q => absurd q nle)
          · intro j y hj ⟨y1, y2, y3⟩ ih2
            refine bX11_runsOf_133 (nI n) (nI k) (nI i) (nI j) y (fun _ => vp_in_nI (by omega) (by decide)) (fun q => absurd q (nlt hj)) (fun _ => ih2 _ ⟨y1.tJ (by decide), y2, fun c hc => ?_⟩)
            rw [sJ_at, nI_clamp (by omega), updL_eq]
            by_cases e : c = j
            · subst e; rw [if_pos rfl, y2]; exact z3 c hj
            · rw [if_neg e]; exact y3 c (by omega)
        · intro j z hj ⟨hj1, z1, z2, z3⟩ ih2
          have j0 : ¬ j = 0 := by omega
          refine bX11_runsOf_87 (nI n) (nI k) (nI i) _ (nI j) z (fun _ _ => by rw [show nI j - 1 = nI (j - 1) from pk_sub (b := 1) (by omega)]; exact vp_in_nI (by omega) (by decide)) (fun _ => vp_in_nI (by omega) (by decide)) (fun q => absurd q (nlt hj)) (fun _ => ih2 _ ⟨by omega, z1.tJ (by decide), z2, fun c hc => ?_⟩)
          rw [sJ_at, nI_clamp (by omega), updL_eq]
          by_cases e : c = j
          · subst e
            rw [if_pos rfl]
            show _ = lN (if c = 0 then _ else if c = 1 then _ else _)
            rw [if_neg j0]
            by_cases e1 : c = 1
            · rw [if_pos e1, if_pos (show nI c = 1 by rw [e1]; rfl)]
            · rw [if_neg e1, if_neg (show ¬ nI c = 1 from fun q => e1 ((nI_eq (b := 1) (by omega) (by decide)).mp q)), show nI c - 1 = nI (c - 1) from pk_sub (b := 1) (by omega), nI_clamp (by omega), z2, hs.2 (c - 1) (by omega), l2]
          · rw [if_neg e]; exact z3 c (by omega)
        · have : c = 0 := by omega
          subst this
          rfl
      · intro j a hj ha ih2
        refine bX11_runsOf_41 (nI n) (nI k) (nI i) a (nI j) s (fun _ => vp_in_nI (by omega) (by decide)) (fun q => absurd q (nlt hj)) (fun _ => ih2 _ ?_)
        rw [ha, nI_clamp (by omega), hs.2 j hj, lN_add]; rfl
  · intro j s hj hs ih
    refine bX11_runsOf_2 (nI n) (nI k) (nI j) s (fun _ => vp_in_nI (by omega) (by decide)) (fun q => absurd q (nlt hj)) (fun _ => ih _ ⟨hs.1.tJ (by decide), fun c hc => ?_⟩)
    rw [sJ_at, nI_clamp (by omega), updL_eq]
    by_cases e : c = j
    · subst e
      rw [if_pos rfl]
      show _ = lN (if c = 0 then 1 else 0)
      by_cases e0 : c = 0
      · rw [if_pos e0, if_pos (show nI c = 0 by rw [e0]; rfl)]; rfl
      · rw [if_neg e0, if_neg (show ¬ nI c = 0 from fun q => e0 ((nI_eq (b := 0) (by omega) (by decide)).mp q))]; rfl
    · rw [if_neg e]; exact hs.2 c (by omega)
theorem pub_runs (d : Nat) (x1 x2 : Int32) (σ : St) : PB yX10_runs MX10_runs (d + 2) yX11_runs MX11_runs (d + 1) [.int x1, .int x2] σ [26, 104, 105] [] (fun _ => True) := by
  by_cases hg : 1 ≤ x1.toInt ∧ x1.toInt < (32 : Nat) ∧ 0 ≤ x2.toInt ∧ x2.toInt ≤ x1.toInt
  · obtain ⟨n, hn, e1⟩ := ofI (x := x1) (n := 32) (by omega) hg.2.1 (by decide)
    obtain ⟨k, hk, e2⟩ := ofI (x := x2) (n := 32) (by omega) (by omega) (by decide)
    refine Ct.of mX10_runs.1 (Nat.le_of_ble_eq_true rfl) (bX10_runs_0 x1 x2 σ (fun a => False.elim (by simp only [Int32.lt_iff_toInt_lt, Int32.le_iff_toInt_le, Int64.lt_iff_toInt_lt, Int64.le_iff_toInt_le, ← Int32.toInt_inj, ← Int64.toInt_inj, Int32.toInt_toInt64, tim20, tim13, tim12, tim11, tim10, tim4, tim3, tim2, tim1, ti0, ti1, ti2, ti3, ti4, ti5, ti6, ti7, ti8, ti9, ti10, ti11, ti12, ti13, ti14, ti15, ti16, ti24, ti30, ti31, ti32, ti48, ti56, ti57, ti60, ti63, ti99, ti100, ti130, ti199, ti200, ti240, ti999, ti1000, ti20, ti21, ti22, ti23, ti65535, ti32767, ti144, tjm20, tjm13, tjm12, tjm11, tjm10, tjm4, tjm3, tjm2, tjm1, tj0, tj1, tj2, tj3, tj4, tj5, tj6, tj7, tj8, tj9, tj10, tj11, tj12, tj13, tj14, tj15, tj16, tj24, tj30, tj31, tj32, tj48, tj56, tj57, tj60, tj63, tj99, tj100, tj130, tj199, tj200, tj240, tj999, tj1000, tj20, tj21, tj22, tj23, tj65535, tj32767, tj144] at a; omega)) (fun a b => False.elim (by simp only [Int32.lt_iff_toInt_lt, Int32.le_iff_toInt_le, Int64.lt_iff_toInt_lt, Int64.le_iff_toInt_le, ← Int32.toInt_inj, ← Int64.toInt_inj, Int32.toInt_toInt64, tim20, tim13, tim12, tim11, tim10, tim4, tim3, tim2, tim1, ti0, ti1, ti2, ti3, ti4, ti5, ti6, ti7, ti8, ti9, ti10, ti11, ti12, ti13, ti14, ti15, ti16, ti24, ti30, ti31, ti32, ti48, ti56, ti57, ti60, ti63, ti99, ti100, ti130, ti199, ti200, ti240, ti999, ti1000, ti20, ti21, ti22, ti23, ti65535, ti32767, ti144, tjm20, tjm13, tjm12, tjm11, tjm10, tjm4, tjm3, tjm2, tjm1, tj0, tj1, tj2, tj3, tj4, tj5, tj6, tj7, tj8, tj9, tj10, tj11, tj12, tj13, tj14, tj15, tj16, tj24, tj30, tj31, tj32, tj48, tj56, tj57, tj60, tj63, tj99, tj100, tj130, tj199, tj200, tj240, tj999, tj1000, tj20, tj21, tj22, tj23, tj65535, tj32767, tj144] at a b; omega)) (fun a b c => False.elim (by simp only [Int32.lt_iff_toInt_lt, Int32.le_iff_toInt_le, Int64.lt_iff_toInt_lt, Int64.le_iff_toInt_le, ← Int32.toInt_inj, ← Int64.toInt_inj, Int32.toInt_toInt64, tim20, tim13, tim12, tim11, tim10, tim4, tim3, tim2, tim1, ti0, ti1, ti2, ti3, ti4, ti5, ti6, ti7, ti8, ti9, ti10, ti11, ti12, ti13, ti14, ti15, ti16, ti24, ti30, ti31, ti32, ti48, ti56, ti57, ti60, ti63, ti99, ti100, ti130, ti199, ti200, ti240, ti999, ti1000, ti20, ti21, ti22, ti23, ti65535, ti32767, ti144, tjm20, tjm13, tjm12, tjm11, tjm10, tjm4, tjm3, tjm2, tjm1, tj0, tj1, tj2, tj3, tj4, tj5, tj6, tj7, tj8, tj9, tj10, tj11, tj12, tj13, tj14, tj15, tj16, tj24, tj30, tj31, tj32, tj48, tj56, tj57, tj60, tj63, tj99, tj100, tj130, tj199, tj200, tj240, tj999, tj1000, tj20, tj21, tj22, tj23, tj65535, tj32767, tj144] at a b c; omega)) (fun _ _ _ _ => ?_) (fun a b c e => False.elim (by simp only [Int32.lt_iff_toInt_lt, Int32.le_iff_toInt_le, Int64.lt_iff_toInt_lt, Int64.le_iff_toInt_le, ← Int32.toInt_inj, ← Int64.toInt_inj, Int32.toInt_toInt64, tim20, tim13, tim12, tim11, tim10, tim4, tim3, tim2, tim1, ti0, ti1, ti2, ti3, ti4, ti5, ti6, ti7, ti8, ti9, ti10, ti11, ti12, ti13, ti14, ti15, ti16, ti24, ti30, ti31, ti32, ti48, ti56, ti57, ti60, ti63, ti99, ti100, ti130, ti199, ti200, ti240, ti999, ti1000, ti20, ti21, ti22, ti23, ti65535, ti32767, ti144, tjm20, tjm13, tjm12, tjm11, tjm10, tjm4, tjm3, tjm2, tjm1, tj0, tj1, tj2, tj3, tj4, tj5, tj6, tj7, tj8, tj9, tj10, tj11, tj12, tj13, tj14, tj15, tj16, tj24, tj30, tj31, tj32, tj48, tj56, tj57, tj60, tj63, tj99, tj100, tj130, tj199, tj200, tj240, tj999, tj1000, tj20, tj21, tj22, tj23, tj65535, tj32767, tj144] at a b c e; omega)))
    rw [e1, e2]
    refine (tX10_pairsRunningAtMost d n k (by omega) (by omega) σ).mono ?_
    rintro v1 s1 ⟨hv, hF⟩
    rw [hv]
    refine bX10_runs_30 _ s1 ⟨_, rfl, ?_⟩
    rw [← e1, ← e2]
    refine Ct.of mX11_runs.1 (Nat.le_of_ble_eq_true rfl) (bX11_runs_0 x1 x2 s1 (fun a => False.elim (by simp only [Int32.lt_iff_toInt_lt, Int32.le_iff_toInt_le, Int64.lt_iff_toInt_lt, Int64.le_iff_toInt_le, ← Int32.toInt_inj, ← Int64.toInt_inj, Int32.toInt_toInt64, tim20, tim13, tim12, tim11, tim10, tim4, tim3, tim2, tim1, ti0, ti1, ti2, ti3, ti4, ti5, ti6, ti7, ti8, ti9, ti10, ti11, ti12, ti13, ti14, ti15, ti16, ti24, ti30, ti31, ti32, ti48, ti56, ti57, ti60, ti63, ti99, ti100, ti130, ti199, ti200, ti240, ti999, ti1000, ti20, ti21, ti22, ti23, ti65535, ti32767, ti144, tjm20, tjm13, tjm12, tjm11, tjm10, tjm4, tjm3, tjm2, tjm1, tj0, tj1, tj2, tj3, tj4, tj5, tj6, tj7, tj8, tj9, tj10, tj11, tj12, tj13, tj14, tj15, tj16, tj24, tj30, tj31, tj32, tj48, tj56, tj57, tj60, tj63, tj99, tj100, tj130, tj199, tj200, tj240, tj999, tj1000, tj20, tj21, tj22, tj23, tj65535, tj32767, tj144] at a; omega)) (fun a b => False.elim (by simp only [Int32.lt_iff_toInt_lt, Int32.le_iff_toInt_le, Int64.lt_iff_toInt_lt, Int64.le_iff_toInt_le, ← Int32.toInt_inj, ← Int64.toInt_inj, Int32.toInt_toInt64, tim20, tim13, tim12, tim11, tim10, tim4, tim3, tim2, tim1, ti0, ti1, ti2, ti3, ti4, ti5, ti6, ti7, ti8, ti9, ti10, ti11, ti12, ti13, ti14, ti15, ti16, ti24, ti30, ti31, ti32, ti48, ti56, ti57, ti60, ti63, ti99, ti100, ti130, ti199, ti200, ti240, ti999, ti1000, ti20, ti21, ti22, ti23, ti65535, ti32767, ti144, tjm20, tjm13, tjm12, tjm11, tjm10, tjm4, tjm3, tjm2, tjm1, tj0, tj1, tj2, tj3, tj4, tj5, tj6, tj7, tj8, tj9, tj10, tj11, tj12, tj13, tj14, tj15, tj16, tj24, tj30, tj31, tj32, tj48, tj56, tj57, tj60, tj63, tj99, tj100, tj130, tj199, tj200, tj240, tj999, tj1000, tj20, tj21, tj22, tj23, tj65535, tj32767, tj144] at a b; omega)) (fun _ _ => ?_))
    rw [e1, e2]
    refine (tX11_runsOf d n k (by omega) (by omega) s1).mono ?_
    rintro v2 s2 ⟨hv2, hF2⟩
    rw [hv2]
    exact bX11_runs_29 _ s2 ⟨rfl, (hF.mono (by decide) (by decide)).tr (hF2.mono (by decide) (by decide)), trivial⟩
  · have bad : Ct yX11_runs MX11_runs (d + 1) [.ref 88, .int x1, .int x2] σ (fun v2 σ2 => v2 = some (.long (-1)) ∧ Fr [26, 104, 105] [] σ σ2 ∧ True) :=
      Ct.of mX11_runs.1 (Nat.le_of_ble_eq_true rfl) (bX11_runs_0 x1 x2 σ (fun _ => ⟨rfl, Fr.rf, trivial⟩) (fun _ _ => ⟨rfl, Fr.rf, trivial⟩) (fun a b => False.elim (by simp only [Int32.lt_iff_toInt_lt, Int32.le_iff_toInt_le, Int64.lt_iff_toInt_lt, Int64.le_iff_toInt_le, ← Int32.toInt_inj, ← Int64.toInt_inj, Int32.toInt_toInt64, tim20, tim13, tim12, tim11, tim10, tim4, tim3, tim2, tim1, ti0, ti1, ti2, ti3, ti4, ti5, ti6, ti7, ti8, ti9, ti10, ti11, ti12, ti13, ti14, ti15, ti16, ti24, ti30, ti31, ti32, ti48, ti56, ti57, ti60, ti63, ti99, ti100, ti130, ti199, ti200, ti240, ti999, ti1000, ti20, ti21, ti22, ti23, ti65535, ti32767, ti144, tjm20, tjm13, tjm12, tjm11, tjm10, tjm4, tjm3, tjm2, tjm1, tj0, tj1, tj2, tj3, tj4, tj5, tj6, tj7, tj8, tj9, tj10, tj11, tj12, tj13, tj14, tj15, tj16, tj24, tj30, tj31, tj32, tj48, tj56, tj57, tj60, tj63, tj99, tj100, tj130, tj199, tj200, tj240, tj999, tj1000, tj20, tj21, tj22, tj23, tj65535, tj32767, tj144] at a b; omega)))
    exact Ct.of mX10_runs.1 (Nat.le_of_ble_eq_true rfl) (bX10_runs_0 x1 x2 σ (fun _ => ⟨_, rfl, bad⟩) (fun _ _ => ⟨_, rfl, bad⟩) (fun _ _ _ => ⟨_, rfl, bad⟩) (fun a b c e => False.elim (by simp only [Int32.lt_iff_toInt_lt, Int32.le_iff_toInt_le, Int64.lt_iff_toInt_lt, Int64.le_iff_toInt_le, ← Int32.toInt_inj, ← Int64.toInt_inj, Int32.toInt_toInt64, tim20, tim13, tim12, tim11, tim10, tim4, tim3, tim2, tim1, ti0, ti1, ti2, ti3, ti4, ti5, ti6, ti7, ti8, ti9, ti10, ti11, ti12, ti13, ti14, ti15, ti16, ti24, ti30, ti31, ti32, ti48, ti56, ti57, ti60, ti63, ti99, ti100, ti130, ti199, ti200, ti240, ti999, ti1000, ti20, ti21, ti22, ti23, ti65535, ti32767, ti144, tjm20, tjm13, tjm12, tjm11, tjm10, tjm4, tjm3, tjm2, tjm1, tj0, tj1, tj2, tj3, tj4, tj5, tj6, tj7, tj8, tj9, tj10, tj11, tj12, tj13, tj14, tj15, tj16, tj24, tj30, tj31, tj32, tj48, tj56, tj57, tj60, tj63, tj99, tj100, tj130, tj199, tj200, tj240, tj999, tj1000, tj20, tj21, tj22, tj23, tj65535, tj32767, tj144] at a b c e; omega)) (fun _ _ _ _ => ⟨_, rfl, bad⟩))
/-! the mean RUN -/
theorem or_even (a b : Nat) : (a ||| b) % 2 = 0 ↔ (a % 2 = 0 ∧ b % 2 = 0) := by
  have h : ∀ x : Nat, x % 2 = 0 ↔ x.testBit 0 = false := fun x => by
    rw [Nat.testBit_zero]; by_cases q : x % 2 = 1
    · simp [q]
    · have : x % 2 = 0 := by omega
      simp [this]
  rw [h, h, h, Nat.testBit_or, Bool.or_eq_false_iff]
theorem odd_gcd {a m : Nat} (h : a % 2 = 1) : Nat.gcd a (2 ^ m) = 1 := by
  have h2 : Nat.Coprime a 2 := by
    have h1 : Nat.gcd a 2 ∣ 2 := Nat.gcd_dvd_right a 2
    have h3 : Nat.gcd a 2 ∣ a := Nat.gcd_dvd_left a 2
    have h4 : Nat.gcd a 2 ≤ 2 := Nat.le_of_dvd (by decide) h1
    show Nat.gcd a 2 = 1
    rcases (show Nat.gcd a 2 = 0 ∨ Nat.gcd a 2 = 1 ∨ Nat.gcd a 2 = 2 by omega) with e | e | e
    · rw [e] at h1; have := Nat.eq_zero_of_zero_dvd h1; omega
    · exact e
    · rw [e] at h3; have := Nat.mod_eq_zero_of_dvd h3; omega
  exact Nat.Coprime.pow_right m h2
def ovR (n m : Nat) : Nat := sm (fun q => 4 ^ n - rR n q) m
theorem ovR_le (n m : Nat) : ovR n m ≤ m * 4 ^ n := sm_le (fun _ _ => Nat.sub_le _ _)
theorem halve (a : Nat) (h : a < 2 ^ 62) : lN a >>> ((1 : Int32).toInt64 &&& 63) = lN (a / 2) := pf_shr (d := 1) (by decide) h
theorem pub_mean (d : Nat) (x1 x2 : Int32) (σ : St) : PB yX10_mean MX10_mean (d + 2) yX11_mean MX11_mean (d + 1) [.int x1, .int x2] σ [26, 104, 105] [] (fun _ => True) := by
  by_cases hg : 1 ≤ x1.toInt ∧ x1.toInt < (16 : Nat) ∧ 0 ≤ x2.toInt ∧ x2.toInt < 2
  · obtain ⟨n, hn, e1⟩ := ofI (x := x1) (n := 16) (by omega) hg.2.1 (by decide)
    have hU : (2 : Nat) ^ (2 * n) = 4 ^ n := by rw [Nat.pow_mul]
    have hU30 : (2 : Nat) ^ (2 * n) ≤ 2 ^ 30 := Nat.pow_le_pow_right (by decide) (by omega)
    have hU0 : 0 < (2 : Nat) ^ (2 * n) := Nat.two_pow_pos _
    have hO : ovR n n ≤ 15 * 2 ^ 30 := Nat.le_trans (ovR_le n n) (Nat.mul_le_mul (by omega) (by omega))
    have eU : (1 : Int64) <<< (((2 : Int32) * nI n).toInt64 &&& 63) = lN (2 ^ (2 * n)) := by rw [show (2 : Int32) * nI n = nI (2 * n) from pk_mul 2 n]; exact shl1 (by omega)
    -- the sum of what is above
    have ans : Int64 := 0
    -- the reference, from any world
    have ref : ∀ (s : St), Fr [26, 104, 105] [] σ s → Ct yX11_mean MX11_mean (d + 1) [.ref 88, .int x1, .int x2] s (fun v2 σ2 => v2 = some (.long (if x2 = 0 then lN (ovR n n / Nat.gcd (ovR n n) (2 ^ (2 * n))) else lN (2 ^ (2 * n) / Nat.gcd (ovR n n) (2 ^ (2 * n))))) ∧ Fr [26, 104, 105] [] σ σ2 ∧ True) := by
      intro s0 hF0
      refine Ct.of mX11_mean.1 (Nat.le_of_ble_eq_true rfl) (bX11_mean_0 x1 x2 s0 (fun a => False.elim (by simp only [Int32.lt_iff_toInt_lt, Int32.le_iff_toInt_le, Int64.lt_iff_toInt_lt, Int64.le_iff_toInt_le, ← Int32.toInt_inj, ← Int64.toInt_inj, Int32.toInt_toInt64, tim20, tim13, tim12, tim11, tim10, tim4, tim3, tim2, tim1, ti0, ti1, ti2, ti3, ti4, ti5, ti6, ti7, ti8, ti9, ti10, ti11, ti12, ti13, ti14, ti15, ti16, ti24, ti30, ti31, ti32, ti48, ti56, ti57, ti60, ti63, ti99, ti100, ti130, ti199, ti200, ti240, ti999, ti1000, ti20, ti21, ti22, ti23, ti65535, ti32767, ti144, tjm20, tjm13, tjm12, tjm11, tjm10, tjm4, tjm3, tjm2, tjm1, tj0, tj1, tj2, tj3, tj4, tj5, tj6, tj7, tj8, tj9, tj10, tj11, tj12, tj13, tj14, tj15, tj16, tj24, tj30, tj31, tj32, tj48, tj56, tj57, tj60, tj63, tj99, tj100, tj130, tj199, tj200, tj240, tj999, tj1000, tj20, tj21, tj22, tj23, tj65535, tj32767, tj144] at a; omega)) (fun _ _ => ?_) (fun a b => False.elim (by simp only [Int32.lt_iff_toInt_lt, Int32.le_iff_toInt_le, Int64.lt_iff_toInt_lt, Int64.le_iff_toInt_le, ← Int32.toInt_inj, ← Int64.toInt_inj, Int32.toInt_toInt64, tim20, tim13, tim12, tim11, tim10, tim4, tim3, tim2, tim1, ti0, ti1, ti2, ti3, ti4, ti5, ti6, ti7, ti8, ti9, ti10, ti11, ti12, ti13, ti14, ti15, ti16, ti24, ti30, ti31, ti32, ti48, ti56, ti57, ti60, ti63, ti99, ti100, ti130, ti199, ti200, ti240, ti999, ti1000, ti20, ti21, ti22, ti23, ti65535, ti32767, ti144, tjm20, tjm13, tjm12, tjm11, tjm10, tjm4, tjm3, tjm2, tjm1, tj0, tj1, tj2, tj3, tj4, tj5, tj6, tj7, tj8, tj9, tj10, tj11, tj12, tj13, tj14, tj15, tj16, tj24, tj30, tj31, tj32, tj48, tj56, tj57, tj60, tj63, tj99, tj100, tj130, tj199, tj200, tj240, tj999, tj1000, tj20, tj21, tj22, tj23, tj65535, tj32767, tj144] at a b; omega)))
      rw [e1, eU]
      refine loopI2 (fun x o s => Run MX11_mean (d + 1) 38 [some (.ref 88), some (.int (nI n)), some (.int x2), some (.long (lN (2 ^ (2 * n)))), none, some (.long o), none, some (.int x), none, none, none, none, none] [] s _) (fun q o s => o = lN (ovR n q) ∧ Fr [26, 104, 105] [] σ s) n ?_ ?_ 0 0 s0 (by omega) ⟨rfl, hF0⟩
      · intro o s ⟨ho, hF⟩
        refine bX11_mean_38 (nI n) x2 _ o (nI n) s (fun _ => ?_) (fun q => absurd q (nI_nlt (Nat.le_refl _) (by omega)))
        rw [ho]
        refine loopM2 (fun x y => Run MX11_mean (d + 1) 71 [none, none, some (.int x2), some (.long (lN (2 ^ (2 * n)))), none, some (.long (lN (ovR n n))), none, some (.long (lN x)), none, some (.long (lN y)), none, none, none] [] s _) (fun x y => x < 2 ^ 40 ∧ y < 2 ^ 40 ∧ Nat.gcd x y = Nat.gcd (ovR n n) (2 ^ (2 * n))) (fun _ y => y) ?_ (ovR n n) (2 ^ (2 * n)) ⟨by omega, by omega, rfl⟩
        intro x y ⟨hx, hy, hgc⟩ ih
        have g0 : 0 < Nat.gcd (ovR n n) (2 ^ (2 * n)) := Nat.gcd_pos_of_pos_right _ hU0
        by_cases y0 : y = 0
        · have ex : x = Nat.gcd (ovR n n) (2 ^ (2 * n)) := by rw [← hgc, y0, Nat.gcd_zero_right]
          have hx0 : ¬ lN x = 0 := fun q => by
            have := (pk_lEQ (b := 0) (by omega) (by decide)).mp q; omega
          refine bX11_mean_71 x2 _ _ (lN x) (lN y) s (fun _ _ => hx0) (fun _ _ => hx0) (fun q => q) (fun _ => ⟨?_, hF, trivial⟩) (fun q => absurd (show lN y = 0 by rw [y0]; rfl) q)
          rw [pk_lDiv (by omega) (by omega) (by omega), pk_lDiv (by omega) (by omega) (by omega), ex]
        · have hy0 : ¬ lN y = 0 := fun q => y0 ((pk_lEQ (b := 0) (by omega) (by decide)).mp q)
          refine bX11_mean_71 x2 _ _ (lN x) (lN y) s (fun q => absurd q hy0) (fun q => absurd q hy0) (fun q => q) (fun q => absurd q hy0) (fun _ => ?_)
          rw [pk_lRem (by omega) (by omega) (by omega)]
          have hm : x % y < y := Nat.mod_lt _ (by omega)
          refine ih y (x % y) ⟨hy, by omega, ?_⟩ hm
          rw [← hgc, Nat.gcd_comm x y, Nat.gcd_rec y x, Nat.gcd_comm]
      · intro q o s hq ⟨ho, hF⟩ ih
        refine bX11_mean_38 (nI n) x2 _ o (nI q) s (fun a => absurd a (nI_ge hq (by omega))) (fun _ => (tX11_runsOf d n q (by omega) (by omega) s).mono ?_)
        rintro v1 s1 ⟨hv, hF1⟩
        rw [hv]
        refine bX11_mean_54 (nI n) x2 _ (nI q) _ _ _ s1 (ih _ s1 ⟨?_, hF.tr (hF1.mono (by decide) (by decide))⟩)
        have := rR_le q n
        rw [ho, lN_sub (by omega), lN_add, hU]; rfl
    refine Ct.of mX10_mean.1 (Nat.le_of_ble_eq_true rfl) (bX10_mean_0 x1 x2 σ (fun a => False.elim (by simp only [Int32.lt_iff_toInt_lt, Int32.le_iff_toInt_le, Int64.lt_iff_toInt_lt, Int64.le_iff_toInt_le, ← Int32.toInt_inj, ← Int64.toInt_inj, Int32.toInt_toInt64, tim20, tim13, tim12, tim11, tim10, tim4, tim3, tim2, tim1, ti0, ti1, ti2, ti3, ti4, ti5, ti6, ti7, ti8, ti9, ti10, ti11, ti12, ti13, ti14, ti15, ti16, ti24, ti30, ti31, ti32, ti48, ti56, ti57, ti60, ti63, ti99, ti100, ti130, ti199, ti200, ti240, ti999, ti1000, ti20, ti21, ti22, ti23, ti65535, ti32767, ti144, tjm20, tjm13, tjm12, tjm11, tjm10, tjm4, tjm3, tjm2, tjm1, tj0, tj1, tj2, tj3, tj4, tj5, tj6, tj7, tj8, tj9, tj10, tj11, tj12, tj13, tj14, tj15, tj16, tj24, tj30, tj31, tj32, tj48, tj56, tj57, tj60, tj63, tj99, tj100, tj130, tj199, tj200, tj240, tj999, tj1000, tj20, tj21, tj22, tj23, tj65535, tj32767, tj144] at a; omega)) (fun a b => False.elim (by simp only [Int32.lt_iff_toInt_lt, Int32.le_iff_toInt_le, Int64.lt_iff_toInt_lt, Int64.le_iff_toInt_le, ← Int32.toInt_inj, ← Int64.toInt_inj, Int32.toInt_toInt64, tim20, tim13, tim12, tim11, tim10, tim4, tim3, tim2, tim1, ti0, ti1, ti2, ti3, ti4, ti5, ti6, ti7, ti8, ti9, ti10, ti11, ti12, ti13, ti14, ti15, ti16, ti24, ti30, ti31, ti32, ti48, ti56, ti57, ti60, ti63, ti99, ti100, ti130, ti199, ti200, ti240, ti999, ti1000, ti20, ti21, ti22, ti23, ti65535, ti32767, ti144, tjm20, tjm13, tjm12, tjm11, tjm10, tjm4, tjm3, tjm2, tjm1, tj0, tj1, tj2, tj3, tj4, tj5, tj6, tj7, tj8, tj9, tj10, tj11, tj12, tj13, tj14, tj15, tj16, tj24, tj30, tj31, tj32, tj48, tj56, tj57, tj60, tj63, tj99, tj100, tj130, tj199, tj200, tj240, tj999, tj1000, tj20, tj21, tj22, tj23, tj65535, tj32767, tj144] at a b; omega)) (fun a b c => False.elim (by simp only [Int32.lt_iff_toInt_lt, Int32.le_iff_toInt_le, Int64.lt_iff_toInt_lt, Int64.le_iff_toInt_le, ← Int32.toInt_inj, ← Int64.toInt_inj, Int32.toInt_toInt64, tim20, tim13, tim12, tim11, tim10, tim4, tim3, tim2, tim1, ti0, ti1, ti2, ti3, ti4, ti5, ti6, ti7, ti8, ti9, ti10, ti11, ti12, ti13, ti14, ti15, ti16, ti24, ti30, ti31, ti32, ti48, ti56, ti57, ti60, ti63, ti99, ti100, ti130, ti199, ti200, ti240, ti999, ti1000, ti20, ti21, ti22, ti23, ti65535, ti32767, ti144, tjm20, tjm13, tjm12, tjm11, tjm10, tjm4, tjm3, tjm2, tjm1, tj0, tj1, tj2, tj3, tj4, tj5, tj6, tj7, tj8, tj9, tj10, tj11, tj12, tj13, tj14, tj15, tj16, tj24, tj30, tj31, tj32, tj48, tj56, tj57, tj60, tj63, tj99, tj100, tj130, tj199, tj200, tj240, tj999, tj1000, tj20, tj21, tj22, tj23, tj65535, tj32767, tj144] at a b c; omega)) (fun _ _ _ _ => ?_) (fun a b c e => False.elim (by simp only [Int32.lt_iff_toInt_lt, Int32.le_iff_toInt_le, Int64.lt_iff_toInt_lt, Int64.le_iff_toInt_le, ← Int32.toInt_inj, ← Int64.toInt_inj, Int32.toInt_toInt64, tim20, tim13, tim12, tim11, tim10, tim4, tim3, tim2, tim1, ti0, ti1, ti2, ti3, ti4, ti5, ti6, ti7, ti8, ti9, ti10, ti11, ti12, ti13, ti14, ti15, ti16, ti24, ti30, ti31, ti32, ti48, ti56, ti57, ti60, ti63, ti99, ti100, ti130, ti199, ti200, ti240, ti999, ti1000, ti20, ti21, ti22, ti23, ti65535, ti32767, ti144, tjm20, tjm13, tjm12, tjm11, tjm10, tjm4, tjm3, tjm2, tjm1, tj0, tj1, tj2, tj3, tj4, tj5, tj6, tj7, tj8, tj9, tj10, tj11, tj12, tj13, tj14, tj15, tj16, tj24, tj30, tj31, tj32, tj48, tj56, tj57, tj60, tj63, tj99, tj100, tj130, tj199, tj200, tj240, tj999, tj1000, tj20, tj21, tj22, tj23, tj65535, tj32767, tj144] at a b c e; omega)))
    rw [e1, eU]
    refine loopI2 (fun x o s => Run MX10_mean (d + 2) 36 [some (.ref 0), some (.int (nI n)), some (.int x2), some (.long (lN (2 ^ (2 * n)))), none, some (.long o), none, some (.int x)] [] s _) (fun q o s => o = lN (ovR n q) ∧ Fr [26, 104, 105] [] σ s) n ?_ ?_ 0 0 σ (by omega) ⟨rfl, Fr.rf⟩
    · intro o s ⟨ho, hF⟩
      refine bX10_mean_36 (nI n) x2 _ o (nI n) s (fun _ => ?_) (fun q => absurd q (nI_nlt (Nat.le_refl _) (by omega)))
      rw [ho]
      have ref := ref s hF
      rw [e1] at ref
      have fin : ∀ a m hh, a * 2 ^ hh = ovR n n → 2 ^ m * 2 ^ hh = 2 ^ (2 * n) → (a % 2 = 1 ∨ m = 0) → ∃ r, some (Value.long (if x2 = 0 then lN a else lN (2 ^ m))) = some r ∧ Ct yX11_mean MX11_mean (d + 1) [.ref 88, .int (nI n), .int x2] s (fun v2 σ2 => v2 = some r ∧ Fr [26, 104, 105] [] σ σ2 ∧ True) := by
        intro a m hh ha hm ho
        have hg1 : Nat.gcd a (2 ^ m) = 1 := by
          rcases ho with h | h
          · exact odd_gcd h
          · rw [h]; exact Nat.gcd_one_right a
        have hg2 : Nat.gcd (ovR n n) (2 ^ (2 * n)) = 2 ^ hh := by rw [← ha, ← hm, Nat.gcd_mul_right, hg1, Nat.one_mul]
        have hp : 0 < 2 ^ hh := Nat.two_pow_pos _
        rw [hg2, ← ha, ← hm, Nat.mul_div_cancel _ hp, Nat.mul_div_cancel _ hp] at ref
        exact ⟨_, rfl, ref⟩
      refine loopI3 (fun x m a hh => Run MX10_mean (d + 2) 65 [none, none, some (.int x2), some (.long (lN (2 ^ m))), none, some (.long (lN a)), none, some (.int x)] [] s _) (fun i m a hh => hh = i ∧ m + i = 2 * n ∧ a * 2 ^ i = ovR n n) 30 ?_ ?_ 0 (2 * n) (ovR n n) 0 (by decide) ⟨rfl, rfl, Nat.mul_one _⟩
      · intro m a hh ⟨h1, h2, h3⟩
        have hm0 : m = 0 := by omega
        refine bX10_mean_65 x2 _ _ (nI 30) s (fun _ => fin a m 30 h3 (by rw [← Nat.pow_add, h2]) (Or.inr hm0)) (fun q => absurd q (by decide)) (fun q => absurd q (by decide))
      · intro i m a hh hi ⟨h1, h2, h3⟩ ih
        have ha : a ≤ ovR n n := by rw [← h3]; exact Nat.le_mul_of_pos_right _ (Nat.two_pow_pos _)
        have hm : 2 ^ m ≤ 2 ^ 30 := Nat.pow_le_pow_right (by decide) (by omega)
        have hor : ((lN a ||| lN (2 ^ m)) &&& 1) = lN ((a ||| 2 ^ m) % 2) := by
          rw [wb_or (by omega) (by omega), wb_a1 (Nat.or_lt_two_pow (by omega) (by omega))]
        have hz : ((lN a ||| lN (2 ^ m)) &&& 1) = 0 ↔ (a % 2 = 0 ∧ 2 ^ m % 2 = 0) := by
          rw [hor, ← or_even]; exact pk_lEQ (b := 0) (by omega) (by decide)
        refine bX10_mean_65 x2 _ _ (nI i) s (fun q => absurd q (nI_ge (b := 30) hi (by decide))) (fun _ q => fin a m i h3 (by rw [← Nat.pow_add, h2]) ?_) (fun _ q => ?_)
        · have q : ¬ (a % 2 = 0 ∧ 2 ^ m % 2 = 0) := fun z => q (hz.mpr z)
          by_cases m0 : m = 0
          · exact Or.inr m0
          · have : 2 ^ m % 2 = 0 := by rw [show m = (m - 1) + 1 by omega, Nat.pow_succ]; omega
            exact Or.inl (by omega)
        · have q := hz.mp q
          have m0 : m ≠ 0 := fun e => by rw [e] at q; exact absurd q.2 (by decide)
          have e2 : 2 ^ m / 2 = 2 ^ (m - 1) := by
            have e3 : 2 ^ m = 2 ^ (m - 1) * 2 := by rw [← Nat.pow_succ]; congr 1; omega
            omega
          rw [halve _ (by omega), halve _ (by omega), e2]
          refine ih (m - 1) (a / 2) (i + 1) ⟨rfl, by omega, ?_⟩
          rw [Nat.pow_succ, Nat.mul_comm (2 ^ i) 2, ← Nat.mul_assoc, Nat.div_mul_cancel (Nat.dvd_of_mod_eq_zero q.1), h3]
    · intro q o s hq ⟨ho, hF⟩ ih
      refine bX10_mean_36 (nI n) x2 _ o (nI q) s (fun a => absurd a (nI_ge hq (by omega))) (fun _ => (tX10_pairsRunningAtMost d n q (by omega) (by omega) s).mono ?_)
      rintro v1 s1 ⟨hv, hF1⟩
      rw [hv]
      refine bX10_mean_52 (nI n) x2 _ (nI q) _ _ _ s1 (ih _ s1 ⟨?_, hF.tr (hF1.mono (by decide) (by decide))⟩)
      have := rR_le q n
      rw [ho, lN_sub (by omega), lN_add, hU]; rfl
  · have bad : Ct yX11_mean MX11_mean (d + 1) [.ref 88, .int x1, .int x2] σ (fun v2 σ2 => v2 = some (.long (-1)) ∧ Fr [26, 104, 105] [] σ σ2 ∧ True) :=
      Ct.of mX11_mean.1 (Nat.le_of_ble_eq_true rfl) (bX11_mean_0 x1 x2 σ (fun _ => ⟨rfl, Fr.rf, trivial⟩) (fun a b => False.elim (by simp only [Int32.lt_iff_toInt_lt, Int32.le_iff_toInt_le, Int64.lt_iff_toInt_lt, Int64.le_iff_toInt_le, ← Int32.toInt_inj, ← Int64.toInt_inj, Int32.toInt_toInt64, tim20, tim13, tim12, tim11, tim10, tim4, tim3, tim2, tim1, ti0, ti1, ti2, ti3, ti4, ti5, ti6, ti7, ti8, ti9, ti10, ti11, ti12, ti13, ti14, ti15, ti16, ti24, ti30, ti31, ti32, ti48, ti56, ti57, ti60, ti63, ti99, ti100, ti130, ti199, ti200, ti240, ti999, ti1000, ti20, ti21, ti22, ti23, ti65535, ti32767, ti144, tjm20, tjm13, tjm12, tjm11, tjm10, tjm4, tjm3, tjm2, tjm1, tj0, tj1, tj2, tj3, tj4, tj5, tj6, tj7, tj8, tj9, tj10, tj11, tj12, tj13, tj14, tj15, tj16, tj24, tj30, tj31, tj32, tj48, tj56, tj57, tj60, tj63, tj99, tj100, tj130, tj199, tj200, tj240, tj999, tj1000, tj20, tj21, tj22, tj23, tj65535, tj32767, tj144] at a b; omega)) (fun _ _ => ⟨rfl, Fr.rf, trivial⟩))
    exact Ct.of mX10_mean.1 (Nat.le_of_ble_eq_true rfl) (bX10_mean_0 x1 x2 σ (fun _ => ⟨_, rfl, bad⟩) (fun _ _ => ⟨_, rfl, bad⟩) (fun _ _ _ => ⟨_, rfl, bad⟩) (fun a b c e => False.elim (by simp only [Int32.lt_iff_toInt_lt, Int32.le_iff_toInt_le, Int64.lt_iff_toInt_lt, Int64.le_iff_toInt_le, ← Int32.toInt_inj, ← Int64.toInt_inj, Int32.toInt_toInt64, tim20, tim13, tim12, tim11, tim10, tim4, tim3, tim2, tim1, ti0, ti1, ti2, ti3, ti4, ti5, ti6, ti7, ti8, ti9, ti10, ti11, ti12, ti13, ti14, ti15, ti16, ti24, ti30, ti31, ti32, ti48, ti56, ti57, ti60, ti63, ti99, ti100, ti130, ti199, ti200, ti240, ti999, ti1000, ti20, ti21, ti22, ti23, ti65535, ti32767, ti144, tjm20, tjm13, tjm12, tjm11, tjm10, tjm4, tjm3, tjm2, tjm1, tj0, tj1, tj2, tj3, tj4, tj5, tj6, tj7, tj8, tj9, tj10, tj11, tj12, tj13, tj14, tj15, tj16, tj24, tj30, tj31, tj32, tj48, tj56, tj57, tj60, tj63, tj99, tj100, tj130, tj199, tj200, tj240, tj999, tj1000, tj20, tj21, tj22, tj23, tj65535, tj32767, tj144] at a b c e; omega)) (fun _ _ _ _ => ⟨_, rfl, bad⟩))
end RUNSX

/-! NETS held -/
section NETR
theorem nt_a : ∀ k, k < 8 → gr 1 k = 32 + 6 * k ∧ kd (32 + 6 * k) = 5 ∧ gr (32 + 6 * k) 2 = 33 + 6 * k ∧ gr (32 + 6 * k) 3 = 37 + 6 * k := by decide +kernel
theorem nt_b : ∀ k, k < 8 → kd (33 + 6 * k) = 7 ∧ gr (33 + 6 * k) 1 = 34 + 6 * k ∧ gr (33 + 6 * k) 2 = 35 + 6 * k ∧ gr (33 + 6 * k) 3 = 36 + 6 * k ∧ ln (37 + 6 * k) = 32 := by decide +kernel
def cN (k n D : Nat) (R : Nat → Nat) (σ : St) : Prop := σ.1 (32 + 6 * k) 0 = nI n ∧ σ.1 (32 + 6 * k) 1 = nI D ∧ sL (33 + 6 * k) σ n (lw R D) ∧ ∀ r, r < D → σ.1 (37 + 6 * k) r = nI (R r)
def mN (k n D : Nat) (R : Nat → Nat) (σ : St) : Prop := σ.1 89 k = nI n ∧ σ.1 90 k = nI D ∧ ∀ r, r < D → σ.2 91 (32 * k + r) = lN (R r)
def RN (σ : St) : Prop := ∃ N, N ≤ 8 ∧ σ.1 0 1 = nI N ∧ σ.1 88 0 = nI N ∧ ∀ k, k < N → ∃ n D R, okN n D R ∧ cN k n D R σ ∧ mN k n D R σ
theorem cN.keep {k n D : Nat} {R : Nat → Nat} {σ σ' : St} (hk : k < 8) (h : cN k n D R σ) (e : ∀ i, 32 + 6 * k ≤ i → i < 38 + 6 * k → σ'.1 i = σ.1 i) : cN k n D R σ' := by
  obtain ⟨a, b, ⟨c1, c2⟩, d⟩ := h
  have hg := (nt_b k hk).2.1
  refine ⟨by rw [e _ (by omega) (by omega)]; exact a, by rw [e _ (by omega) (by omega)]; exact b, ⟨by rw [e _ (by omega) (by omega)]; exact c1, fun i hi => ?_⟩, fun r hr => by rw [e _ (by omega) (by omega)]; exact d r hr⟩
  have := c2 i hi
  rw [hg] at this ⊢
  rw [e _ (by omega) (by omega)]; exact this
theorem mN.keep {k n D : Nat} {R : Nat → Nat} {σ σ' : St} (h : mN k n D R σ) (e1 : σ'.1 89 k = σ.1 89 k) (e2 : σ'.1 90 k = σ.1 90 k) (e3 : ∀ r, r < D → σ'.2 91 (32 * k + r) = σ.2 91 (32 * k + r)) : mN k n D R σ' := ⟨e1.trans h.1, e2.trans h.2.1, fun r hr => (e3 r hr).trans (h.2.2 r hr)⟩
def NS : List Nat := [0, 89, 90, 91, 32, 33, 34, 35, 36, 37, 38, 39, 40, 41, 42, 43, 44, 45, 46, 47, 48, 49, 50, 51, 52, 53, 54, 55, 56, 57, 58, 59, 60, 61, 62, 63, 64, 65, 66, 67, 68, 69, 70, 71, 72, 73, 74, 75, 76, 77, 78, 79]
theorem NS_in : ∀ i, i < 80 → 32 ≤ i → i ∈ NS := by decide +kernel
theorem RN.keep {S F : List Nat} {σ σ' : St} (hF : Fr S F σ σ') (hd : ∀ i, i ∈ NS → i ∉ S) (h0 : 0 ∉ F) (h : RN σ) : RN σ' := by
  obtain ⟨N, hN, e1, e2, hk⟩ := h
  refine ⟨N, hN, by rw [hF.1 0 (hd 0 (by decide)) (by decide)]; exact e1, by rw [hF.2.1 0 h0]; exact e2, fun k q => ?_⟩
  obtain ⟨n, D, R, a, b, c⟩ := hk k q
  exact ⟨n, D, R, a, b.keep (by omega) (fun i i1 i2 => hF.1 i (hd i (NS_in i (by omega) (by omega))) (by omega)), c.keep (by rw [hF.1 89 (hd 89 (by decide)) (by decide)]) (by rw [hF.1 90 (hd 90 (by decide)) (by decide)]) (fun r _ => by rw [hF.2.2 91 (hd 91 (by decide))])⟩
theorem isC {N : Nat} (hN : N ≤ 8) (x : Int32) : (0 ≤ x ∧ x < nI N ∧ x < 8) ↔ ∃ k, k < N ∧ x = nI k := by
  constructor
  · rintro ⟨a, b, c⟩
    simp only [Int32.lt_iff_toInt_lt, Int32.le_iff_toInt_le, Int64.lt_iff_toInt_lt, Int64.le_iff_toInt_le, ← Int32.toInt_inj, ← Int64.toInt_inj, Int32.toInt_toInt64, tim20, tim13, tim12, tim11, tim10, tim4, tim3, tim2, tim1, ti0, ti1, ti2, ti3, ti4, ti5, ti6, ti7, ti8, ti9, ti10, ti11, ti12, ti13, ti14, ti15, ti16, ti24, ti30, ti31, ti32, ti48, ti56, ti57, ti60, ti63, ti99, ti100, ti130, ti199, ti200, ti240, ti999, ti1000, ti20, ti21, ti22, ti23, ti65535, ti32767, ti144, tjm20, tjm13, tjm12, tjm11, tjm10, tjm4, tjm3, tjm2, tjm1, tj0, tj1, tj2, tj3, tj4, tj5, tj6, tj7, tj8, tj9, tj10, tj11, tj12, tj13, tj14, tj15, tj16, tj24, tj30, tj31, tj32, tj48, tj56, tj57, tj60, tj63, tj99, tj100, tj130, tj199, tj200, tj240, tj999, tj1000, tj20, tj21, tj22, tj23, tj65535, tj32767, tj144] at a b c
    rw [nI_toInt (by omega)] at b
    obtain ⟨j, hj, e⟩ := ofI (x := x) (n := N) a b (by omega)
    exact ⟨j, hj, e⟩
  · rintro ⟨k, hk, e⟩
    rw [e]
    refine ⟨(nI_leI (a := 0) (by omega) (by omega)).mpr (Nat.zero_le _), (nI_ltI (by omega) (by omega)).mpr hk, (nI_ltI (b := 8) (by omega) (by omega)).mpr (by omega)⟩
theorem isM {N : Nat} (hN : N ≤ 32) (x : Int32) : ((0 : Int64) ≤ x.toInt64 ∧ x.toInt64 ≤ (nI N - 1).toInt64) ↔ ∃ k, k < N ∧ x = nI k := by
  have e1 : (nI N - 1).toInt = (N : Int) - 1 := by
    rw [show nI N - 1 = zI ((N : Int) - 1) from by (simp only [nI_zI, zl0, zl1, zl2, zl3, zl4, zl5, zl6, zl7, zl8, zl9, zl10, zl11, zl12, zl13, zl14, zl15, zl16, zl24, zl30, zl31, zl32, zl48, zl56, zl57, zl60, zl63, zl99, zl100, zl130, zl199, zl200, zl240, zl999, zl1000, ← zI_add, ← zI_sub, ← zI_mul, ← zI_neg] <;> first | rfl | (congr 1; omega)), zI_toInt (by omega) (by omega)]
  constructor
  · rintro ⟨a, b⟩
    simp only [Int32.lt_iff_toInt_lt, Int32.le_iff_toInt_le, Int64.lt_iff_toInt_lt, Int64.le_iff_toInt_le, ← Int32.toInt_inj, ← Int64.toInt_inj, Int32.toInt_toInt64, tim20, tim13, tim12, tim11, tim10, tim4, tim3, tim2, tim1, ti0, ti1, ti2, ti3, ti4, ti5, ti6, ti7, ti8, ti9, ti10, ti11, ti12, ti13, ti14, ti15, ti16, ti24, ti30, ti31, ti32, ti48, ti56, ti57, ti60, ti63, ti99, ti100, ti130, ti199, ti200, ti240, ti999, ti1000, ti20, ti21, ti22, ti23, ti65535, ti32767, ti144, tjm20, tjm13, tjm12, tjm11, tjm10, tjm4, tjm3, tjm2, tjm1, tj0, tj1, tj2, tj3, tj4, tj5, tj6, tj7, tj8, tj9, tj10, tj11, tj12, tj13, tj14, tj15, tj16, tj24, tj30, tj31, tj32, tj48, tj56, tj57, tj60, tj63, tj99, tj100, tj130, tj199, tj200, tj240, tj999, tj1000, tj20, tj21, tj22, tj23, tj65535, tj32767, tj144] at a b
    rw [e1] at b
    obtain ⟨j, hj, e⟩ := ofI (x := x) (n := N) a (by omega) (by omega)
    exact ⟨j, hj, e⟩
  · rintro ⟨k, hk, e⟩
    rw [e]
    simp only [Int64.le_iff_toInt_le, Int32.toInt_toInt64, e1, nI_toInt (show k < 2 ^ 31 by omega), tj0]
    omega
theorem pub_drop (d : Nat) (σ : St) (hR : RN σ) : PB yX10_drop MX10_drop d yX11_drop MX11_drop d [] σ [0] [0] RN := by
  obtain ⟨N, hN, e1, e2, hk⟩ := hR
  refine (qX10_drop d σ).mono ?_
  rintro v s ⟨hv, hs⟩
  refine ⟨_, hv, (qX11_drop d s).mono ?_⟩
  rintro v2 s2 ⟨hv2, hs2⟩
  by_cases q : N = 0
  · subst q
    have z1 : s = σ := by rw [hs]; unfold sX10_drop; exact if_pos e1
    rw [z1] at hv2 hs2
    have z2 : s2 = σ := by rw [hs2]; unfold sX11_drop; exact if_pos e2
    refine ⟨?_, by rw [z2]; exact Fr.rf, by rw [z2]; exact ⟨0, hN, e1, e2, hk⟩⟩
    rw [hv2]; unfold rX11_drop rX10_drop; rw [e1, e2]
  · have n0 : ¬ nI N = 0 := fun h => q ((nI0 (by omega)).mp h)
    have z1 : s = sA σ 0 (upd (σ.1 0) 1 (nI (N - 1))) := by rw [hs]; unfold sX10_drop; rw [e1, if_neg n0, show (1 : Int32) = nI 1 from rfl, pk_sub (by omega)]
    have e2' : s.1 88 0 = nI N := by rw [z1, sA_ne (by decide)]; exact e2
    have z2 : s2 = sA s 88 (upd (s.1 88) 0 (nI (N - 1))) := by rw [hs2]; unfold sX11_drop; rw [e2', if_neg n0, show (1 : Int32) = nI 1 from rfl, pk_sub (by omega)]
    have hF : Fr [0] [0] σ s2 := by rw [z2, z1]; exact (Fr.A (by decide) (by decide)).tF (by decide)
    refine ⟨?_, hF, N - 1, by omega, ?_, ?_, fun k hk2 => ?_⟩
    · rw [hv2]; unfold rX11_drop rX10_drop; rw [e1, e2', if_neg n0]
    · rw [z2, sA_ne (by decide), z1, sA_at]; rfl
    · rw [z2, sA_at]; rfl
    · obtain ⟨n, D, R, a, b, c⟩ := hk k (by omega)
      refine ⟨n, D, R, a, b.keep (by omega) (fun i i1 i2 => hF.1 i (by simp; omega) (by omega)), c.keep (by rw [hF.1 89 (by decide) (by decide)]) (by rw [hF.1 90 (by decide) (by decide)]) (fun r _ => by rw [hF.2.2 91 (by decide)])⟩
/-! what a ROW takes -/
def tk (m : Nat) (L : Nat → Nat) (i : Nat) : Int32 := if m.testBit i = true then nI (L i - 1) else -4
def rT (σ : St) (m : Nat) (L : Nat → Nat) : Prop := ∀ i, i < 32 → σ.1 96 i = tk m L i
theorem m4 {n : Nat} (h : n < 2 ^ 31) : ¬ nI n = (-4 : Int32) := fun q => by
  have := congrArg Int32.toInt q
  rw [nI_toInt h, tim4] at this; omega
theorem tX11_findTakes (d k D r n : Nat) (R : Nat → Nat) (hk : k < 8) (hok : okN n D R) (hr : r < D) (σ : St) (hs : ∀ q, q < D → σ.2 91 (32 * k + q) = lN (R q)) : Ct yX11_findTakes MX11_findTakes (d + 2) [.ref 88, .int (nI k), .int (nI r)] σ (fun v σ' => v = none ∧ rT σ' (R r) (lw R r) ∧ rL σ' (lw R r) ∧ Fr [93, 94, 96] [] σ σ') := by
  have D32 := hok.2.2.1
  have n32 := hok.2.1
  have hrow := (hok.2.2.2 r hr).2
  have hm := okR_lt n32 hrow
  refine Ct.of mX11_findTakes.1 (Nat.le_of_ble_eq_true rfl) (bX11_findTakes_0 (nI k) (nI r) σ ((tX11_goesTo d k D r n R hk hok (by omega) σ hs).mono ?_))
  rintro v s1 ⟨hv, hL1, hF1⟩
  rw [hv]
  refine bX11_findTakes_6 (nI k) (nI r) s1 ?_
  refine loopI1 (fun x s => Run MX11_findTakes (d + 2) 8 [some (.ref 88), some (.int (nI k)), some (.int (nI r)), some (.int x)] [] s _) (fun j s => Fr [93, 94, 96] [] σ s ∧ rL s (lw R r) ∧ ∀ i, i < j → s.1 96 i = tk (R r) (lw R r) i) 32 ?_ ?_ 0 s1 (by omega) ⟨hF1.mono (by decide) (by decide), hL1, fun i hi => absurd hi (Nat.not_lt_zero i)⟩
  · intro s ⟨hF, hL, h1⟩
    exact bX11_findTakes_8 (nI k) (nI r) (nI 32) s (fun q => absurd q (by decide)) (fun q => absurd q (by decide)) (fun q => absurd q (by decide)) (fun _ => ⟨rfl, h1, hL, hF⟩) (fun q => absurd q (by decide))
  · intro j s hj ⟨hF, hL, h1⟩ ih
    have ec : rX11_cellsOf (nI k) (nI r) s = lN (R r) := by rw [rX11_cellsOf_nI hk (by omega), hF.2.2 91 (by decide)]; exact hs r hr
    refine bX11_findTakes_8 (nI k) (nI r) (nI j) s (fun _ => ?_) (fun _ _ => vp_in_nI hj (by decide)) (fun _ => vp_in_nI hj (by decide)) (fun q => absurd q (nI_ge hj (by decide))) (fun _ => ih _ ⟨hF.tA (by decide) (by decide), fun i hi => by rw [sA_ne (by decide)]; exact hL i hi, fun i hi => ?_⟩)
    · rw [cellsOf_nI hk (by omega)]; exact vp_in_nI (by omega) (by decide)
    · rw [sA_at, upd_eq, nI_clamp (by omega), ec]
      by_cases e : i = j
      · subst e
        rw [if_pos rfl]
        unfold tk
        by_cases c : (R r).testBit i = true
        · have := (hrow i c).2
          rw [if_pos ((bitM hm hj).mpr c), if_pos c, hL i hj, show (1 : Int32) = nI 1 from rfl, pk_sub (by omega)]
        · rw [if_neg (fun q => c ((bitM hm hj).mp q)), if_neg c]
      · rw [if_neg e]; exact h1 i (by omega)
theorem ld_32 {n m : Nat} {L : Nat → Nat} (hn : n ≤ 32) (h : okR n L m) (p : Nat) : ld m L 32 p = ld m L n p := by
  unfold ld
  refine sm_tail (fun c a b => ?_) hn
  rw [if_neg]
  intro q; have := (h c q.1).1; omega
theorem tk_eq {m p i : Nat} {L : Nat → Nat} (hL : ∀ i, L i ≤ i) (hm : okR 32 L m) (hi : i < 32) (hp : p < 32) : tk m L i = nI p ↔ (m.testBit i = true ∧ L i = p + 1) := by
  unfold tk
  have := hL i
  by_cases c : m.testBit i = true
  · have := (hm i c).2
    rw [if_pos c, nI_eq (by omega) (by omega)]
    exact ⟨fun q => ⟨c, by omega⟩, fun q => by omega⟩
  · rw [if_neg c]
    exact ⟨fun q => absurd q.symm (m4 (by omega)), fun q => absurd q.1 c⟩
theorem tX11_loadOf (d p m : Nat) (L : Nat → Nat) (hL : ∀ i, L i ≤ i) (hm : okR 32 L m) (hp : p < 32) (σ : St) (hs : rT σ m L) : Ct yX11_loadOf MX11_loadOf d [.ref 88, .int (nI p)] σ (fun v σ' => v = some (.int (nI (ld m L 32 p))) ∧ σ' = σ) := by
  refine Ct.of mX11_loadOf.1 (Nat.le_of_ble_eq_true rfl) (bX11_loadOf_0 (nI p) σ ?_)
  refine loopI1 (fun x a => Run MX11_loadOf d 4 [some (.ref 88), some (.int (nI p)), some (.int a), some (.int x)] [] σ _) (fun j a => a = nI (ld m L j p)) 32 ?_ ?_ 0 0 (by omega) rfl
  · intro a ha
    exact bX11_loadOf_4 (nI p) a (nI 32) σ (fun q => absurd q (by decide)) (fun _ => ⟨by rw [ha], rfl⟩) (fun q => absurd q (by decide))
  · intro j a hj ha ih
    refine bX11_loadOf_4 (nI p) a (nI j) σ (fun _ => vp_in_nI hj (by decide)) (fun q => absurd q (nI_ge hj (by decide))) (fun _ => ih _ ?_)
    rw [ha, nI_clamp (by omega), hs j hj, bI_iff (tk_eq hL hm hj hp), bI_nat, nI_add]
    rfl
theorem pub_cell (d : Nat) (x1 x2 x3 x4 : Int32) (σ : St) (hR : RN σ) : PB yX10_cell MX10_cell (d + 2) yX11_cell MX11_cell (d + 3) [.int x1, .int x2, .int x3, .int x4] σ [4, 5, 6, 7, 93, 94, 96] [] (fun _ => True) := by
  obtain ⟨N, hN, e1, e2, hk⟩ := hR
  by_cases hx : ∃ k, k < N ∧ x1 = nI k
  · obtain ⟨k, hkN, rfl⟩ := hx
    have k8 : k < 8 := by omega
    obtain ⟨n, D, R, hok, ⟨c1, c2, c3, c4⟩, hm⟩ := hk k hkN
    have n32 := hok.2.1
    have n2 := hok.1
    have D32 := hok.2.2.1
    have hrow := hok.2.2.2
    have cc := (isC hN (nI k)).mpr ⟨k, hkN, rfl⟩
    have cm := (isM (by omega) (nI k)).mpr ⟨k, hkN, rfl⟩
    obtain ⟨g1, g2, g3, g4⟩ := nt_a k k8
    have g5 := (nt_b k k8).2.2.2.2
    have bad : (¬ ((∃ r, r < D ∧ x2 = nI r) ∧ (∃ i, i < n ∧ x3 = nI i) ∧ ((0 : Int64) ≤ x4.toInt64 ∧ x4.toInt64 ≤ (2 : Int64)))) → ∀ s, Fr [4, 5, 6, 7, 93, 94, 96] [] σ s → Ct yX11_cell MX11_cell (d + 3) [.ref 88, .int (nI k), .int x2, .int x3, .int x4] s (fun v2 σ2 => v2 = some (.int (-1)) ∧ Fr [4, 5, 6, 7, 93, 94, 96] [] σ σ2 ∧ True) := by
      intro hb s hF
      have w1 : s.1 88 0 = nI N := by rw [hF.2.1 0 (by decide)]; exact e2
      have w2 : s.1 89 (nI k).toNatClampNeg = nI n := by rw [nI_clamp (by omega), hF.1 89 (by decide) (by decide)]; exact hm.1
      have w3 : s.1 90 (nI k).toNatClampNeg = nI D := by rw [nI_clamp (by omega), hF.1 90 (by decide) (by decide)]; exact hm.2.1
      refine Ct.of mX11_cell.1 (Nat.le_of_ble_eq_true rfl) (bX11_cell_0 (nI k) x2 x3 x4 s (fun _ => vp_in_nI k8 (by decide)) (fun q => absurd (by rw [w1]; exact cm) q) (fun _ _ => ⟨rfl, hF, trivial⟩) (fun _ _ _ => ⟨rfl, hF, trivial⟩) (fun _ p2 p3 p4 => ?_) (fun _ _ _ _ => ⟨rfl, hF, trivial⟩))
      rw [w3] at p2
      rw [w2] at p3
      exact absurd ⟨(isM (by omega) x2).mp p2, (isM (by omega) x3).mp p3, p4⟩ hb
    have e0 : gr 1 (nI k).toNatClampNeg = 32 + 6 * k := by rw [nI_clamp (by omega)]; exact g1
    refine Ct.of mX10_cell.1 (Nat.le_of_ble_eq_true rfl) (bX10_cell_0 (nI k) x2 x3 x4 σ (fun _ q => ⟨_, rfl, bad (fun hb => ?_) σ Fr.rf⟩) (fun _ q0 q => ⟨_, rfl, bad (fun hb => ?_) σ Fr.rf⟩) (fun _ _ _ q => ⟨_, rfl, bad (fun hb => ?_) σ Fr.rf⟩) (fun _ q1 q2 q3 q4 => ?_) (fun _ _ _ _ q => ⟨_, rfl, bad (fun hb => ?_) σ Fr.rf⟩) (fun q => absurd (by rw [e1]; exact cc) q))
    · obtain ⟨r, hr, e⟩ := hb.1
      rw [e] at q; exact absurd q (nI_pos (by omega))
    · obtain ⟨r, hr, e⟩ := hb.1
      rw [e, e0, c2] at q; exact absurd q (nI_ge hr (by omega))
    · obtain ⟨i, hi, e⟩ := hb.2.1
      rw [e] at q; exact absurd q (nI_pos (by omega))
    · rw [e0] at q2 q4 ⊢
      rw [c1] at q4 ⊢
      rw [c2] at q2
      have q1' := q1
      have q3' := q3
      simp only [Int32.lt_iff_toInt_lt, Int32.le_iff_toInt_le, Int64.lt_iff_toInt_lt, Int64.le_iff_toInt_le, ← Int32.toInt_inj, ← Int64.toInt_inj, Int32.toInt_toInt64, tim20, tim13, tim12, tim11, tim10, tim4, tim3, tim2, tim1, ti0, ti1, ti2, ti3, ti4, ti5, ti6, ti7, ti8, ti9, ti10, ti11, ti12, ti13, ti14, ti15, ti16, ti24, ti30, ti31, ti32, ti48, ti56, ti57, ti60, ti63, ti99, ti100, ti130, ti199, ti200, ti240, ti999, ti1000, ti20, ti21, ti22, ti23, ti65535, ti32767, ti144, tjm20, tjm13, tjm12, tjm11, tjm10, tjm4, tjm3, tjm2, tjm1, tj0, tj1, tj2, tj3, tj4, tj5, tj6, tj7, tj8, tj9, tj10, tj11, tj12, tj13, tj14, tj15, tj16, tj24, tj30, tj31, tj32, tj48, tj56, tj57, tj60, tj63, tj99, tj100, tj130, tj199, tj200, tj240, tj999, tj1000, tj20, tj21, tj22, tj23, tj65535, tj32767, tj144] at q1' q2 q3' q4
      rw [nI_toInt (by omega)] at q2 q4
      obtain ⟨r, hr, er⟩ := ofI (x := x2) (n := D) (by omega) (by omega) (by omega)
      obtain ⟨i, hi, ei⟩ := ofI (x := x3) (n := n) (by omega) (by omega) (by omega)
      subst er ei
      refine (tX8_begin d 4 n (by decide) n32 σ).mono ?_
      rintro v s1 ⟨hv, hs1, hF1⟩
      rw [hv]
      refine bX10_cell_52 (nI r) (nI i) x4 _ s1 g2 ?_
      have hF1' : Fr [4, 5, 6, 7] [] σ s1 := hF1.mono (by decide) (by decide)
      refine loopI1 (fun x s => Run MX10_cell (d + 2) 55 [some (.ref 0), none, some (.int (nI r)), some (.int (nI i)), some (.int x4), some (.ref (32 + 6 * k)), some (.int x)] [] s _) (fun q s => Fr [4, 5, 6, 7] [] σ s ∧ sL 4 s n (lw R q) ∧ (q = r + 1 → s.1 6 i = tk (R r) (lw R r) i ∧ s.1 7 i = nI (ld (R r) (lw R r) n i))) (r + 1) ?_ ?_ 0 s1 (by omega) ⟨hF1', hs1, fun q => by omega⟩
      · intro s ⟨hF, hL, h1⟩
        obtain ⟨t1, t2⟩ := h1 rfl
        have hF' : Fr [4, 5, 6, 7, 93, 94, 96] [] σ s := hF.mono (by decide) (by decide)
        have fin : ∀ (hx4 : (0 : Int64) ≤ x4.toInt64 ∧ x4.toInt64 ≤ (2 : Int64)), Ct yX11_cell MX11_cell (d + 3) [.ref 88, .int (nI k), .int (nI r), .int (nI i), .int x4] s (fun v2 σ2 => v2 = some (.int (if x4 = 0 then tk (R r) (lw R r) i else if x4 = 1 then nI (lw R (r + 1) i) else nI (ld (R r) (lw R r) n i))) ∧ Fr [4, 5, 6, 7, 93, 94, 96] [] σ σ2 ∧ True) := by
          intro hx4
          have w1 : s.1 88 0 = nI N := by rw [hF.2.1 0 (by decide)]; exact e2
          have w2 : s.1 89 (nI k).toNatClampNeg = nI n := by rw [nI_clamp (by omega), hF.1 89 (by decide) (by decide)]; exact hm.1
          have w3 : s.1 90 (nI k).toNatClampNeg = nI D := by rw [nI_clamp (by omega), hF.1 90 (by decide) (by decide)]; exact hm.2.1
          refine Ct.of mX11_cell.1 (Nat.le_of_ble_eq_true rfl) (bX11_cell_0 (nI k) (nI r) (nI i) x4 s (fun _ => vp_in_nI k8 (by decide)) (fun q => absurd (by rw [w1]; exact cm) q) (fun _ q => absurd (by rw [w3]; exact (isM (by omega) _).mpr ⟨r, hr, rfl⟩) q) (fun _ _ q => absurd (by rw [w2]; exact (isM (by omega) _).mpr ⟨i, hi, rfl⟩) q) (fun _ _ _ _ => ?_) (fun _ _ _ q => absurd hx4 q))
          have hm91 : ∀ q, q < D → s.2 91 (32 * k + q) = lN (R q) := fun q hq => by rw [hF.2.2 91 (by decide)]; exact hm.2.2 q hq
          refine (tX11_findTakes d k D r n R k8 hok hr s hm91).mono ?_
          rintro v2 s2 ⟨hv2, hT2, hL2, hF2⟩
          rw [hv2]
          have okr := okR_32 n32 (hrow r hr).2
          refine bX11_cell_65 _ _ _ _ s2 ((tX11_loadOf (d + 2) i (R r) (lw R r) (lw_le R r) okr (by omega) s2 hT2).mono ?_)
          rintro v3 s3 ⟨hv3, hs3⟩
          rw [hv3, hs3]
          refine bX11_cell_70 _ _ _ _ _ s2 (vp_in_nI (by omega) (by decide)) (by rw [cellsOf_nI k8 (by omega)]; exact vp_in_nI (by omega) (by decide)) ?_
          rw [rX11_cellsOf_nI k8 (by omega), hF2.2.2 91 (by decide), hm91 r hr, nI_clamp (by omega), hT2 i (by omega)]
          refine (tX11_joins (d + 2) (R r) (lw R r) (lw_le R r) okr s2 hL2).mono ?_
          rintro v4 s4 ⟨hv4, hL4, hF4⟩
          rw [hv4]
          refine bX11_cell_90 _ _ _ _ s4 (fun _ _ => vp_in_nI (by omega) (by decide)) ⟨?_, (hF'.tr (hF2.mono (by decide) (by decide))).tr (hF4.mono (by decide) (by decide)), trivial⟩
          rw [nI_clamp (by omega), hL4 i (by omega), ld_32 n32 (hrow r hr).2]; rfl
        refine bX10_cell_55 (nI r) (nI i) x4 _ (nI (r + 1)) s g2 (fun _ q => ?_) (fun _ q => ?_) (fun _ q => ?_) (fun _ q => ?_) (fun q => absurd q (nI_ge (by omega) (by omega)))
        · subst q
          refine ⟨_, rfl, (fin ⟨by decide, by decide⟩).mono ?_⟩
          rintro v2 s2 ⟨hv2, h2⟩
          refine ⟨?_, h2⟩
          rw [hv2, if_pos rfl, ← t1]; exact congrArg (fun z => some (Value.int z)) (aG_in (a := 6) (n := 32) rfl (by omega)).symm
        · subst q
          refine ⟨_, rfl, (fin ⟨by decide, by decide⟩).mono ?_⟩
          rintro v2 s2 ⟨hv2, h2⟩
          refine ⟨?_, h2⟩
          rw [hv2, if_neg (by decide), if_pos rfl, ← hL.2 i hi]; exact congrArg (fun z => some (Value.int z)) (aG_in (a := 5) (n := 32) rfl (by omega)).symm
        · subst q
          refine ⟨_, rfl, (fin ⟨by decide, by decide⟩).mono ?_⟩
          rintro v2 s2 ⟨hv2, h2⟩
          refine ⟨?_, h2⟩
          rw [hv2, if_neg (by decide), if_neg (by decide), ← t2]; exact congrArg (fun z => some (Value.int z)) (aG_in (a := 7) (n := 32) rfl (by omega)).symm
        · refine ⟨_, rfl, bad (fun hb => ?_) s hF'⟩
          have h4 := hb.2.2
          obtain ⟨h41, h42⟩ := h4
          simp only [Int32.lt_iff_toInt_lt, Int32.le_iff_toInt_le, Int64.lt_iff_toInt_lt, Int64.le_iff_toInt_le, ← Int32.toInt_inj, ← Int64.toInt_inj, Int32.toInt_toInt64, tim20, tim13, tim12, tim11, tim10, tim4, tim3, tim2, tim1, ti0, ti1, ti2, ti3, ti4, ti5, ti6, ti7, ti8, ti9, ti10, ti11, ti12, ti13, ti14, ti15, ti16, ti24, ti30, ti31, ti32, ti48, ti56, ti57, ti60, ti63, ti99, ti100, ti130, ti199, ti200, ti240, ti999, ti1000, ti20, ti21, ti22, ti23, ti65535, ti32767, ti144, tjm20, tjm13, tjm12, tjm11, tjm10, tjm4, tjm3, tjm2, tjm1, tj0, tj1, tj2, tj3, tj4, tj5, tj6, tj7, tj8, tj9, tj10, tj11, tj12, tj13, tj14, tj15, tj16, tj24, tj30, tj31, tj32, tj48, tj56, tj57, tj60, tj63, tj99, tj100, tj130, tj199, tj200, tj240, tj999, tj1000, tj20, tj21, tj22, tj23, tj65535, tj32767, tj144] at h41 h42
          omega
      · intro q s hq ⟨hF, hL, _⟩ ih
        have er : aG (gr (32 + 6 * k) 3) (nI q) s = nI (R q) := by
          rw [g4, aG_in g5 (by omega), hF.1 _ (by simp; omega) (by omega)]; exact c4 q (by omega)
        have nlt : ¬ nI r < nI q := nI_nlt (by omega) (by omega)
        refine bX10_cell_55 (nI r) (nI i) x4 _ (nI q) s g2 (fun t => absurd t nlt) (fun t => absurd t nlt) (fun t => absurd t nlt) (fun t => absurd t nlt) (fun _ => ?_)
        rw [er]
        refine (tX8_join d 4 n (R q) (lw R q) (by decide) n32 (by omega) (lw_le R q) (hrow q (by omega)).2 s hL).mono ?_
        rintro v2 s2 ⟨hv2, hL2, ht2, hl2, hF2⟩
        rw [hv2]
        refine bX10_cell_75 _ _ _ _ _ s2 g2 (ih s2 ⟨hF.tr (hF2.mono (by decide) (by decide)), hL2, fun e => ?_⟩)
        have : q = r := by omega
        subst this
        exact ⟨ht2 i hi, hl2 i hi⟩
    · obtain ⟨i, hi, e⟩ := hb.2.1
      rw [e, e0, c1] at q; exact absurd q (nI_ge hi (by omega))
  · have cc : ¬ (0 ≤ x1 ∧ x1 < σ.1 0 1 ∧ x1 < 8) := fun q => hx ((isC hN x1).mp (by rw [← e1]; exact q))
    have cm : ¬ ((0 : Int64) ≤ x1.toInt64 ∧ x1.toInt64 ≤ (σ.1 88 0 - 1).toInt64) := fun q => hx ((isM (by omega) x1).mp (by rw [← e2]; exact q))
    refine Ct.of mX10_cell.1 (Nat.le_of_ble_eq_true rfl) (bX10_cell_0 x1 x2 x3 x4 σ (fun q => absurd q cc) (fun q => absurd q cc) (fun q => absurd q cc) (fun q => absurd q cc) (fun q => absurd q cc) (fun _ => ⟨_, rfl, Ct.of mX11_cell.1 (Nat.le_of_ble_eq_true rfl) (bX11_cell_0 x1 x2 x3 x4 σ (fun q => absurd q cm) (fun _ => ⟨rfl, Fr.rf, trivial⟩) (fun q => absurd q cm) (fun q => absurd q cm) (fun q => absurd q cm) (fun q => absurd q cm))⟩))
end NETR

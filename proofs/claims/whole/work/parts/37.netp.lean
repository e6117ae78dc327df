/-! NET -/
section NETP
theorem b_1 : ∀ r, r < 5 → ∀ i, i < 32 → (decide (0 ≤ i) && pf 1 r i) = hb 1 r i := by decide +kernel
theorem b_2 : ∀ r, r < 5 → ∀ i, i < 32 → (decide (2 ^ r ≤ i) && pf 0 r i) = hb 2 r i := by decide +kernel
theorem b_5 : ∀ r, r < 5 → ∀ i, i < 32 → (decide (2 ^ r ≤ i) && pf 2 r i) = hb 5 r i := by decide +kernel
theorem b_50 : ∀ i, i < 32 → (decide (0 ≤ i) && pf 2 0 i) = hb 5 0 i := by decide +kernel
theorem b_6 : ∀ i, i < 32 → (decide (2 ≤ i) && pf 3 0 i) = hb 6 0 i := by decide +kernel
theorem b_00 : ∀ r, r < 31 → ∀ i, i < 32 → (2 ^ (r + 1)).testBit i = hb 0 r i := by decide +kernel
theorem mk_same {f g : Nat → Bool} {n : Nat} (hn : n ≤ 32) (h : ∀ i, i < 32 → f i = g i) : ∀ i, i < n → (mk f n).testBit i = (mk g n).testBit i := fun i hi => by rw [mk_bit, mk_bit, h i (by omega)]
theorem runNet (d N n law : Nat) (hN : N < 8) (h2 : 2 ≤ n) (h32 : n ≤ 32) (hl : law < 5) (s1 : St) (h0 : s1.1 88 0 = nI N) (hs : nMS N n s1 p0 s1) {Q : Option Value → St → Prop} (fin : ∀ s, nMS N n s1 (pL n law) s → Q (some (.int ((s.1 88 0 + 1) - 1))) (sA s 88 (upd (s.1 88) 0 (s.1 88 0 + 1)))) : Run MX11_net (d + 3) 64 [some (.ref 88), some (.int (nI n)), some (.int (nI law)), none] [] s1 Q := by
  have o := p0_ok h2 h32
  have z : p0.1 = 0 := rfl
  obtain ⟨u5, un⟩ := uD_2 n (by omega)
  have u1 : 1 ≤ uD n := by have := (uD_1 n (by omega) 0 (by decide)).mpr (by omega); omega
  have w0 : ∀ {p s}, nMS N n s1 p s → s.1 88 0 = nI N := fun h => by rw [h.2.2.1.2.1 0 (by decide)]; exact h0
  have ne : ∀ j, j < 5 → nI law = nI j → law = j := fun j hj q => (nI_eq (by omega) (by omega)).mp q
  -- the loop of the doublings
  have dbl : ∀ kc, (law = 1 ∧ kc = 1 ∨ law = 2 ∧ kc = 2 ∨ law = 4 ∧ kc = 5) → ∀ f j s, j + f = uD n → nMS N n s1 (sq n (fun r => mk (hb kc r) n) p0 j) s → Run MX11_net (d + 3) 135 [some (.ref 88), some (.int (nI n)), some (.int (nI law)), some (.int (nI j))] [] s Q := by
    intro kc hkc f
    induction f with
    | zero =>
      intro j s hj h
      have e : j = uD n := by omega
      subst e
      have sh : (1 : Int32) <<< (nI (uD n) &&& 31) = nI (2 ^ uD n) := one_sh _ (by omega)
      have : 2 ^ uD n ≤ 2 ^ 5 := Nat.pow_le_pow_right (by decide) u5
      refine bX11_net_135 (nI n) (nI law) (nI (uD n)) s (fun _ q => ?_) (fun _ q => ?_) (fun q => absurd q (by rw [sh]; exact nI_nlt un (by omega))) (fun q => absurd q (by rw [sh]; exact nI_nlt un (by omega)))
      · refine fin s ?_
        rcases hkc with ⟨rfl, rfl⟩ | ⟨rfl, rfl⟩ | ⟨rfl, rfl⟩
        · exact h
        · exact h
        · exact absurd rfl q
      · have e4 := ne 4 (by decide) q
        subst e4
        rcases hkc with ⟨e, _⟩ | ⟨e, _⟩ | ⟨_, rfl⟩
        · exact absurd e (by decide)
        · exact absurd e (by decide)
        · have t := sq_ok (f := fun r => mk (hb 5 r) n) o (uD n) (by omega)
          refine (tX11_placesFrom (d + 2) N n 2 3 0 hN h32 h2 (by decide) (by decide) s (w0 h) h.1.1).mono ?_
          rintro v s2 ⟨hv, hs2⟩
          rw [hv, hs2]
          refine bX11_net_198 _ s ((h.comes (d + 1) _ hN (mk_lt _ h32) t.1 (by omega) h0).mono ?_)
          rintro v3 s3 ⟨hv3, h3⟩
          rw [hv3]
          refine bX11_net_201 s3 (fin s3 ?_)
          rw [ad_cong (mk_same h32 b_6)] at h3
          exact h3
    | succ f ih =>
      intro j s hj h
      have lt := (uD_1 n (by omega) j (by omega)).mp (by omega)
      have sh : (1 : Int32) <<< (nI j &&& 31) = nI (2 ^ j) := one_sh _ (by omega)
      have t := sq_ok (f := fun r => mk (hb kc r) n) o j (by omega)
      have nx : ∀ (m : Nat) (s2 : St), (∀ i, i < n → m.testBit i = (mk (hb kc j) n).testBit i) → nMS N n s1 (ad n (sq n (fun r => mk (hb kc r) n) p0 j) m) s2 → Run MX11_net (d + 3) 135 [some (.ref 88), some (.int (nI n)), some (.int (nI law)), some (.int (nI j + 1))] [] s2 Q := by
        intro m s2 hm hh
        rw [ad_cong hm] at hh
        rw [← nI_succ]
        exact ih (j + 1) s2 (by omega) hh
      refine bX11_net_135 (nI n) (nI law) (nI j) s (fun q => absurd q (by rw [sh]; exact nI_ge lt (by omega))) (fun q => absurd q (by rw [sh]; exact nI_ge lt (by omega))) (fun _ q => ?_) (fun _ q => ?_)
      · rw [sh]
        rcases hkc with ⟨rfl, rfl⟩ | ⟨rfl, rfl⟩ | ⟨rfl, rfl⟩
        · exact absurd rfl q
        · refine (tX11_placesFrom (d + 2) N n (2 ^ j) 0 j hN h32 (by omega) (by decide) (by omega) s (w0 h) h.1.1).mono ?_
          rintro v s2 ⟨hv, hs2⟩
          rw [hv, hs2]
          refine bX11_net_176 _ _ _ _ s ((h.comes (d + 1) _ hN (mk_lt _ h32) t.1 (by omega) h0).mono ?_)
          rintro v3 s3 ⟨hv3, h3⟩
          rw [hv3]
          exact bX11_net_179 _ _ _ s3 (nx _ s3 (mk_same h32 (b_2 j (by omega))) h3)
        · refine (tX11_placesFrom (d + 2) N n (2 ^ j) 2 j hN h32 (by omega) (by decide) (by omega) s (w0 h) h.1.1).mono ?_
          rintro v s2 ⟨hv, hs2⟩
          rw [hv, hs2]
          refine bX11_net_176 _ _ _ _ s ((h.comes (d + 1) _ hN (mk_lt _ h32) t.1 (by omega) h0).mono ?_)
          rintro v3 s3 ⟨hv3, h3⟩
          rw [hv3]
          exact bX11_net_179 _ _ _ s3 (nx _ s3 (mk_same h32 (b_5 j (by omega))) h3)
      · have e1 := ne 1 (by decide) q
        subst e1
        rcases hkc with ⟨_, rfl⟩ | ⟨e, _⟩ | ⟨e, _⟩
        · refine (tX11_placesFrom (d + 2) N n 0 1 j hN h32 (by omega) (by decide) (by omega) s (w0 h) h.1.1).mono ?_
          rintro v s2 ⟨hv, hs2⟩
          rw [hv, hs2]
          refine bX11_net_155 _ _ _ _ s ((h.comes (d + 1) _ hN (mk_lt _ h32) t.1 (by omega) h0).mono ?_)
          rintro v3 s3 ⟨hv3, h3⟩
          rw [hv3]
          exact bX11_net_179 _ _ _ s3 (nx _ s3 (mk_same h32 (b_1 j (by omega))) h3)
        · exact absurd e (by decide)
        · exact absurd e (by decide)
  refine bX11_net_64 (nI n) (nI law) s1 (fun q0 q3 q4 => ?_) (fun q0 q3 q4 => ?_) (fun _ q => ?_) (fun q => ?_)
  · have e : bI (nI law = 4) = nI 0 := by unfold bI; rw [if_neg q4]; rfl
    rw [e]
    have h0' : law ≠ 0 := fun e => q0 (by rw [e]; rfl)
    have h3' : law ≠ 3 := fun e => q3 (by rw [e]; rfl)
    have h4' : law ≠ 4 := fun e => q4 (by rw [e]; rfl)
    have : law = 1 ∨ law = 2 := by omega
    rcases this with e | e
    · exact dbl 1 (.inl ⟨e, rfl⟩) (uD n) 0 s1 (by omega) hs
    · exact dbl 2 (.inr (.inl ⟨e, rfl⟩)) (uD n) 0 s1 (by omega) hs
  · have e4 := ne 4 (by decide) q4
    refine (tX11_placesFrom (d + 2) N n 0 2 0 hN h32 (by omega) (by decide) (by decide) s1 h0 hs.1.1).mono ?_
    rintro v s2 ⟨hv, hs2⟩
    rw [hv, hs2]
    refine bX11_net_121 _ _ _ s1 ((hs.comes (d + 1) _ hN (mk_lt _ h32) o (by decide) h0).mono ?_)
    rintro v3 s3 ⟨hv3, h3⟩
    rw [hv3]
    refine bX11_net_124 _ _ s3 ?_
    have e : bI (nI law = 4) = nI 1 := by unfold bI; rw [if_pos q4]; rfl
    rw [e]
    rw [ad_cong (mk_same h32 b_50)] at h3
    exact dbl 5 (.inr (.inr ⟨e4, rfl⟩)) (uD n - 1) 1 s3 (by omega) h3
  · have e3 := ne 3 (by decide) q
    subst e3
    refine (tX11_upAndDown d N n s1 p0 s1 hN o z h0 hs).mono ?_
    rintro v s2 ⟨hv, h3⟩
    rw [hv]
    exact bX11_net_105 s2 (fin s2 h3)
  · have e0 := ne 0 (by decide) q
    subst e0
    refine loopI1 (fun x s => Run MX11_net (d + 3) 70 [some (.ref 88), some (.int (nI n)), none, some (.int x)] [] s _) (fun j s => nMS N n s1 (sq n (fun r => mk (hb 0 r) n) p0 j) s) (n - 1) ?_ ?_ 0 s1 (by omega) hs
    · intro s h
      refine bX11_net_70 (nI n) (nI (n - 1)) s (fun _ => fin s h) (fun q => ?_)
      rw [← nI_succ] at q
      exact absurd q (nI_nlt (by omega) (by omega))
    · intro j s hj h ih
      have t := sq_ok (f := fun r => mk (hb 0 r) n) o j (by omega)
      refine bX11_net_70 (nI n) (nI j) s (fun q => ?_) (fun _ => ?_)
      · rw [← nI_succ] at q
        exact absurd q (nI_ge (by omega) (by omega))
      · rw [← nI_succ, shl1 (by omega)]
        refine (h.comes (d + 1) (2 ^ (j + 1)) hN (Nat.pow_lt_pow_right (by decide) (by omega)) t.1 (by omega) h0).mono ?_
        rintro v s2 ⟨hv, h3⟩
        rw [hv]
        refine bX11_net_86 _ _ s2 (ih s2 ?_)
        rw [ad_cong (c' := mk (hb 0 j) n) (fun i hi => by rw [mk_bit, decide_eq_true hi, Bool.true_and]; exact b_00 j (by omega) i (by omega))] at h3
        exact h3
def SN : List Nat := 93 :: 94 :: NS
theorem FN_SN : ∀ k, k < 8 → ∀ i, i ∈ FN k → i ∈ SN := by decide +kernel
/-- one NET more -/
theorem RN_more {N n D : Nat} {R : Nat → Nat} {σ s t : St} (hN : N < 8) (hk : ∀ k, k < N → ∃ n D R, okN n D R ∧ cN k n D R σ ∧ mN k n D R σ) (hok : okN n D R) (hc : cN N n D R s) (hFc : Fr (0 :: FN N) [] σ s) (hm : mN N n D R t) (hFm : Fm N s t) (t0 : t.1 0 1 = nI (N + 1)) (t' : St) (et : t' = sA t 88 (upd (t.1 88) 0 (nI (N + 1)))) : RN t' := by
  have k1 : ∀ i, i ≠ 88 → t'.1 i = t.1 i := fun i hi => by rw [et, sA_ne hi]
  have k2 : t'.2 = t.2 := by rw [et, sA2]
  have nin : ∀ i, i < 89 → i ∉ [89, 90, 91, 93, 94] := fun i hi => by simp; omega
  refine ⟨N + 1, by omega, by rw [k1 0 (by decide)]; exact t0, by rw [et, sA_at, upd_eq, if_pos rfl], fun k hk1 => ?_⟩
  by_cases e : k = N
  · subst e
    refine ⟨n, D, R, hok, hc.keep hN (fun i i1 i2 => by rw [k1 i (by omega), hFm.1.1 i (nin i (by omega)) (by omega)]), hm.keep (by rw [k1 89 (by decide)]) (by rw [k1 90 (by decide)]) (fun r _ => by rw [k2])⟩
  · obtain ⟨n', D', R', a, b, c⟩ := hk k (by omega)
    have D32 := a.2.2.1
    refine ⟨n', D', R', a, b.keep (by omega) (fun i i1 i2 => by rw [k1 i (by omega), hFm.1.1 i (nin i (by omega)) (by omega), hFc.1 i (by simp [FN]; omega) (by omega)]), c.keep ?_ ?_ (fun r hr => ?_)⟩
    · rw [k1 89 (by decide), (hFm.2.1 k (by omega)).1, hFc.1 89 (by simp [FN]; omega) (by decide)]
    · rw [k1 90 (by decide), (hFm.2.1 k (by omega)).2, hFc.1 90 (by simp [FN]; omega) (by decide)]
    · rw [k2, hFm.2.2 _ (by omega), hFc.2.2 91 (by simp [FN]; omega)]
theorem pub_net (d : Nat) (x1 x2 : Int32) (σ : St) (hR : RN σ) : PB yX10_net MX10_net (d + 6) yX11_net MX11_net (d + 3) [.int x1, .int x2] σ SN [0] RN := by
  have hR0 := hR
  obtain ⟨N, hN, e1, e2, hk⟩ := hR
  have d1 : ((2 : Int64) ≤ x1.toInt64 ∧ x1.toInt64 ≤ (32 : Int64)) ↔ (2 : Int32) ≤ x1 ∧ x1 ≤ 32 := in_i x1 2 32
  have d2 : ((0 : Int64) ≤ x2.toInt64 ∧ x2.toInt64 ≤ (4 : Int64)) ↔ (0 : Int32) ≤ x2 ∧ x2 ≤ 4 := in_i x2 0 4
  have bad : (¬ (((2 : Int32) ≤ x1 ∧ x1 ≤ 32) ∧ ((0 : Int32) ≤ x2 ∧ x2 ≤ 4))) → ∃ r, some (Value.int (-1)) = some r ∧ Ct yX11_net MX11_net (d + 3) [.ref 88, .int x1, .int x2] σ (fun v2 σ2 => v2 = some r ∧ Fr SN [0] σ σ2 ∧ RN σ2) := by
    intro hb
    refine ⟨_, rfl, Ct.of mX11_net.1 (Nat.le_of_ble_eq_true rfl) (bX11_net_0 x1 x2 σ (fun p q _ => absurd ⟨d1.mp p, d2.mp q⟩ hb) (fun _ => ⟨rfl, Fr.rf, hR0⟩) (fun p q _ => absurd ⟨d1.mp p, d2.mp q⟩ hb) (fun p q _ => absurd ⟨d1.mp p, d2.mp q⟩ hb) (fun _ _ => ⟨rfl, Fr.rf, hR0⟩))⟩
  refine Ct.of mX10_net.1 (Nat.le_of_ble_eq_true rfl) (bX10_net_0 x1 x2 σ (fun q => bad fun h => ?_) (fun _ q => bad fun h => ?_) (fun _ _ q => bad fun h => ?_) (fun p1 p2 p3 p4 q => ?_) (fun p1 p2 p3 p4 q => ?_) (fun _ _ _ q => bad fun h => ?_))
  · have := h.1.1; simp only [Int32.lt_iff_toInt_lt, Int32.le_iff_toInt_le, Int64.lt_iff_toInt_lt, Int64.le_iff_toInt_le, ← Int32.toInt_inj, ← Int64.toInt_inj, Int32.toInt_toInt64, tim20, tim13, tim12, tim11, tim10, tim4, tim3, tim2, tim1, ti0, ti1, ti2, ti3, ti4, ti5, ti6, ti7, ti8, ti9, ti10, ti11, ti12, ti13, ti14, ti15, ti16, ti24, ti30, ti31, ti32, ti48, ti56, ti57, ti60, ti63, ti99, ti100, ti130, ti199, ti200, ti240, ti999, ti1000, ti20, ti21, ti22, ti23, ti65535, ti32767, ti144, tjm20, tjm13, tjm12, tjm11, tjm10, tjm4, tjm3, tjm2, tjm1, tj0, tj1, tj2, tj3, tj4, tj5, tj6, tj7, tj8, tj9, tj10, tj11, tj12, tj13, tj14, tj15, tj16, tj24, tj30, tj31, tj32, tj48, tj56, tj57, tj60, tj63, tj99, tj100, tj130, tj199, tj200, tj240, tj999, tj1000, tj20, tj21, tj22, tj23, tj65535, tj32767, tj144] at q this; omega
  · have := h.1.2; simp only [Int32.lt_iff_toInt_lt, Int32.le_iff_toInt_le, Int64.lt_iff_toInt_lt, Int64.le_iff_toInt_le, ← Int32.toInt_inj, ← Int64.toInt_inj, Int32.toInt_toInt64, tim20, tim13, tim12, tim11, tim10, tim4, tim3, tim2, tim1, ti0, ti1, ti2, ti3, ti4, ti5, ti6, ti7, ti8, ti9, ti10, ti11, ti12, ti13, ti14, ti15, ti16, ti24, ti30, ti31, ti32, ti48, ti56, ti57, ti60, ti63, ti99, ti100, ti130, ti199, ti200, ti240, ti999, ti1000, ti20, ti21, ti22, ti23, ti65535, ti32767, ti144, tjm20, tjm13, tjm12, tjm11, tjm10, tjm4, tjm3, tjm2, tjm1, tj0, tj1, tj2, tj3, tj4, tj5, tj6, tj7, tj8, tj9, tj10, tj11, tj12, tj13, tj14, tj15, tj16, tj24, tj30, tj31, tj32, tj48, tj56, tj57, tj60, tj63, tj99, tj100, tj130, tj199, tj200, tj240, tj999, tj1000, tj20, tj21, tj22, tj23, tj65535, tj32767, tj144] at q this; omega
  · have := h.2.1; simp only [Int32.lt_iff_toInt_lt, Int32.le_iff_toInt_le, Int64.lt_iff_toInt_lt, Int64.le_iff_toInt_le, ← Int32.toInt_inj, ← Int64.toInt_inj, Int32.toInt_toInt64, tim20, tim13, tim12, tim11, tim10, tim4, tim3, tim2, tim1, ti0, ti1, ti2, ti3, ti4, ti5, ti6, ti7, ti8, ti9, ti10, ti11, ti12, ti13, ti14, ti15, ti16, ti24, ti30, ti31, ti32, ti48, ti56, ti57, ti60, ti63, ti99, ti100, ti130, ti199, ti200, ti240, ti999, ti1000, ti20, ti21, ti22, ti23, ti65535, ti32767, ti144, tjm20, tjm13, tjm12, tjm11, tjm10, tjm4, tjm3, tjm2, tjm1, tj0, tj1, tj2, tj3, tj4, tj5, tj6, tj7, tj8, tj9, tj10, tj11, tj12, tj13, tj14, tj15, tj16, tj24, tj30, tj31, tj32, tj48, tj56, tj57, tj60, tj63, tj99, tj100, tj130, tj199, tj200, tj240, tj999, tj1000, tj20, tj21, tj22, tj23, tj65535, tj32767, tj144] at q this; omega
  · rw [e1] at q
    have hN8 : N < 8 := (nI_ltI (b := 8) (by omega) (by decide)).mp q.2
    have p1' := p1
    have p2' := p2
    have p3' := p3
    have p4' := p4
    simp only [Int32.lt_iff_toInt_lt, Int32.le_iff_toInt_le, Int64.lt_iff_toInt_lt, Int64.le_iff_toInt_le, ← Int32.toInt_inj, ← Int64.toInt_inj, Int32.toInt_toInt64, tim20, tim13, tim12, tim11, tim10, tim4, tim3, tim2, tim1, ti0, ti1, ti2, ti3, ti4, ti5, ti6, ti7, ti8, ti9, ti10, ti11, ti12, ti13, ti14, ti15, ti16, ti24, ti30, ti31, ti32, ti48, ti56, ti57, ti60, ti63, ti99, ti100, ti130, ti199, ti200, ti240, ti999, ti1000, ti20, ti21, ti22, ti23, ti65535, ti32767, ti144, tjm20, tjm13, tjm12, tjm11, tjm10, tjm4, tjm3, tjm2, tjm1, tj0, tj1, tj2, tj3, tj4, tj5, tj6, tj7, tj8, tj9, tj10, tj11, tj12, tj13, tj14, tj15, tj16, tj24, tj30, tj31, tj32, tj48, tj56, tj57, tj60, tj63, tj99, tj100, tj130, tj199, tj200, tj240, tj999, tj1000, tj20, tj21, tj22, tj23, tj65535, tj32767, tj144] at p1' p2' p3' p4'
    have q4 : x2 ≤ 4 := by simp only [Int32.lt_iff_toInt_lt, Int32.le_iff_toInt_le, Int64.lt_iff_toInt_lt, Int64.le_iff_toInt_le, ← Int32.toInt_inj, ← Int64.toInt_inj, Int32.toInt_toInt64, tim20, tim13, tim12, tim11, tim10, tim4, tim3, tim2, tim1, ti0, ti1, ti2, ti3, ti4, ti5, ti6, ti7, ti8, ti9, ti10, ti11, ti12, ti13, ti14, ti15, ti16, ti24, ti30, ti31, ti32, ti48, ti56, ti57, ti60, ti63, ti99, ti100, ti130, ti199, ti200, ti240, ti999, ti1000, ti20, ti21, ti22, ti23, ti65535, ti32767, ti144, tjm20, tjm13, tjm12, tjm11, tjm10, tjm4, tjm3, tjm2, tjm1, tj0, tj1, tj2, tj3, tj4, tj5, tj6, tj7, tj8, tj9, tj10, tj11, tj12, tj13, tj14, tj15, tj16, tj24, tj30, tj31, tj32, tj48, tj56, tj57, tj60, tj63, tj99, tj100, tj130, tj199, tj200, tj240, tj999, tj1000, tj20, tj21, tj22, tj23, tj65535, tj32767, tj144]; omega
    obtain ⟨n, hn, en⟩ := ofI (x := x1) (n := 33) (by omega) (by omega) (by decide)
    obtain ⟨law, hl, el⟩ := ofI (x := x2) (n := 5) (by omega) (by omega) (by decide)
    subst en el
    have hn2 : 2 ≤ n := by rw [nI_toInt (by omega)] at p1'; omega
    have hn32 : n ≤ 32 := by omega
    rw [e1, nI_clamp (by omega), (nt_a N hN8).1]
    refine (tX5_fill d N n law hN8 hn2 hn32 hl σ).mono ?_
    rintro v s ⟨hv, hc, hF⟩
    rw [hv]
    refine bX10_net_40 s ?_
    have es1 : s.1 0 1 = nI N := by rw [hF.1 0 (by simp [FN]; omega) (by decide)]; exact e1
    have es2 : s.1 88 0 = nI N := by rw [hF.2.1 0 (by decide)]; exact e2
    have ek : sX10_keepNet s = sA s 0 (upd (s.1 0) 1 (nI (N + 1))) := by unfold sX10_keepNet; rw [es1, nI_succ]
    rw [ek, es1]
    generalize hu : sA s 0 (upd (s.1 0) 1 (nI (N + 1))) = u
    have hFu : Fr (0 :: FN N) [] σ u := by rw [← hu]; exact (hF.mono (fun i hi => List.mem_cons_of_mem _ hi) (fun i hi => hi)).tA (by simp) (by decide)
    have u88 : u.1 88 0 = nI N := by rw [hFu.2.1 0 (by decide)]; exact e2
    have u0 : u.1 0 1 = nI (N + 1) := by rw [← hu, sA_at, upd_eq, if_pos rfl]
    have hcu : cN N n (pL n law).1 (pL n law).2 u := hc.keep hN8 (fun i i1 i2 => by rw [← hu, sA_ne (by omega)])
    have n8 : ¬ u.1 88 0 = 8 := fun h => by
      rw [u88] at h
      have := (nI_eq (a := N) (b := 8) (by omega) (by decide)).mp h; omega
    refine ⟨_, rfl, Ct.of mX11_net.1 (Nat.le_of_ble_eq_true rfl) (bX11_net_0 (nI n) (nI law) u (fun _ _ _ => by rw [u88]; exact vp_in_nI hN8 (by decide)) (fun t => absurd (d1.mpr ⟨p1, p2⟩) t) (fun _ _ _ => ?_) (fun _ _ t => absurd t n8) (fun _ t => absurd (d2.mpr ⟨p3, q4⟩) t))⟩
    rw [u88, nI_clamp (by omega)]
    refine (tX11_begins (d + 2) _).mono ?_
    rintro v2 s1 ⟨hv2, hL, hF1⟩
    rw [hv2]
    have f88 : s1.1 88 0 = nI N := by rw [hF1.2.1 0 (by decide), sA_ne (by decide), sA_ne (by decide)]; exact u88
    have f89 : s1.1 89 = upd (u.1 89) N (nI n) := by rw [hF1.1 89 (by decide) (by decide), sA_ne (by decide), sA_at]
    have f90 : s1.1 90 = upd (u.1 90) N 0 := by rw [hF1.1 90 (by decide) (by decide), sA_at]
    have f91 : s1.2 91 = u.2 91 := by rw [hF1.2.2 91 (by decide)]; rfl
    have hms : nMS N n s1 p0 s1 := ⟨⟨by rw [f89, upd_eq, if_pos rfl], by rw [f90, upd_eq, if_pos rfl]; rfl, fun r hr => absurd hr (Nat.not_lt_zero r)⟩, hL, Fm.rf⟩
    have hFm1 : Fm N u s1 := ⟨((Fr.A (by decide) (by decide)).tA (by decide) (by decide)).tr (hF1.mono (by decide) (by decide)), fun k hk1 => ⟨by rw [f89, upd_eq, if_neg (by omega)], by rw [f90, upd_eq, if_neg (by omega)]⟩, fun j _ => by rw [f91]⟩
    refine runNet d N n law hN8 hn2 hn32 hl s1 f88 hms (fun t ht => ?_)
    have hFm := hFm1.tr ht.2.2
    have t88 : t.1 88 0 = nI N := by rw [hFm.1.2.1 0 (by decide)]; exact u88
    have t0 : t.1 0 1 = nI (N + 1) := by rw [hFm.1.1 0 (by decide) (by decide)]; exact u0
    rw [t88]
    refine ⟨rfl, ?_, RN_more hN8 hk (pL_ok hn2 hn32 law) hcu hFu ht.1 hFm t0 _ (by rw [nI_succ])⟩
    refine Fr.tF (((hFu.mono (F' := [0]) (S' := SN) (fun i hi => ?_) (fun i hi => absurd hi (by simp))).tr (hFm.1.mono (by decide) (fun i hi => absurd hi (by simp))))) (by decide)
    rcases List.mem_cons.mp hi with rfl | hi
    · decide
    · exact FN_SN N hN8 i hi
  · have hN8 : N = 8 := by
      rw [e1] at q
      have : ¬ N < 8 := fun h => q ⟨(nI_leI (a := 0) (by omega) (by omega)).mpr (Nat.zero_le _), (nI_ltI (b := 8) (by omega) (by decide)).mpr h⟩
      omega
    have h8 : σ.1 88 0 = 8 := by rw [e2, hN8]; rfl
    have q4 : x2 ≤ 4 := by
      have p4' := p4
      simp only [Int32.lt_iff_toInt_lt, Int32.le_iff_toInt_le, Int64.lt_iff_toInt_lt, Int64.le_iff_toInt_le, ← Int32.toInt_inj, ← Int64.toInt_inj, Int32.toInt_toInt64, tim20, tim13, tim12, tim11, tim10, tim4, tim3, tim2, tim1, ti0, ti1, ti2, ti3, ti4, ti5, ti6, ti7, ti8, ti9, ti10, ti11, ti12, ti13, ti14, ti15, ti16, ti24, ti30, ti31, ti32, ti48, ti56, ti57, ti60, ti63, ti99, ti100, ti130, ti199, ti200, ti240, ti999, ti1000, ti20, ti21, ti22, ti23, ti65535, ti32767, ti144, tjm20, tjm13, tjm12, tjm11, tjm10, tjm4, tjm3, tjm2, tjm1, tj0, tj1, tj2, tj3, tj4, tj5, tj6, tj7, tj8, tj9, tj10, tj11, tj12, tj13, tj14, tj15, tj16, tj24, tj30, tj31, tj32, tj48, tj56, tj57, tj60, tj63, tj99, tj100, tj130, tj199, tj200, tj240, tj999, tj1000, tj20, tj21, tj22, tj23, tj65535, tj32767, tj144] at p4'
      simp only [Int32.lt_iff_toInt_lt, Int32.le_iff_toInt_le, Int64.lt_iff_toInt_lt, Int64.le_iff_toInt_le, ← Int32.toInt_inj, ← Int64.toInt_inj, Int32.toInt_toInt64, tim20, tim13, tim12, tim11, tim10, tim4, tim3, tim2, tim1, ti0, ti1, ti2, ti3, ti4, ti5, ti6, ti7, ti8, ti9, ti10, ti11, ti12, ti13, ti14, ti15, ti16, ti24, ti30, ti31, ti32, ti48, ti56, ti57, ti60, ti63, ti99, ti100, ti130, ti199, ti200, ti240, ti999, ti1000, ti20, ti21, ti22, ti23, ti65535, ti32767, ti144, tjm20, tjm13, tjm12, tjm11, tjm10, tjm4, tjm3, tjm2, tjm1, tj0, tj1, tj2, tj3, tj4, tj5, tj6, tj7, tj8, tj9, tj10, tj11, tj12, tj13, tj14, tj15, tj16, tj24, tj30, tj31, tj32, tj48, tj56, tj57, tj60, tj63, tj99, tj100, tj130, tj199, tj200, tj240, tj999, tj1000, tj20, tj21, tj22, tj23, tj65535, tj32767, tj144]; omega
    exact ⟨_, rfl, Ct.of mX11_net.1 (Nat.le_of_ble_eq_true rfl) (bX11_net_0 x1 x2 σ (fun _ _ t => absurd h8 t) (fun t => absurd (d1.mpr ⟨p1, p2⟩) t) (fun _ _ t => absurd h8 t) (fun _ _ _ => ⟨rfl, Fr.rf, hR0⟩) (fun _ t => absurd (d2.mpr ⟨p3, q4⟩) t))⟩
  · have := h.2.2; simp only [Int32.lt_iff_toInt_lt, Int32.le_iff_toInt_le, Int64.lt_iff_toInt_lt, Int64.le_iff_toInt_le, ← Int32.toInt_inj, ← Int64.toInt_inj, Int32.toInt_toInt64, tim20, tim13, tim12, tim11, tim10, tim4, tim3, tim2, tim1, ti0, ti1, ti2, ti3, ti4, ti5, ti6, ti7, ti8, ti9, ti10, ti11, ti12, ti13, ti14, ti15, ti16, ti24, ti30, ti31, ti32, ti48, ti56, ti57, ti60, ti63, ti99, ti100, ti130, ti199, ti200, ti240, ti999, ti1000, ti20, ti21, ti22, ti23, ti65535, ti32767, ti144, tjm20, tjm13, tjm12, tjm11, tjm10, tjm4, tjm3, tjm2, tjm1, tj0, tj1, tj2, tj3, tj4, tj5, tj6, tj7, tj8, tj9, tj10, tj11, tj12, tj13, tj14, tj15, tj16, tj24, tj30, tj31, tj32, tj48, tj56, tj57, tj60, tj63, tj99, tj100, tj130, tj199, tj200, tj240, tj999, tj1000, tj20, tj21, tj22, tj23, tj65535, tj32767, tj144] at q this; omega
end NETP

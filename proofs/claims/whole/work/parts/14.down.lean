section DOWN
theorem clr (o : Nat) (σ : St) : (sX3_clearTallies o σ).1 o 0 = 0 ∧ (sX3_clearTallies o σ).1 o 1 = 0 ∧ (sX3_clearTallies o σ).1 o 2 = 0 ∧ ∀ i, i ≠ o → (sX3_clearTallies o σ).1 i = σ.1 i := by
  unfold sX3_clearTallies
  refine ⟨?_, ?_, ?_, fun i hi => ?_⟩
  · simp [sA_at, upd_eq]
  · simp [sA_at, upd_eq]
  · simp [sA_at, upd_eq]
  · rw [sA_ne hi, sA_ne hi, sA_ne hi]
theorem clrF {o : Nat} {σ : St} {S : List Nat} (h : o ∈ S) (h8 : o ≠ 88) : Fr S [] σ (sX3_clearTallies o σ) := ((Fr.A h h8).tA h h8).tA h h8
theorem pub_down (d : Nat) (x1 : Int32) (σ : St) (hR : RH σ) : PB yX10_down MX10_down (d + 5) yX11_down MX11_down (d + 2) [.int x1] σ [27, 28, 106, 107] [32, 33, 34] RH := by
  have hR0 := hR
  obtain ⟨h, hh⟩ := hR
  have hb : ∀ c, c < 12 → h c ≤ 12 := fun c hc => (hh c hc).2.2
  have hcH : cH 27 σ h := fun c hc => ⟨(hh c hc).1, (hh c hc).2.2⟩
  have hgl : gst h 12 ≤ 12 := gst_le hb
  by_cases hg : 0 ≤ x1.toInt ∧ x1.toInt < (2 : Nat)
  · obtain ⟨law, hl, e1⟩ := ofI hg.1 hg.2 (by decide)
    refine Ct.of mX10_down.1 (Nat.le_of_ble_eq_true rfl) (bX10_down_0 x1 σ (fun a => False.elim (by simp only [Int32.lt_iff_toInt_lt, Int32.le_iff_toInt_le, Int64.lt_iff_toInt_lt, Int64.le_iff_toInt_le, ← Int32.toInt_inj, ← Int64.toInt_inj, Int32.toInt_toInt64, tim20, tim13, tim12, tim11, tim10, tim4, tim3, tim2, tim1, ti0, ti1, ti2, ti3, ti4, ti5, ti6, ti7, ti8, ti9, ti10, ti11, ti12, ti13, ti14, ti15, ti16, ti24, ti30, ti31, ti32, ti48, ti56, ti57, ti60, ti63, ti99, ti100, ti130, ti199, ti200, ti240, ti999, ti1000, ti20, ti21, ti22, ti23, ti65535, ti32767, ti144, tjm20, tjm13, tjm12, tjm11, tjm10, tjm4, tjm3, tjm2, tjm1, tj0, tj1, tj2, tj3, tj4, tj5, tj6, tj7, tj8, tj9, tj10, tj11, tj12, tj13, tj14, tj15, tj16, tj24, tj30, tj31, tj32, tj48, tj56, tj57, tj60, tj63, tj99, tj100, tj130, tj199, tj200, tj240, tj999, tj1000, tj20, tj21, tj22, tj23, tj65535, tj32767, tj144] at a; omega)) (fun _ _ => (tX3_done (d + 2) 27 σ rfl h hcH).mono ?_) (fun a b => False.elim (by simp only [Int32.lt_iff_toInt_lt, Int32.le_iff_toInt_le, Int64.lt_iff_toInt_lt, Int64.le_iff_toInt_le, ← Int32.toInt_inj, ← Int64.toInt_inj, Int32.toInt_toInt64, tim20, tim13, tim12, tim11, tim10, tim4, tim3, tim2, tim1, ti0, ti1, ti2, ti3, ti4, ti5, ti6, ti7, ti8, ti9, ti10, ti11, ti12, ti13, ti14, ti15, ti16, ti24, ti30, ti31, ti32, ti48, ti56, ti57, ti60, ti63, ti99, ti100, ti130, ti199, ti200, ti240, ti999, ti1000, ti20, ti21, ti22, ti23, ti65535, ti32767, ti144, tjm20, tjm13, tjm12, tjm11, tjm10, tjm4, tjm3, tjm2, tjm1, tj0, tj1, tj2, tj3, tj4, tj5, tj6, tj7, tj8, tj9, tj10, tj11, tj12, tj13, tj14, tj15, tj16, tj24, tj30, tj31, tj32, tj48, tj56, tj57, tj60, tj63, tj99, tj100, tj130, tj199, tj200, tj240, tj999, tj1000, tj20, tj21, tj22, tj23, tj65535, tj32767, tj144] at a b; omega)))
    rintro v1 s1 ⟨hv, hs⟩
    rw [hv, hs]
    by_cases hd : gst h 12 ≤ 2
    · rw [bI_pos hd]
      refine bX10_down_18 x1 1 σ (fun q => absurd q (by decide)) (fun _ => ⟨_, rfl, ?_⟩)
      refine Ct.of mX11_down.1 (Nat.le_of_ble_eq_true rfl) (bX11_down_0 x1 σ (fun _ => (tX11_greatest (d + 1) 106 σ rfl rfl h (fun c hc => ⟨(hh c hc).2.1, hb c hc⟩)).mono ?_) (fun a => False.elim (by simp only [Int32.lt_iff_toInt_lt, Int32.le_iff_toInt_le, Int64.lt_iff_toInt_lt, Int64.le_iff_toInt_le, ← Int32.toInt_inj, ← Int64.toInt_inj, Int32.toInt_toInt64, tim20, tim13, tim12, tim11, tim10, tim4, tim3, tim2, tim1, ti0, ti1, ti2, ti3, ti4, ti5, ti6, ti7, ti8, ti9, ti10, ti11, ti12, ti13, ti14, ti15, ti16, ti24, ti30, ti31, ti32, ti48, ti56, ti57, ti60, ti63, ti99, ti100, ti130, ti199, ti200, ti240, ti999, ti1000, ti20, ti21, ti22, ti23, ti65535, ti32767, ti144, tjm20, tjm13, tjm12, tjm11, tjm10, tjm4, tjm3, tjm2, tjm1, tj0, tj1, tj2, tj3, tj4, tj5, tj6, tj7, tj8, tj9, tj10, tj11, tj12, tj13, tj14, tj15, tj16, tj24, tj30, tj31, tj32, tj48, tj56, tj57, tj60, tj63, tj99, tj100, tj130, tj199, tj200, tj240, tj999, tj1000, tj20, tj21, tj22, tj23, tj65535, tj32767, tj144] at a; omega)))
      rintro v2 s2 ⟨hv2, hs2⟩
      rw [hv2, hs2]
      exact bX11_down_19 x1 _ σ (fun q => absurd ((nI_leI (a := 3) (by decide) (by omega)).mp q) (by omega)) (fun _ => ⟨rfl, Fr.rf, hR0⟩)
    · rw [bI_neg hd]
      refine bX10_down_18 x1 0 σ (fun _ => ?_) (fun q => absurd rfl q)
      have hcl := clr 27 σ
      rw [e1]
      refine (tX3_bringDown d 27 law (by omega) (sX3_clearTallies 27 σ) rfl h (fun c hc => by rw [hcl.2.2.2 (gr 27 3) (by decide)]; exact hcH c hc)).mono ?_
      rintro v2 s2 ⟨hv2, hF2, h1, h2, h3, h4⟩
      rw [hv2]
      refine bX10_down_39 s2 ⟨_, rfl, ?_⟩
      have hF : Fr [27, 28, 106, 107] [32, 33, 34] σ s2 := ((clrF (by decide) (by decide)).tr hF2).mono (by decide) (by decide)
      rw [h2, hcl.1, Int32.zero_add]
      refine Ct.of mX11_down.1 (Nat.le_of_ble_eq_true rfl) (bX11_down_0 (nI law) s2 (fun _ => ?_) (fun a => ?_))
      · have e106 : s2.1 106 = σ.1 106 := by rw [hF2.1 106 (by decide) (by decide), hcl.2.2.2 106 (by decide)]
        refine (tX11_greatest (d + 1) 106 s2 rfl rfl h (fun c hc => by rw [e106]; exact ⟨(hh c hc).2.1, hb c hc⟩)).mono ?_
        rintro v3 s3 ⟨hv3, hs3⟩
        rw [hv3, hs3]
        refine bX11_down_19 (nI law) _ s2 (fun _ => (tX11_copies (d + 1) s2).mono ?_) (fun q => absurd ((nI_ltI (b := 3) (by omega) (by decide)).mp q) (by omega))
        rintro v4 s4 ⟨hv4, hF4, c1, c2, c3, c4⟩
        rw [hv4]
        refine bX11_down_30 (nI law) s4 ((tX11_rowDown d law (by omega) s4 h (fun c hc => by rw [c1 c hc, e106]; exact ⟨(hh c hc).2.1, hb c hc⟩)).mono ?_)
        rintro v5 s5 ⟨hv5, hF5, m1, m2, m3, m4⟩
        rw [hv5]
        refine bX11_down_35 s5 ?_
        have hF5' : Fr [27, 28, 106, 107] [32, 33, 34] σ s5 := hF.tr ((hF4.tr hF5).mono (by decide) (by decide))
        have e28 : s5.1 28 = s2.1 28 := by rw [hF5.1 28 (by decide) (by decide), hF4.1 28 (by decide) (by decide)]
        refine loopI1 (fun x s => Run MX11_down (d + 2) 37 [some (.ref 88), none, some (.int x)] [] s _) (fun k s => Fr [106] [] s5 s ∧ ∀ c, c < k → s.1 106 c = s5.1 107 c) 12 ?_ ?_ 0 s5 (by decide) ⟨Fr.rf, fun c hc => absurd hc (Nat.not_lt_zero c)⟩
        · intro s hs
          refine bX11_down_37 (nI 12) s (fun q => absurd q (by decide)) (fun _ => ⟨?_, hF5'.tr (hs.1.mono (by decide) (by decide)), hpH law (gT (gst h 12)) h, fun c hc => ⟨?_, ?_, hpH_le (by have := gT_le (gst h 12); omega) hb hc⟩⟩) (fun q => absurd q (by decide))
          · rw [hs.1.2.1 32 (by decide), m2, c2, Int32.zero_add]
          · rw [hs.1.1 28 (by decide) (by decide), e28]; exact h1 c hc
          · rw [hs.2 c hc]; exact m1 c hc
        · intro k s hk hs ih
          refine bX11_down_37 (nI k) s (fun _ => vp_in_nI hk (by decide)) (fun q => absurd q (nI_ge hk (by decide))) (fun _ => ih _ ⟨hs.1.tA (by decide) (by decide), fun c hc => ?_⟩)
          rw [sA_at, nI_clamp (by omega), upd_eq, hs.1.1 107 (by decide) (by decide)]
          by_cases e : c = k
          · rw [if_pos e, e]
          · rw [if_neg e]; exact hs.2 c (by omega)
      · exfalso; rw [← e1] at a; simp only [Int32.lt_iff_toInt_lt, Int32.le_iff_toInt_le, Int64.lt_iff_toInt_lt, Int64.le_iff_toInt_le, ← Int32.toInt_inj, ← Int64.toInt_inj, Int32.toInt_toInt64, tim20, tim13, tim12, tim11, tim10, tim4, tim3, tim2, tim1, ti0, ti1, ti2, ti3, ti4, ti5, ti6, ti7, ti8, ti9, ti10, ti11, ti12, ti13, ti14, ti15, ti16, ti24, ti30, ti31, ti32, ti48, ti56, ti57, ti60, ti63, ti99, ti100, ti130, ti199, ti200, ti240, ti999, ti1000, ti20, ti21, ti22, ti23, ti65535, ti32767, ti144, tjm20, tjm13, tjm12, tjm11, tjm10, tjm4, tjm3, tjm2, tjm1, tj0, tj1, tj2, tj3, tj4, tj5, tj6, tj7, tj8, tj9, tj10, tj11, tj12, tj13, tj14, tj15, tj16, tj24, tj30, tj31, tj32, tj48, tj56, tj57, tj60, tj63, tj99, tj100, tj130, tj199, tj200, tj240, tj999, tj1000, tj20, tj21, tj22, tj23, tj65535, tj32767, tj144] at a; omega
  · have bad : Ct yX11_down MX11_down (d + 2) [.ref 88, .int x1] σ (fun v2 σ2 => v2 = some (.int (-1)) ∧ Fr [27, 28, 106, 107] [32, 33, 34] σ σ2 ∧ RH σ2) :=
      Ct.of mX11_down.1 (Nat.le_of_ble_eq_true rfl) (bX11_down_0 x1 σ (fun a => False.elim (by simp only [Int32.lt_iff_toInt_lt, Int32.le_iff_toInt_le, Int64.lt_iff_toInt_lt, Int64.le_iff_toInt_le, ← Int32.toInt_inj, ← Int64.toInt_inj, Int32.toInt_toInt64, tim20, tim13, tim12, tim11, tim10, tim4, tim3, tim2, tim1, ti0, ti1, ti2, ti3, ti4, ti5, ti6, ti7, ti8, ti9, ti10, ti11, ti12, ti13, ti14, ti15, ti16, ti24, ti30, ti31, ti32, ti48, ti56, ti57, ti60, ti63, ti99, ti100, ti130, ti199, ti200, ti240, ti999, ti1000, ti20, ti21, ti22, ti23, ti65535, ti32767, ti144, tjm20, tjm13, tjm12, tjm11, tjm10, tjm4, tjm3, tjm2, tjm1, tj0, tj1, tj2, tj3, tj4, tj5, tj6, tj7, tj8, tj9, tj10, tj11, tj12, tj13, tj14, tj15, tj16, tj24, tj30, tj31, tj32, tj48, tj56, tj57, tj60, tj63, tj99, tj100, tj130, tj199, tj200, tj240, tj999, tj1000, tj20, tj21, tj22, tj23, tj65535, tj32767, tj144] at a; omega)) (fun _ => ⟨rfl, Fr.rf, hR0⟩))
    exact Ct.of mX10_down.1 (Nat.le_of_ble_eq_true rfl) (bX10_down_0 x1 σ (fun _ => ⟨_, rfl, bad⟩) (fun a b => False.elim (by simp only [Int32.lt_iff_toInt_lt, Int32.le_iff_toInt_le, Int64.lt_iff_toInt_lt, Int64.le_iff_toInt_le, ← Int32.toInt_inj, ← Int64.toInt_inj, Int32.toInt_toInt64, tim20, tim13, tim12, tim11, tim10, tim4, tim3, tim2, tim1, ti0, ti1, ti2, ti3, ti4, ti5, ti6, ti7, ti8, ti9, ti10, ti11, ti12, ti13, ti14, ti15, ti16, ti24, ti30, ti31, ti32, ti48, ti56, ti57, ti60, ti63, ti99, ti100, ti130, ti199, ti200, ti240, ti999, ti1000, ti20, ti21, ti22, ti23, ti65535, ti32767, ti144, tjm20, tjm13, tjm12, tjm11, tjm10, tjm4, tjm3, tjm2, tjm1, tj0, tj1, tj2, tj3, tj4, tj5, tj6, tj7, tj8, tj9, tj10, tj11, tj12, tj13, tj14, tj15, tj16, tj24, tj30, tj31, tj32, tj48, tj56, tj57, tj60, tj63, tj99, tj100, tj130, tj199, tj200, tj240, tj999, tj1000, tj20, tj21, tj22, tj23, tj65535, tj32767, tj144] at a b; omega)) (fun _ _ => ⟨_, rfl, bad⟩))
/-! down until it is done -/
theorem hp_sum (law T : Nat) (h : Nat → Nat) (n : Nat) : sm (hpH law T h) n + hpTs law T h n + hpC law T h n = sm h n := by
  unfold hpTs
  induction n with
  | zero => rfl
  | succ n ih =>
    show sm (hpH law T h) n + hpH law T h n + (sm (fun c => hpT law T (h c) (hpC law T h c)) n + hpT law T (h n) (hpC law T h n)) + (hpT law T (h n) (hpC law T h n) + hpW law T (h n) (hpC law T h n)) = sm h n + h n
    have hb : 2 * hpT law T (h n) (hpC law T h n) + hpW law T (h n) (hpC law T h n) ≤ h n + hpC law T h n := by
      unfold hpT hpW
      by_cases hl : law = 0
      · rw [if_pos hl, if_pos hl]; split <;> omega
      · rw [if_neg hl, if_neg hl]; omega
    have e : hpH law T h n = h n + hpC law T h n - 2 * hpT law T (h n) (hpC law T h n) - hpW law T (h n) (hpC law T h n) := rfl
    omega
def muD (law : Nat) (h : Nat → Nat) : Nat := if law = 0 then sm h 12 else gst h 12
theorem gst_pos {h : Nat → Nat} {b : Nat} : ∀ {n : Nat}, b < gst h n → ∃ c, c < n ∧ b < h c
  | 0, q => absurd q (Nat.not_lt_zero _)
  | n + 1, q => by
    have q : b < max (gst h n) (h n) := q
    by_cases e : b < h n
    · exact ⟨n, by omega, e⟩
    · obtain ⟨c, h1, h2⟩ := gst_pos (h := h) (b := b) (n := n) (by omega)
      exact ⟨c, by omega, h2⟩
theorem le_sm {h : Nat → Nat} : ∀ {n c : Nat}, c < n → h c ≤ sm h n
  | n + 1, c, q => by
    show h c ≤ sm h n + h n
    by_cases e : c = n
    · subst e; omega
    · have := le_sm (h := h) (n := n) (c := c) (by omega); omega
theorem muD_dec {law : Nat} {h : Nat → Nat} (hb : ∀ c, c < 12 → h c ≤ 12) (hg : ¬ gst h 12 ≤ 2) : muD law (hpH law (gT (gst h 12)) h) < muD law h := by
  unfold muD
  by_cases hl : law = 0
  · rw [if_pos hl, if_pos hl]
    have h1 := hp_sum law (gT (gst h 12)) h 12
    obtain ⟨c, hc, h2⟩ := gst_pos (h := h) (b := 2) (n := 12) (by omega)
    have h3 : hpT law (gT (gst h 12)) (h c) (hpC law (gT (gst h 12)) h c) ≤ hpTs law (gT (gst h 12)) h 12 := le_sm (h := fun c => hpT law (gT (gst h 12)) (h c) (hpC law (gT (gst h 12)) h c)) hc
    have h4 : hpT law (gT (gst h 12)) (h c) (hpC law (gT (gst h 12)) h c) = h c / 3 := by unfold hpT; rw [if_pos hl]
    omega
  · rw [if_neg hl, if_neg hl]
    have hgl := gst_le (h := h) (b := 12) (n := 12) hb
    have h1 : gst (hpH law (gT (gst h 12)) h) 12 ≤ gT (gst h 12) := gst_le (fun c hc => by
      unfold hpH hpT hpW; rw [if_neg hl, if_neg hl]; omega)
    have h2 : gT (gst h 12) < gst h 12 := by
      generalize gst h 12 = g at *
      unfold gT
      split
      · omega
      · split
        · omega
        · split
          · omega
          · split <;> omega
    omega
def dn (law : Nat) : Nat → (Nat → Nat) → Nat × Nat × Nat × Nat
  | 0, _ => (0, 0, 0, 0)
  | f + 1, h => if gst h 12 ≤ 2 then (0, 0, 0, 0) else
    ((dn law f (hpH law (gT (gst h 12)) h)).1 + 1, hpTs law (gT (gst h 12)) h 12 + (dn law f (hpH law (gT (gst h 12)) h)).2.1, hpWs law (gT (gst h 12)) h 12 + (dn law f (hpH law (gT (gst h 12)) h)).2.2.1, hpC law (gT (gst h 12)) h 12 + (dn law f (hpH law (gT (gst h 12)) h)).2.2.2)
def selW (x a b c e : Int32) : Int32 := if x = 0 then a else if x = 1 then b else if x = 2 then c else e
theorem gst_mu {law : Nat} {h : Nat → Nat} : gst h 12 ≤ muD law h := by
  unfold muD; split
  · exact gst_le (fun c hc => le_sm hc)
  · exact Nat.le_refl _
theorem mu_le {law : Nat} {h : Nat → Nat} (hb : ∀ c, c < 12 → h c ≤ 12) : muD law h ≤ 144 := by
  unfold muD; split
  · have := sm_le (h := h) (b := 12) (n := 12) hb; omega
  · have := gst_le (h := h) (b := 12) (n := 12) hb; omega
theorem loopC (d law : Nat) (hl : law ≤ 1) (x2 : Int32) (hx2 : 0 ≤ x2.toInt ∧ x2.toInt < 4) (Q : Option Value → St → Prop) : ∀ (f : Nat) (h : Nat → Nat) (r : Nat) (s : St), muD law h ≤ f → (∀ c, c < 12 → h c ≤ 12) → cH 29 s h → r + muD law h ≤ 144 →
    (∀ s', Fr [29, 30] [] s s' → Q (some (.int (selW x2 (nI (r + (dn law f h).1)) (s.1 29 0 + nI (dn law f h).2.1) (s.1 29 1 + nI (dn law f h).2.2.1) (s.1 29 2 + nI (dn law f h).2.2.2)))) s') →
    Run MX10_downs (d + 5) 53 [some (.ref 0), some (.int (nI law)), some (.int x2), some (.int (nI r))] [] s Q := by
  intro f
  induction f with
  | zero =>
    intro h r s hm hb hc hr hQ
    have hg : gst h 12 ≤ 2 := by have := gst_mu (law := law) (h := h); omega
    have e : selW x2 (nI (r + (dn law 0 h).1)) (s.1 29 0 + nI (dn law 0 h).2.1) (s.1 29 1 + nI (dn law 0 h).2.2.1) (s.1 29 2 + nI (dn law 0 h).2.2.2) = selW x2 (nI r) (s.1 29 0) (s.1 29 1) (s.1 29 2) := by
      show selW x2 (nI (r + 0)) (s.1 29 0 + 0) (s.1 29 1 + 0) (s.1 29 2 + 0) = _
      simp
    rw [e] at hQ
    have fin := hQ s Fr.rf
    have c0 : x2 = 0 → Q (some (.int (nI r))) s := fun q => by rw [show selW x2 (nI r) (s.1 29 0) (s.1 29 1) (s.1 29 2) = nI r by unfold selW; rw [if_pos q]] at fin; exact fin
    have c1 : x2 = 1 → Q (some (.int (s.1 29 0))) s := fun q => by rw [show selW x2 (nI r) (s.1 29 0) (s.1 29 1) (s.1 29 2) = s.1 29 0 by unfold selW; rw [if_neg (by rw [q]; decide), if_pos q]] at fin; exact fin
    have c2 : x2 = 2 → Q (some (.int (s.1 29 1))) s := fun q => by rw [show selW x2 (nI r) (s.1 29 0) (s.1 29 1) (s.1 29 2) = s.1 29 1 by unfold selW; rw [if_neg (by rw [q]; decide), if_neg (by rw [q]; decide), if_pos q]] at fin; exact fin
    have c3 : (x2.toInt < 0 ∨ 2 < x2.toInt) → Q (some (.int (s.1 29 2))) s := fun q => by rw [show selW x2 (nI r) (s.1 29 0) (s.1 29 1) (s.1 29 2) = s.1 29 2 by unfold selW; rw [if_neg (by intro e; rw [e, ti0] at q; omega), if_neg (by intro e; rw [e, ti1] at q; omega), if_neg (by intro e; rw [e, ti2] at q; omega)]] at fin; exact fin
    refine bX10_downs_53 (nI law) x2 (nI r) s (fun _ => c0) (fun _ => c1) (fun _ => c2) (fun _ => c3) (fun _ => (tX3_done (d + 2) 29 s rfl h hc).mono ?_)
    rintro v1 s1 ⟨hv, hs⟩
    rw [hv, hs, bI_pos hg]
    exact bX10_downs_67 (nI law) x2 (nI r) 1 s (fun _ => c0) (fun _ => c1) (fun _ => c2) (fun _ => c3) (fun q => absurd q (by decide))
  | succ f ih =>
    intro h r s hm hb hc hr hQ
    by_cases hg : gst h 12 ≤ 2
    · have e : selW x2 (nI (r + (dn law (f + 1) h).1)) (s.1 29 0 + nI (dn law (f + 1) h).2.1) (s.1 29 1 + nI (dn law (f + 1) h).2.2.1) (s.1 29 2 + nI (dn law (f + 1) h).2.2.2) = selW x2 (nI r) (s.1 29 0) (s.1 29 1) (s.1 29 2) := by
        have : dn law (f + 1) h = (0, 0, 0, 0) := by unfold dn; rw [if_pos hg]
        rw [this]
        show selW x2 (nI (r + 0)) (s.1 29 0 + 0) (s.1 29 1 + 0) (s.1 29 2 + 0) = _
        simp
      rw [e] at hQ
      have fin := hQ s Fr.rf
      have c0 : x2 = 0 → Q (some (.int (nI r))) s := fun q => by rw [show selW x2 (nI r) (s.1 29 0) (s.1 29 1) (s.1 29 2) = nI r by unfold selW; rw [if_pos q]] at fin; exact fin
      have c1 : x2 = 1 → Q (some (.int (s.1 29 0))) s := fun q => by rw [show selW x2 (nI r) (s.1 29 0) (s.1 29 1) (s.1 29 2) = s.1 29 0 by unfold selW; rw [if_neg (by rw [q]; decide), if_pos q]] at fin; exact fin
      have c2 : x2 = 2 → Q (some (.int (s.1 29 1))) s := fun q => by rw [show selW x2 (nI r) (s.1 29 0) (s.1 29 1) (s.1 29 2) = s.1 29 1 by unfold selW; rw [if_neg (by rw [q]; decide), if_neg (by rw [q]; decide), if_pos q]] at fin; exact fin
      have c3 : (x2.toInt < 0 ∨ 2 < x2.toInt) → Q (some (.int (s.1 29 2))) s := fun q => by rw [show selW x2 (nI r) (s.1 29 0) (s.1 29 1) (s.1 29 2) = s.1 29 2 by unfold selW; rw [if_neg (by intro e; rw [e, ti0] at q; omega), if_neg (by intro e; rw [e, ti1] at q; omega), if_neg (by intro e; rw [e, ti2] at q; omega)]] at fin; exact fin
      refine bX10_downs_53 (nI law) x2 (nI r) s (fun _ => c0) (fun _ => c1) (fun _ => c2) (fun _ => c3) (fun _ => (tX3_done (d + 2) 29 s rfl h hc).mono ?_)
      rintro v1 s1 ⟨hv, hs⟩
      rw [hv, hs, bI_pos hg]
      exact bX10_downs_67 (nI law) x2 (nI r) 1 s (fun _ => c0) (fun _ => c1) (fun _ => c2) (fun _ => c3) (fun q => absurd q (by decide))
    · have hmu := muD_dec (law := law) hb hg
      have hgm := gst_mu (law := law) (h := h)
      have hr144 : ¬ (144 : Int32) ≤ nI r := nI_ge (b := 144) (by omega) (by decide)
      refine bX10_downs_53 (nI law) x2 (nI r) s (fun q => absurd q hr144) (fun q => absurd q hr144) (fun q => absurd q hr144) (fun q => absurd q hr144) (fun _ => (tX3_done (d + 2) 29 s rfl h hc).mono ?_)
      rintro v1 s1 ⟨hv, hs⟩
      rw [hv, hs, bI_neg hg]
      refine bX10_downs_67 (nI law) x2 (nI r) 0 s (fun q => absurd rfl q) (fun q => absurd rfl q) (fun q => absurd rfl q) (fun q => absurd rfl q) (fun _ => (tX3_bringDown d 29 law hl s rfl h hc).mono ?_)
      rintro v2 s2 ⟨hv2, hF2, h1, h2, h3, h4⟩
      rw [hv2]
      refine bX10_downs_78 (nI law) x2 (nI r) s2 ?_
      rw [nI_1]
      have hb2 : ∀ c, c < 12 → hpH law (gT (gst h 12)) h c ≤ 12 := fun c hc => hpH_le (by have := gT_le (gst h 12); omega) hb hc
      refine ih (hpH law (gT (gst h 12)) h) (r + 1) s2 (by omega) hb2 (fun c hc => ⟨h1 c hc, hb2 c hc⟩) (by omega) (fun s' hF' => ?_)
      have := hQ s' (hF2.tr hF')
      have e : dn law (f + 1) h = ((dn law f (hpH law (gT (gst h 12)) h)).1 + 1, hpTs law (gT (gst h 12)) h 12 + (dn law f (hpH law (gT (gst h 12)) h)).2.1, hpWs law (gT (gst h 12)) h 12 + (dn law f (hpH law (gT (gst h 12)) h)).2.2.1, hpC law (gT (gst h 12)) h 12 + (dn law f (hpH law (gT (gst h 12)) h)).2.2.2) := by
        show (if gst h 12 ≤ 2 then _ else _) = _
        rw [if_neg hg]
      rw [e] at this
      rw [h2, h3, h4, Int32.add_assoc, Int32.add_assoc, Int32.add_assoc, nI_add, nI_add, nI_add, show r + 1 + (dn law f (hpH law (gT (gst h 12)) h)).1 = r + ((dn law f (hpH law (gT (gst h 12)) h)).1 + 1) by omega]
      exact this
theorem loopR (d law : Nat) (hl : law ≤ 1) (x2 : Int32) (Q : Option Value → St → Prop) : ∀ (f : Nat) (h : Nat → Nat) (r : Nat) (s : St), muD law h ≤ f → (∀ c, c < 12 → h c ≤ 12) → rH 107 s h →
    (∀ s', Fr [107] [32, 33, 34] s s' → Q (some (.int (selW x2 (nI (r + (dn law f h).1)) (s.1 88 32 + nI (dn law f h).2.1) (s.1 88 33 + nI (dn law f h).2.2.1) (s.1 88 34 + nI (dn law f h).2.2.2)))) s') →
    Run MX11_downs (d + 2) 44 [some (.ref 88), some (.int (nI law)), some (.int x2), some (.int (nI r))] [] s Q := by
  intro f
  induction f with
  | zero =>
    intro h r s hm hb hc hQ
    have hg : gst h 12 ≤ 2 := by have := gst_mu (law := law) (h := h); omega
    refine bX11_downs_44 (nI law) x2 (nI r) s ((tX11_greatest (d + 1) 107 s rfl rfl h hc).mono ?_)
    rintro v1 s1 ⟨hv, hs⟩
    rw [hv, hs]
    refine bX11_downs_51 (nI law) x2 (nI r) _ s (fun _ => ?_) (fun q => absurd ((nI_ltI (a := 2) (by decide) (by omega)).mp q) (by omega))
    have := hQ s Fr.rf
    have e : selW x2 (nI (r + (dn law 0 h).1)) (s.1 88 32 + nI (dn law 0 h).2.1) (s.1 88 33 + nI (dn law 0 h).2.2.1) (s.1 88 34 + nI (dn law 0 h).2.2.2) = selW x2 (nI r) (s.1 88 32) (s.1 88 33) (s.1 88 34) := by
      show selW x2 (nI (r + 0)) (s.1 88 32 + 0) (s.1 88 33 + 0) (s.1 88 34 + 0) = _
      simp
    rw [e] at this
    exact this
  | succ f ih =>
    intro h r s hm hb hc hQ
    have hgl := gst_le (h := h) (b := 12) (n := 12) hb
    refine bX11_downs_44 (nI law) x2 (nI r) s ((tX11_greatest (d + 1) 107 s rfl rfl h hc).mono ?_)
    rintro v1 s1 ⟨hv, hs⟩
    rw [hv, hs]
    by_cases hg : gst h 12 ≤ 2
    · refine bX11_downs_51 (nI law) x2 (nI r) _ s (fun _ => ?_) (fun q => absurd ((nI_ltI (a := 2) (by decide) (by omega)).mp q) (by omega))
      have := hQ s Fr.rf
      have e : selW x2 (nI (r + (dn law (f + 1) h).1)) (s.1 88 32 + nI (dn law (f + 1) h).2.1) (s.1 88 33 + nI (dn law (f + 1) h).2.2.1) (s.1 88 34 + nI (dn law (f + 1) h).2.2.2) = selW x2 (nI r) (s.1 88 32) (s.1 88 33) (s.1 88 34) := by
        have : dn law (f + 1) h = (0, 0, 0, 0) := by unfold dn; rw [if_pos hg]
        rw [this]
        show selW x2 (nI (r + 0)) (s.1 88 32 + 0) (s.1 88 33 + 0) (s.1 88 34 + 0) = _
        simp
      rw [e] at this
      exact this
    · have hmu := muD_dec (law := law) hb hg
      refine bX11_downs_51 (nI law) x2 (nI r) _ s (fun q => absurd ((nI_leI (b := 2) (by omega) (by decide)).mp q) hg) (fun _ => (tX11_rowDown d law hl s h hc).mono ?_)
      rintro v2 s2 ⟨hv2, hF2, h1, h2, h3, h4⟩
      rw [hv2]
      refine bX11_downs_60 (nI law) x2 (nI r) s2 ?_
      rw [nI_1]
      have hb2 : ∀ c, c < 12 → hpH law (gT (gst h 12)) h c ≤ 12 := fun c hc => hpH_le (by have := gT_le (gst h 12); omega) hb hc
      refine ih (hpH law (gT (gst h 12)) h) (r + 1) s2 (by omega) hb2 (fun c hc => ⟨h1 c hc, hb2 c hc⟩) (fun s' hF' => ?_)
      have := hQ s' (hF2.tr hF')
      have e : dn law (f + 1) h = ((dn law f (hpH law (gT (gst h 12)) h)).1 + 1, hpTs law (gT (gst h 12)) h 12 + (dn law f (hpH law (gT (gst h 12)) h)).2.1, hpWs law (gT (gst h 12)) h 12 + (dn law f (hpH law (gT (gst h 12)) h)).2.2.1, hpC law (gT (gst h 12)) h 12 + (dn law f (hpH law (gT (gst h 12)) h)).2.2.2) := by
        show (if gst h 12 ≤ 2 then _ else _) = _
        rw [if_neg hg]
      rw [e] at this
      rw [h2, h3, h4, Int32.add_assoc, Int32.add_assoc, Int32.add_assoc, nI_add, nI_add, nI_add, show r + 1 + (dn law f (hpH law (gT (gst h 12)) h)).1 = r + ((dn law f (hpH law (gT (gst h 12)) h)).1 + 1) by omega]
      exact this
theorem pub_downs (d : Nat) (x1 x2 : Int32) (σ : St) (hR : RH σ) : PB yX10_downs MX10_downs (d + 5) yX11_downs MX11_downs (d + 2) [.int x1, .int x2] σ [29, 30, 107] [32, 33, 34] RH := by
  have hR0 := hR
  obtain ⟨h, hh⟩ := hR
  have hb : ∀ c, c < 12 → h c ≤ 12 := fun c hc => (hh c hc).2.2
  have hcH : cH 27 σ h := fun c hc => ⟨(hh c hc).1, (hh c hc).2.2⟩
  have hgl : gst h 12 ≤ 12 := gst_le hb
  have keep : ∀ {s : St}, Fr [29, 30, 107] [32, 33, 34] σ s → RH s := fun {s} hF => ⟨h, fun c hc => by rw [hF.1 28 (by decide) (by decide), hF.1 106 (by decide) (by decide)]; exact hh c hc⟩
  by_cases hg : 0 ≤ x1.toInt ∧ x1.toInt < (2 : Nat) ∧ 0 ≤ x2.toInt ∧ x2.toInt < 4
  · obtain ⟨law, hl, e1⟩ := ofI hg.1 hg.2.1 (by decide)
    refine Ct.of mX10_downs.1 (Nat.le_of_ble_eq_true rfl) (bX10_downs_0 x1 x2 σ (fun a => False.elim (by simp only [Int32.lt_iff_toInt_lt, Int32.le_iff_toInt_le, Int64.lt_iff_toInt_lt, Int64.le_iff_toInt_le, ← Int32.toInt_inj, ← Int64.toInt_inj, Int32.toInt_toInt64, tim20, tim13, tim12, tim11, tim10, tim4, tim3, tim2, tim1, ti0, ti1, ti2, ti3, ti4, ti5, ti6, ti7, ti8, ti9, ti10, ti11, ti12, ti13, ti14, ti15, ti16, ti24, ti30, ti31, ti32, ti48, ti56, ti57, ti60, ti63, ti99, ti100, ti130, ti199, ti200, ti240, ti999, ti1000, ti20, ti21, ti22, ti23, ti65535, ti32767, ti144, tjm20, tjm13, tjm12, tjm11, tjm10, tjm4, tjm3, tjm2, tjm1, tj0, tj1, tj2, tj3, tj4, tj5, tj6, tj7, tj8, tj9, tj10, tj11, tj12, tj13, tj14, tj15, tj16, tj24, tj30, tj31, tj32, tj48, tj56, tj57, tj60, tj63, tj99, tj100, tj130, tj199, tj200, tj240, tj999, tj1000, tj20, tj21, tj22, tj23, tj65535, tj32767, tj144] at a; omega)) (fun a b => False.elim (by simp only [Int32.lt_iff_toInt_lt, Int32.le_iff_toInt_le, Int64.lt_iff_toInt_lt, Int64.le_iff_toInt_le, ← Int32.toInt_inj, ← Int64.toInt_inj, Int32.toInt_toInt64, tim20, tim13, tim12, tim11, tim10, tim4, tim3, tim2, tim1, ti0, ti1, ti2, ti3, ti4, ti5, ti6, ti7, ti8, ti9, ti10, ti11, ti12, ti13, ti14, ti15, ti16, ti24, ti30, ti31, ti32, ti48, ti56, ti57, ti60, ti63, ti99, ti100, ti130, ti199, ti200, ti240, ti999, ti1000, ti20, ti21, ti22, ti23, ti65535, ti32767, ti144, tjm20, tjm13, tjm12, tjm11, tjm10, tjm4, tjm3, tjm2, tjm1, tj0, tj1, tj2, tj3, tj4, tj5, tj6, tj7, tj8, tj9, tj10, tj11, tj12, tj13, tj14, tj15, tj16, tj24, tj30, tj31, tj32, tj48, tj56, tj57, tj60, tj63, tj99, tj100, tj130, tj199, tj200, tj240, tj999, tj1000, tj20, tj21, tj22, tj23, tj65535, tj32767, tj144] at a b; omega)) (fun a b c => False.elim (by simp only [Int32.lt_iff_toInt_lt, Int32.le_iff_toInt_le, Int64.lt_iff_toInt_lt, Int64.le_iff_toInt_le, ← Int32.toInt_inj, ← Int64.toInt_inj, Int32.toInt_toInt64, tim20, tim13, tim12, tim11, tim10, tim4, tim3, tim2, tim1, ti0, ti1, ti2, ti3, ti4, ti5, ti6, ti7, ti8, ti9, ti10, ti11, ti12, ti13, ti14, ti15, ti16, ti24, ti30, ti31, ti32, ti48, ti56, ti57, ti60, ti63, ti99, ti100, ti130, ti199, ti200, ti240, ti999, ti1000, ti20, ti21, ti22, ti23, ti65535, ti32767, ti144, tjm20, tjm13, tjm12, tjm11, tjm10, tjm4, tjm3, tjm2, tjm1, tj0, tj1, tj2, tj3, tj4, tj5, tj6, tj7, tj8, tj9, tj10, tj11, tj12, tj13, tj14, tj15, tj16, tj24, tj30, tj31, tj32, tj48, tj56, tj57, tj60, tj63, tj99, tj100, tj130, tj199, tj200, tj240, tj999, tj1000, tj20, tj21, tj22, tj23, tj65535, tj32767, tj144] at a b c; omega)) (fun _ _ _ _ => (tX3_done (d + 2) 27 σ rfl h hcH).mono ?_) (fun a b c e => False.elim (by simp only [Int32.lt_iff_toInt_lt, Int32.le_iff_toInt_le, Int64.lt_iff_toInt_lt, Int64.le_iff_toInt_le, ← Int32.toInt_inj, ← Int64.toInt_inj, Int32.toInt_toInt64, tim20, tim13, tim12, tim11, tim10, tim4, tim3, tim2, tim1, ti0, ti1, ti2, ti3, ti4, ti5, ti6, ti7, ti8, ti9, ti10, ti11, ti12, ti13, ti14, ti15, ti16, ti24, ti30, ti31, ti32, ti48, ti56, ti57, ti60, ti63, ti99, ti100, ti130, ti199, ti200, ti240, ti999, ti1000, ti20, ti21, ti22, ti23, ti65535, ti32767, ti144, tjm20, tjm13, tjm12, tjm11, tjm10, tjm4, tjm3, tjm2, tjm1, tj0, tj1, tj2, tj3, tj4, tj5, tj6, tj7, tj8, tj9, tj10, tj11, tj12, tj13, tj14, tj15, tj16, tj24, tj30, tj31, tj32, tj48, tj56, tj57, tj60, tj63, tj99, tj100, tj130, tj199, tj200, tj240, tj999, tj1000, tj20, tj21, tj22, tj23, tj65535, tj32767, tj144] at a b c e; omega)))
    rintro v1 s1 ⟨hv, hs⟩
    rw [hv, hs]
    by_cases hd : gst h 12 ≤ 2
    · rw [bI_pos hd]
      refine bX10_downs_27 x1 x2 1 σ (fun q => absurd q (by decide)) (fun _ => ⟨_, rfl, ?_⟩)
      refine Ct.of mX11_downs.1 (Nat.le_of_ble_eq_true rfl) (bX11_downs_0 x1 x2 σ (fun a => False.elim (by simp only [Int32.lt_iff_toInt_lt, Int32.le_iff_toInt_le, Int64.lt_iff_toInt_lt, Int64.le_iff_toInt_le, ← Int32.toInt_inj, ← Int64.toInt_inj, Int32.toInt_toInt64, tim20, tim13, tim12, tim11, tim10, tim4, tim3, tim2, tim1, ti0, ti1, ti2, ti3, ti4, ti5, ti6, ti7, ti8, ti9, ti10, ti11, ti12, ti13, ti14, ti15, ti16, ti24, ti30, ti31, ti32, ti48, ti56, ti57, ti60, ti63, ti99, ti100, ti130, ti199, ti200, ti240, ti999, ti1000, ti20, ti21, ti22, ti23, ti65535, ti32767, ti144, tjm20, tjm13, tjm12, tjm11, tjm10, tjm4, tjm3, tjm2, tjm1, tj0, tj1, tj2, tj3, tj4, tj5, tj6, tj7, tj8, tj9, tj10, tj11, tj12, tj13, tj14, tj15, tj16, tj24, tj30, tj31, tj32, tj48, tj56, tj57, tj60, tj63, tj99, tj100, tj130, tj199, tj200, tj240, tj999, tj1000, tj20, tj21, tj22, tj23, tj65535, tj32767, tj144] at a; omega)) (fun _ _ => (tX11_greatest (d + 1) 106 σ rfl rfl h (fun c hc => ⟨(hh c hc).2.1, hb c hc⟩)).mono ?_) (fun a b => False.elim (by simp only [Int32.lt_iff_toInt_lt, Int32.le_iff_toInt_le, Int64.lt_iff_toInt_lt, Int64.le_iff_toInt_le, ← Int32.toInt_inj, ← Int64.toInt_inj, Int32.toInt_toInt64, tim20, tim13, tim12, tim11, tim10, tim4, tim3, tim2, tim1, ti0, ti1, ti2, ti3, ti4, ti5, ti6, ti7, ti8, ti9, ti10, ti11, ti12, ti13, ti14, ti15, ti16, ti24, ti30, ti31, ti32, ti48, ti56, ti57, ti60, ti63, ti99, ti100, ti130, ti199, ti200, ti240, ti999, ti1000, ti20, ti21, ti22, ti23, ti65535, ti32767, ti144, tjm20, tjm13, tjm12, tjm11, tjm10, tjm4, tjm3, tjm2, tjm1, tj0, tj1, tj2, tj3, tj4, tj5, tj6, tj7, tj8, tj9, tj10, tj11, tj12, tj13, tj14, tj15, tj16, tj24, tj30, tj31, tj32, tj48, tj56, tj57, tj60, tj63, tj99, tj100, tj130, tj199, tj200, tj240, tj999, tj1000, tj20, tj21, tj22, tj23, tj65535, tj32767, tj144] at a b; omega)))
      rintro v2 s2 ⟨hv2, hs2⟩
      rw [hv2, hs2]
      exact bX11_downs_31 x1 x2 _ σ (fun q => absurd ((nI_leI (a := 3) (by decide) (by omega)).mp q) (by omega)) (fun _ => ⟨rfl, Fr.rf, hR0⟩)
    · rw [bI_neg hd]
      refine bX10_downs_27 x1 x2 0 σ (fun _ => (tX3_copy (d + 2) 29 27 σ rfl rfl (by decide)).mono ?_) (fun q => absurd rfl q)
      rintro v2 s2 ⟨hv2, hF2, hcp⟩
      rw [hv2]
      refine bX10_downs_44 x1 x2 s2 ?_
      have hcl := clr 29 s2
      rw [e1]
      refine loopC d law (by omega) x2 hg.2.2 _ 144 h 0 _ (mu_le hb) hb (fun c hc => by rw [hcl.2.2.2 (gr 29 3) (by decide), hcp c hc]; exact hcH c hc) (by have := mu_le (law := law) hb; omega) (fun s' hF' => ⟨_, rfl, ?_⟩)
      have hF : Fr [29, 30, 107] [32, 33, 34] σ s' := (hF2.mono (by decide) (by decide)).tr (((clrF (S := [29, 30, 107]) (by decide) (by decide)).mono (fun _ h => h) (by decide)).tr (hF'.mono (by decide) (by decide)))
      rw [hcl.1, hcl.2.1, hcl.2.2.1]
      refine Ct.of mX11_downs.1 (Nat.le_of_ble_eq_true rfl) (bX11_downs_0 (nI law) x2 s' (fun a => ?_) (fun _ _ => ?_) (fun a b => ?_))
      · exfalso; rw [← e1] at a; simp only [Int32.lt_iff_toInt_lt, Int32.le_iff_toInt_le, Int64.lt_iff_toInt_lt, Int64.le_iff_toInt_le, ← Int32.toInt_inj, ← Int64.toInt_inj, Int32.toInt_toInt64, tim20, tim13, tim12, tim11, tim10, tim4, tim3, tim2, tim1, ti0, ti1, ti2, ti3, ti4, ti5, ti6, ti7, ti8, ti9, ti10, ti11, ti12, ti13, ti14, ti15, ti16, ti24, ti30, ti31, ti32, ti48, ti56, ti57, ti60, ti63, ti99, ti100, ti130, ti199, ti200, ti240, ti999, ti1000, ti20, ti21, ti22, ti23, ti65535, ti32767, ti144, tjm20, tjm13, tjm12, tjm11, tjm10, tjm4, tjm3, tjm2, tjm1, tj0, tj1, tj2, tj3, tj4, tj5, tj6, tj7, tj8, tj9, tj10, tj11, tj12, tj13, tj14, tj15, tj16, tj24, tj30, tj31, tj32, tj48, tj56, tj57, tj60, tj63, tj99, tj100, tj130, tj199, tj200, tj240, tj999, tj1000, tj20, tj21, tj22, tj23, tj65535, tj32767, tj144] at a; omega
      · refine (tX11_greatest (d + 1) 106 s' rfl rfl h (fun c hc => by rw [hF.1 106 (by decide) (by decide)]; exact ⟨(hh c hc).2.1, hb c hc⟩)).mono ?_
        rintro v3 s3 ⟨hv3, hs3⟩
        rw [hv3, hs3]
        refine bX11_downs_31 (nI law) x2 _ s' (fun _ => (tX11_copies (d + 1) s').mono ?_) (fun q => absurd ((nI_ltI (b := 3) (by omega) (by decide)).mp q) (by omega))
        rintro v4 s4 ⟨hv4, hF4, c1, c2, c3, c4⟩
        rw [hv4]
        refine bX11_downs_42 (nI law) x2 s4 ?_
        refine loopR d law (by omega) x2 _ 144 h 0 s4 (mu_le hb) hb (fun c hc => by rw [c1 c hc, hF.1 106 (by decide) (by decide)]; exact ⟨(hh c hc).2.1, hb c hc⟩) (fun s5 hF5 => ?_)
        have hF6 : Fr [29, 30, 107] [32, 33, 34] σ s5 := hF.tr ((hF4.tr hF5).mono (by decide) (by decide))
        exact ⟨by rw [c2, c3, c4], hF6, keep hF6⟩
      · exfalso; simp only [Int32.lt_iff_toInt_lt, Int32.le_iff_toInt_le, Int64.lt_iff_toInt_lt, Int64.le_iff_toInt_le, ← Int32.toInt_inj, ← Int64.toInt_inj, Int32.toInt_toInt64, tim20, tim13, tim12, tim11, tim10, tim4, tim3, tim2, tim1, ti0, ti1, ti2, ti3, ti4, ti5, ti6, ti7, ti8, ti9, ti10, ti11, ti12, ti13, ti14, ti15, ti16, ti24, ti30, ti31, ti32, ti48, ti56, ti57, ti60, ti63, ti99, ti100, ti130, ti199, ti200, ti240, ti999, ti1000, ti20, ti21, ti22, ti23, ti65535, ti32767, ti144, tjm20, tjm13, tjm12, tjm11, tjm10, tjm4, tjm3, tjm2, tjm1, tj0, tj1, tj2, tj3, tj4, tj5, tj6, tj7, tj8, tj9, tj10, tj11, tj12, tj13, tj14, tj15, tj16, tj24, tj30, tj31, tj32, tj48, tj56, tj57, tj60, tj63, tj99, tj100, tj130, tj199, tj200, tj240, tj999, tj1000, tj20, tj21, tj22, tj23, tj65535, tj32767, tj144] at b; omega
  · have bad : Ct yX11_downs MX11_downs (d + 2) [.ref 88, .int x1, .int x2] σ (fun v2 σ2 => v2 = some (.int (-1)) ∧ Fr [29, 30, 107] [32, 33, 34] σ σ2 ∧ RH σ2) :=
      Ct.of mX11_downs.1 (Nat.le_of_ble_eq_true rfl) (bX11_downs_0 x1 x2 σ (fun _ => ⟨rfl, Fr.rf, hR0⟩) (fun a b => False.elim (by simp only [Int32.lt_iff_toInt_lt, Int32.le_iff_toInt_le, Int64.lt_iff_toInt_lt, Int64.le_iff_toInt_le, ← Int32.toInt_inj, ← Int64.toInt_inj, Int32.toInt_toInt64, tim20, tim13, tim12, tim11, tim10, tim4, tim3, tim2, tim1, ti0, ti1, ti2, ti3, ti4, ti5, ti6, ti7, ti8, ti9, ti10, ti11, ti12, ti13, ti14, ti15, ti16, ti24, ti30, ti31, ti32, ti48, ti56, ti57, ti60, ti63, ti99, ti100, ti130, ti199, ti200, ti240, ti999, ti1000, ti20, ti21, ti22, ti23, ti65535, ti32767, ti144, tjm20, tjm13, tjm12, tjm11, tjm10, tjm4, tjm3, tjm2, tjm1, tj0, tj1, tj2, tj3, tj4, tj5, tj6, tj7, tj8, tj9, tj10, tj11, tj12, tj13, tj14, tj15, tj16, tj24, tj30, tj31, tj32, tj48, tj56, tj57, tj60, tj63, tj99, tj100, tj130, tj199, tj200, tj240, tj999, tj1000, tj20, tj21, tj22, tj23, tj65535, tj32767, tj144] at a b; omega)) (fun _ _ => ⟨rfl, Fr.rf, hR0⟩))
    exact Ct.of mX10_downs.1 (Nat.le_of_ble_eq_true rfl) (bX10_downs_0 x1 x2 σ (fun _ => ⟨_, rfl, bad⟩) (fun _ _ => ⟨_, rfl, bad⟩) (fun _ _ _ => ⟨_, rfl, bad⟩) (fun a b c e => False.elim (by simp only [Int32.lt_iff_toInt_lt, Int32.le_iff_toInt_le, Int64.lt_iff_toInt_lt, Int64.le_iff_toInt_le, ← Int32.toInt_inj, ← Int64.toInt_inj, Int32.toInt_toInt64, tim20, tim13, tim12, tim11, tim10, tim4, tim3, tim2, tim1, ti0, ti1, ti2, ti3, ti4, ti5, ti6, ti7, ti8, ti9, ti10, ti11, ti12, ti13, ti14, ti15, ti16, ti24, ti30, ti31, ti32, ti48, ti56, ti57, ti60, ti63, ti99, ti100, ti130, ti199, ti200, ti240, ti999, ti1000, ti20, ti21, ti22, ti23, ti65535, ti32767, ti144, tjm20, tjm13, tjm12, tjm11, tjm10, tjm4, tjm3, tjm2, tjm1, tj0, tj1, tj2, tj3, tj4, tj5, tj6, tj7, tj8, tj9, tj10, tj11, tj12, tj13, tj14, tj15, tj16, tj24, tj30, tj31, tj32, tj48, tj56, tj57, tj60, tj63, tj99, tj100, tj130, tj199, tj200, tj240, tj999, tj1000, tj20, tj21, tj22, tj23, tj65535, tj32767, tj144] at a b c e; omega)) (fun _ _ _ _ => ⟨_, rfl, bad⟩))
end DOWN

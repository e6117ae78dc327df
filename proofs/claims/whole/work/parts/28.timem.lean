/-! TIME in the reference -/
section TIMEM
def FT : List Nat := [16, 17, 18, 19, 20, 93, 94, 96, 97, 98]
theorem refTime (d k n D : Nat) (R : Nat → Nat) (x2 : Int32) (k8 : k < 8) (hok : okN n D R) (σ s0 : St) (c f : Int32) (T : Nat → Int32) (hF0 : Fr FT [] σ s0) (hm : mN k n D R σ) (hc : σ.1 88 4 = c) (hf : σ.1 88 5 = f) (hT : ∀ i, i < 32 → σ.1 92 i = T i) (hx : x2 = -4 ∨ ∃ i, i < n ∧ x2 = nI i) : Run MX11_time (d + 3) 36 [some (.ref 88), some (.int (nI k)), some (.int x2), some (.int 0), none, none, none] [] s0 (fun v σ' => v = some (.int (if x2 = -4 then mxT (tR c f n R T D) n else tR c f n R T D x2.toNatClampNeg)) ∧ Fr FT [] σ σ') := by
  have n32 := hok.2.1
  have n2 := hok.1
  have D32 := hok.2.2.1
  have hrow := hok.2.2.2
  have kc : (nI k).toNatClampNeg = k := nI_clamp (by omega)
  have w89 : ∀ s, Fr FT [] σ s → s.1 89 (nI k).toNatClampNeg = nI n := fun s hF => by rw [kc, hF.1 89 (by decide) (by decide)]; exact hm.1
  have w90 : ∀ s, Fr FT [] σ s → s.1 90 (nI k).toNatClampNeg = nI D := fun s hF => by rw [kc, hF.1 90 (by decide) (by decide)]; exact hm.2.1
  refine loopI1 (fun x s => Run MX11_time (d + 3) 36 [some (.ref 88), some (.int (nI k)), some (.int x2), some (.int x), none, none, none] [] s _) (fun j s => Fr FT [] σ s ∧ ∀ i, i < j → s.1 97 i = T i) 32 ?_ ?_ 0 s0 (by omega) ⟨hF0, fun i hi => absurd hi (Nat.not_lt_zero i)⟩
  · intro s ⟨hF, h1⟩
    refine bX11_time_36 (nI k) x2 (nI 32) s (fun q => absurd q (by decide)) (fun _ => ?_) (fun q => absurd q (by decide))
    refine loopI1 (fun x s => Run MX11_time (d + 3) 62 [some (.ref 88), some (.int (nI k)), some (.int x2), some (.int x), none, none, none] [] s _) (fun r s => Fr FT [] σ s ∧ ∀ i, i < n → s.1 97 i = tR c f n R T r i) D ?_ ?_ 0 s (by omega) ⟨hF, fun i hi => h1 i (by omega)⟩
    · intro s ⟨hF, h1⟩
      refine bX11_time_62 (nI k) x2 (nI D) s (vp_in_nI k8 (by decide)) (fun _ => ?_) (fun q => absurd q (by rw [w90 s hF]; exact nI_nlt (Nat.le_refl _) (by omega)))
      refine loopI1 (fun x a => Run MX11_time (d + 3) 240 [some (.ref 88), some (.int (nI k)), some (.int x2), some (.int a), some (.int x), none, none] [] s _) (fun j a => a = mxT (tR c f n R T D) j) n ?_ ?_ 0 0 (by omega) rfl
      · intro a ha
        refine bX11_time_240 (nI k) x2 a (nI n) s (vp_in_nI k8 (by decide)) (fun _ q => ?_) (fun q => absurd q (by rw [w89 s hF]; exact nI_nlt (Nat.le_refl _) (by omega))) (fun _ => ⟨?_, hF⟩) (fun q => absurd q (by rw [w89 s hF]; exact nI_nlt (Nat.le_refl _) (by omega)))
        · rcases hx with h | ⟨i, hi, h⟩
          · exact absurd h q
          · rw [h]; exact vp_in_nI (by omega) (by decide)
        · congr 2
          by_cases e : x2 = -4
          · rw [if_pos e, if_pos e, ha]
          · rw [if_neg e, if_neg e]
            rcases hx with h | ⟨i, hi, h⟩
            · exact absurd h e
            · rw [h, nI_clamp (by omega)]; exact h1 i hi
      · intro j a hj ha ih
        refine bX11_time_240 (nI k) x2 a (nI j) s (vp_in_nI k8 (by decide)) (fun q => absurd q (by rw [w89 s hF]; exact nI_ge hj (by omega))) (fun _ => vp_in_nI (by omega) (by decide)) (fun q => absurd q (by rw [w89 s hF]; exact nI_ge hj (by omega))) (fun _ => ih _ ?_)
        rw [nI_clamp (by omega), h1 j hj, ha, mx_le']; rfl
    · intro r s hr ⟨hF, h1⟩ ih
      refine bX11_time_62 (nI k) x2 (nI r) s (vp_in_nI k8 (by decide)) (fun q => absurd q (by rw [w90 s hF]; exact nI_ge hr (by omega))) (fun _ => ?_)
      refine (tX11_findTakes d k D r n R k8 hok hr s (fun q hq => by rw [hF.2.2 91 (by decide)]; exact hm.2.2 q hq)).mono ?_
      rintro v2 s2 ⟨hv2, hT2, hL2, hF2⟩
      rw [hv2]
      have okr := (hrow r hr).2
      have okr32 := okR_32 n32 okr
      refine bX11_time_78 _ _ _ s2 ?_
      refine loopI1 (fun x s => Run MX11_time (d + 3) 81 [some (.ref 88), some (.int (nI k)), some (.int x2), some (.int (nI r)), some (.int x), none, none] [] s _) (fun p s => Fr FT [] σ s ∧ rT s (R r) (lw R r) ∧ (∀ i, i < n → s.1 97 i = tR c f n R T r i) ∧ ∀ i, i < p → s.1 98 i = tR c f n R T (r + 1) i) n ?_ ?_ 0 s2 (by omega) ⟨hF.tr (hF2.mono (by decide) (by decide)), hT2, fun i hi => by rw [hF2.1 97 (by decide) (by decide)]; exact h1 i hi, fun i hi => absurd hi (Nat.not_lt_zero i)⟩
      · intro s ⟨hF, _, h1, h2⟩
        refine bX11_time_81 (nI k) x2 (nI r) (nI n) s (vp_in_nI k8 (by decide)) (fun q => absurd q (by rw [w89 s hF]; exact nI_nlt (Nat.le_refl _) (by omega))) (fun q => absurd q (by rw [w89 s hF]; exact nI_nlt (Nat.le_refl _) (by omega))) (fun _ => ?_) (fun q => absurd q (by rw [w89 s hF]; exact nI_nlt (Nat.le_refl _) (by omega))) (fun q => absurd q (by rw [w89 s hF]; exact nI_nlt (Nat.le_refl _) (by omega)))
        refine loopI1 (fun x s => Run MX11_time (d + 3) 198 [some (.ref 88), some (.int (nI k)), some (.int x2), some (.int (nI r)), some (.int x), none, none] [] s _) (fun p s => Fr FT [] σ s ∧ (∀ i, i < n → s.1 98 i = tR c f n R T (r + 1) i) ∧ ∀ i, i < p → s.1 97 i = tR c f n R T (r + 1) i) n ?_ ?_ 0 s (by omega) ⟨hF, h2, fun i hi => absurd hi (Nat.not_lt_zero i)⟩
        · intro s ⟨hF, _, h3⟩
          exact bX11_time_198 (nI k) x2 (nI r) (nI n) s (vp_in_nI k8 (by decide)) (fun q => absurd q (by rw [w89 s hF]; exact nI_nlt (Nat.le_refl _) (by omega))) (fun _ => ih s ⟨hF, h3⟩) (fun q => absurd q (by rw [w89 s hF]; exact nI_nlt (Nat.le_refl _) (by omega)))
        · intro p s hp ⟨hF, h2, h3⟩ ih2
          refine bX11_time_198 (nI k) x2 (nI r) (nI p) s (vp_in_nI k8 (by decide)) (fun _ => vp_in_nI (by omega) (by decide)) (fun q => absurd q (by rw [w89 s hF]; exact nI_ge hp (by omega))) (fun _ => ih2 _ ⟨hF.tA (by decide) (by decide), fun i hi => by rw [sA_ne (by decide)]; exact h2 i hi, fun i hi => ?_⟩)
          rw [sA_at, upd_eq, nI_clamp (by omega)]
          by_cases e : i = p
          · rw [if_pos e, e]; exact h2 p hp
          · rw [if_neg e]; exact h3 i (by omega)
      · intro p s hp ⟨hF, hTk, h1, h2⟩ ih2
        have pc : (nI p).toNatClampNeg = p := nI_clamp (by omega)
        have hLp := lw_le R r p
        have kk : ∀ (x : Int32), x = tR c f n R T (r + 1) p → ∀ i, i < p + 1 → (sA s 98 (upd (s.1 98) p x)).1 98 i = tR c f n R T (r + 1) i := by
          intro x ex i hi
          rw [sA_at, upd_eq]
          by_cases e : i = p
          · rw [if_pos e, e]; exact ex
          · rw [if_neg e]; exact h2 i (by omega)
        refine bX11_time_81 (nI k) x2 (nI r) (nI p) s (vp_in_nI k8 (by decide)) (fun _ => vp_in_nI (by omega) (by decide)) (fun _ q => ?_) (fun q => absurd q (by rw [w89 s hF]; exact nI_ge hp (by omega))) (fun _ q => ?_) (fun _ q => ?_)
        · rw [pc, hTk p (by omega)] at q ⊢
          unfold tk at q ⊢
          by_cases b : (R r).testBit p = true
          · rw [if_pos b]; exact vp_in_nI (by omega) (by decide)
          · rw [if_neg b] at q; exact absurd rfl q
        · rw [pc, hTk p (by omega)] at q ⊢
          have b : (R r).testBit p = true := Decidable.byContradiction (fun nb => by unfold tk at q; rw [if_neg nb] at q; exact q rfl)
          have et : tk (R r) (lw R r) p = nI (lw R r p - 1) := by unfold tk; rw [if_pos b]
          have h0 := (okr p b).2
          rw [et, if_neg (m4 (by omega)), nI_clamp (by omega), h1 p hp, h1 _ (by omega), mx_le, hF.2.1 5 (by decide), hF.2.1 4 (by decide), hc, hf]
          refine (tX11_loadOf (d + 2) (lw R r p - 1) (R r) (lw R r) (lw_le R r) okr32 (by omega) s hTk).mono ?_
          rintro v3 s3 ⟨hv3, hs3⟩
          rw [hv3, hs3]
          refine bX11_time_184 _ _ _ _ _ _ _ _ s (vp_in_nI (by omega) (by decide)) ?_
          rw [pc]
          refine ih2 _ ⟨hF.tA (by decide) (by decide), fun i hi => by rw [sA_ne (by decide)]; exact hTk i hi, fun i hi => by rw [sA_ne (by decide)]; exact h1 i hi, kk _ ?_⟩
          show _ = tT c f n (R r) (lw R r) (tR c f n R T r) p
          unfold tT; rw [if_pos b, ld_32 n32 okr]
        · rw [pc, hTk p (by omega)] at q
          have b : ¬ (R r).testBit p = true := fun b => by unfold tk at q; rw [if_pos b] at q; exact absurd q (m4 (by omega))
          rw [pc]
          refine ih2 _ ⟨hF.tA (by decide) (by decide), fun i hi => by rw [sA_ne (by decide)]; exact hTk i hi, fun i hi => by rw [sA_ne (by decide)]; exact h1 i hi, kk _ ?_⟩
          rw [h1 p hp]
          show _ = tT c f n (R r) (lw R r) (tR c f n R T r) p
          unfold tT; rw [if_neg b]
  · intro j s hj ⟨hF, h1⟩ ih
    refine bX11_time_36 (nI k) x2 (nI j) s (fun _ => vp_in_nI hj (by decide)) (fun q => absurd q (nI_ge hj (by decide))) (fun _ => ih _ ⟨hF.tA (by decide) (by decide), fun i hi => ?_⟩)
    rw [sA_at, upd_eq, nI_clamp (by omega)]
    by_cases e : i = j
    · rw [if_pos e, e, hF.1 92 (by decide) (by decide)]; exact hT j hj
    · rw [if_neg e]; exact h1 i (by omega)
theorem tR_cong {c f : Int32} {n : Nat} {R : Nat → Nat} {T T' : Nat → Int32} (n32 : n ≤ 32) (hT : ∀ i, i < n → T i = T' i) : ∀ r i, i < n → tR c f n R T r i = tR c f n R T' r i
  | 0, i, hi => hT i hi
  | r + 1, i, hi => by
    show tT _ _ _ _ _ _ i = tT _ _ _ _ _ _ i
    unfold tT
    rw [tR_cong n32 hT r i hi, tR_cong n32 hT r (lw R r i - 1) (by have := lw_le R r i; omega)]
theorem pub_time (d : Nat) (x1 x2 : Int32) (σ : St) (hR : RN σ) (hP : RP σ) : PB yX10_time MX10_time (d + 4) yX11_time MX11_time (d + 3) [.int x1, .int x2] σ FT [] (fun _ => True) := by
  obtain ⟨N, hN, e1, e2, hk⟩ := hR
  obtain ⟨⟨c, f, _, _, _, pc1, pc2, pf1, pf2⟩, hst⟩ := hP
  by_cases hx : ∃ k, k < N ∧ x1 = nI k
  · obtain ⟨k, hkN, rfl⟩ := hx
    have k8 : k < 8 := by omega
    obtain ⟨n, D, R, hok, hc, hm⟩ := hk k hkN
    have n32 := hok.2.1
    have cc := (isC hN (nI k)).mpr ⟨k, hkN, rfl⟩
    have cm := (isM (by omega) (nI k)).mpr ⟨k, hkN, rfl⟩
    obtain ⟨g1, g2, g3, g4⟩ := nt_a k k8
    have e0 : gr 1 (nI k).toNatClampNeg = 32 + 6 * k := by rw [nI_clamp (by omega)]; exact g1
    have w89 : σ.1 89 (nI k).toNatClampNeg = nI n := by rw [nI_clamp (by omega)]; exact hm.1
    have hT : ∀ i, i < 32 → σ.1 92 i = σ.1 15 i := fun i hi => by obtain ⟨t, _, a, b⟩ := hst i hi; rw [a, b]
    have good : (x2 = -4 ∨ ∃ i, i < n ∧ x2 = nI i) → Ct yX2_follow MX2_follow (d + 3) [.ref 14, .ref (32 + 6 * k)] σ (fun v σ1 => Run MX10_time (d + 4) 38 [some (.ref 0), none, some (.int x2), some (.ref (32 + 6 * k))] (v.toList ++ []) σ1 (fun v σ1 => ∃ r, v = some r ∧ Ct yX11_time MX11_time (d + 3) [.ref 88, .int (nI k), .int x2] σ1 (fun v2 σ2 => v2 = some r ∧ Fr FT [] σ σ2 ∧ True))) := by
      intro h2
      refine (tX2_follow d k n D R k8 hok σ hc).mono ?_
      rintro v s ⟨hv, hTs, hF⟩
      rw [hv]
      have hF' : Fr FT [] σ s := hF.mono (by decide) (by decide)
      have ref : Ct yX11_time MX11_time (d + 3) [.ref 88, .int (nI k), .int x2] s (fun v2 σ2 => v2 = some (.int (if x2 = -4 then mxT (tR (σ.1 14 0) (σ.1 14 1) n R (σ.1 15) D) n else tR (σ.1 14 0) (σ.1 14 1) n R (σ.1 15) D x2.toNatClampNeg)) ∧ Fr FT [] σ σ2 ∧ True) := by
        have go := (refTime d k n D R x2 k8 hok σ s (σ.1 14 0) (σ.1 14 1) (σ.1 15) hF' hm (by rw [pc1, pc2]) (by rw [pf1, pf2]) hT h2).mono (Q2 := fun v2 σ2 => v2 = some (.int (if x2 = -4 then mxT (tR (σ.1 14 0) (σ.1 14 1) n R (σ.1 15) D) n else tR (σ.1 14 0) (σ.1 14 1) n R (σ.1 15) D x2.toNatClampNeg)) ∧ Fr FT [] σ σ2 ∧ True) (fun v s' h => ⟨h.1, h.2, trivial⟩)
        have w1 : s.1 88 0 = nI N := by rw [hF'.2.1 0 (by decide)]; exact e2
        have w2 : s.1 89 (nI k).toNatClampNeg = nI n := by rw [hF'.1 89 (by decide) (by decide)]; exact w89
        refine Ct.of mX11_time.1 (Nat.le_of_ble_eq_true rfl) (bX11_time_0 (nI k) x2 s (fun _ _ => vp_in_nI k8 (by decide)) (fun q => absurd (by rw [w1]; exact cm) q) (fun _ _ => go) (fun _ _ _ => go) (fun _ q1 q2 => ?_))
        rcases h2 with h | h
        · exact absurd h q1
        · exact absurd (by rw [w2]; exact (isM (by omega) x2).mpr h) q2
      refine bX10_time_38 x2 _ s g2 (fun q => ⟨_, rfl, ?_⟩) (fun q => ?_)
      · rcases h2 with h | ⟨i, hi, h⟩
        · exact absurd h q
        · rw [h, aG_in (a := 16) (n := 32) rfl (by omega), hTs i hi]
          rw [if_neg q, h, nI_clamp (by omega)] at ref
          exact ref
      · rw [if_pos q] at ref
        have w0 : s.1 (32 + 6 * k) 0 = nI n := by rw [hF'.1 _ (by simp [FT]; omega) (by omega)]; exact hc.1
        rw [w0]
        refine Ct.of mX2_latest.1 (Nat.le_of_ble_eq_true rfl) (bX2_latest_0 (nI n) s ?_)
        refine loopI1 (fun x a => Run MX2_latest (d + 3) 4 [some (.ref 14), some (.int (nI n)), some (.int a), some (.int x)] [] s _) (fun j a => a = mxT (tR (σ.1 14 0) (σ.1 14 1) n R (σ.1 15) D) j) n ?_ ?_ 0 0 (by omega) rfl
        · intro a ha
          refine bX2_latest_4 (nI n) a (nI n) s (fun _ => ?_) (fun q => absurd q (nI_nlt (Nat.le_refl _) (by omega)))
          rw [ha]
          exact bX10_time_55 _ s ⟨_, rfl, ref⟩
        · intro j a hj ha ih
          refine bX2_latest_4 (nI n) a (nI j) s (fun q => absurd q (nI_ge hj (by omega))) (fun _ => ih _ ?_)
          rw [aG_in (a := 16) (n := 32) rfl (by omega), hTs j hj, ha]; rfl
    have bad : (¬ x2 = -4) → (¬ ∃ i, i < n ∧ x2 = nI i) → Ct yX11_time MX11_time (d + 3) [.ref 88, .int (nI k), .int x2] σ (fun v2 σ2 => v2 = some (.int (-1)) ∧ Fr FT [] σ σ2 ∧ True) := by
      intro h1 h2
      exact Ct.of mX11_time.1 (Nat.le_of_ble_eq_true rfl) (bX11_time_0 (nI k) x2 σ (fun _ _ => vp_in_nI k8 (by decide)) (fun q => absurd (by rw [e2]; exact cm) q) (fun _ q => absurd q h1) (fun _ _ q => absurd ((isM (by omega) x2).mp (by rw [← w89]; exact q)) h2) (fun _ _ _ => ⟨rfl, Fr.rf, trivial⟩))
    refine Ct.of mX10_time.1 (Nat.le_of_ble_eq_true rfl) (bX10_time_0 (nI k) x2 σ (fun _ q => ?_) (fun _ q q2 => ⟨_, rfl, bad q (fun ⟨i, hi, h⟩ => ?_)⟩) (fun _ q q2 q3 => ?_) (fun _ q q2 q3 => ⟨_, rfl, bad q (fun ⟨i, hi, h⟩ => ?_)⟩) (fun q => absurd (by rw [e1]; exact cc) q))
    · rw [e0]; exact good (.inl q)
    · rw [h] at q2; exact absurd q2 (nI_pos (by omega))
    · rw [e0]
      rw [e0, hc.1] at q3
      have q2' := q2
      simp only [Int32.lt_iff_toInt_lt, Int32.le_iff_toInt_le, Int64.lt_iff_toInt_lt, Int64.le_iff_toInt_le, ← Int32.toInt_inj, ← Int64.toInt_inj, Int32.toInt_toInt64, tim20, tim13, tim12, tim11, tim10, tim4, tim3, tim2, tim1, ti0, ti1, ti2, ti3, ti4, ti5, ti6, ti7, ti8, ti9, ti10, ti11, ti12, ti13, ti14, ti15, ti16, ti24, ti30, ti31, ti32, ti48, ti56, ti57, ti60, ti63, ti99, ti100, ti130, ti199, ti200, ti240, ti999, ti1000, ti20, ti21, ti22, ti23, ti65535, ti32767, ti144, tjm20, tjm13, tjm12, tjm11, tjm10, tjm4, tjm3, tjm2, tjm1, tj0, tj1, tj2, tj3, tj4, tj5, tj6, tj7, tj8, tj9, tj10, tj11, tj12, tj13, tj14, tj15, tj16, tj24, tj30, tj31, tj32, tj48, tj56, tj57, tj60, tj63, tj99, tj100, tj130, tj199, tj200, tj240, tj999, tj1000, tj20, tj21, tj22, tj23, tj65535, tj32767, tj144] at q2' q3
      rw [nI_toInt (by omega)] at q3
      obtain ⟨i, hi, h⟩ := ofI (x := x2) (n := n) (by omega) (by omega) (by omega)
      exact good (.inr ⟨i, hi, h⟩)
    · rw [e0, hc.1, h] at q3; exact absurd q3 (nI_ge hi (by omega))
  · have cc : ¬ (0 ≤ x1 ∧ x1 < σ.1 0 1 ∧ x1 < 8) := fun q => hx ((isC hN x1).mp (by rw [← e1]; exact q))
    have cm : ¬ ((0 : Int64) ≤ x1.toInt64 ∧ x1.toInt64 ≤ (σ.1 88 0 - 1).toInt64) := fun q => hx ((isM (by omega) x1).mp (by rw [← e2]; exact q))
    exact Ct.of mX10_time.1 (Nat.le_of_ble_eq_true rfl) (bX10_time_0 x1 x2 σ (fun q => absurd q cc) (fun q => absurd q cc) (fun q => absurd q cc) (fun q => absurd q cc) (fun _ => ⟨_, rfl, Ct.of mX11_time.1 (Nat.le_of_ble_eq_true rfl) (bX11_time_0 x1 x2 σ (fun q => absurd q cm) (fun _ => ⟨rfl, Fr.rf, trivial⟩) (fun q => absurd q cm) (fun q => absurd q cm) (fun q => absurd q cm))⟩))
end TIMEM

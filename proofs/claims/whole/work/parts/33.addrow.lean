/-! ROWS added to a NET -/
section ADDROW
def ad (n : Nat) (p : Nat × (Nat → Nat)) (c : Nat) : Nat × (Nat → Nat) := if c &&& op n (lw p.2 p.1) = 0 then p else (p.1 + 1, fun r => if r = p.1 then c &&& op n (lw p.2 p.1) else p.2 r)
theorem ad_row {n : Nat} {L : Nat → Nat} (c : Nat) : okR n L (c &&& op n L) := fun i q => by
  rw [Nat.testBit_and] at q
  have : (op n L).testBit i = true := by cases h : (op n L).testBit i; rw [h, Bool.and_false] at q; exact absurd q (by decide); rfl
  exact (op_bit n L i).mp this
theorem ad_ok {n D : Nat} {R : Nat → Nat} (c : Nat) (h : okN n D R) (hD : D < 32) : okN n (ad n (D, R) c).1 (ad n (D, R) c).2 ∧ (ad n (D, R) c).1 ≤ D + 1 := by
  unfold ad
  by_cases z : c &&& op n (lw R D) = 0
  · rw [if_pos z]; exact ⟨h, Nat.le_succ _⟩
  · rw [if_neg z]
    obtain ⟨n2, n32, _, hr⟩ := h
    refine ⟨⟨n2, n32, hD, fun r hr2 => ?_⟩, Nat.le_refl _⟩
    have hr2 : r < D + 1 := hr2
    have e : lw (fun r => if r = D then c &&& op n (lw R D) else R r) r = lw R r := lw_cong (fun q hq => by rw [if_neg (by omega)])
    rw [e]
    by_cases er : r = D
    · subst er
      simp only [if_true]
      exact ⟨z, ad_row c⟩
    · simp only [if_neg er]
      exact hr r (by omega)
theorem ad_cong {n : Nat} {p : Nat × (Nat → Nat)} {c c' : Nat} (h : ∀ i, i < n → c.testBit i = c'.testBit i) : ad n p c = ad n p c' := by
  have e : c &&& op n (lw p.2 p.1) = c' &&& op n (lw p.2 p.1) := by
    refine Nat.eq_of_testBit_eq (fun i => ?_)
    rw [Nat.testBit_and, Nat.testBit_and]
    by_cases q : i < n
    · rw [h i q]
    · have : (op n (lw p.2 p.1)).testBit i = false := by
        cases t : (op n (lw p.2 p.1)).testBit i
        · rfl
        · exact absurd ((op_bit _ _ _).mp t).1 q
      rw [this, Bool.and_false, Bool.and_false]
  unfold ad; rw [e]
theorem lw_put (R : Nat → Nat) (D m : Nat) : lw (fun r => if r = D then m else R r) (D + 1) = jn m (lw R D) := by
  have h : lw (fun r => if r = D then m else R r) D = lw R D := lw_cong (fun q hq => if_neg (by omega))
  show jn (if D = D then m else R D) _ = _
  rw [h, if_pos rfl]
def FN (k : Nat) : List Nat := [32 + 6 * k, 33 + 6 * k, 34 + 6 * k, 35 + 6 * k, 36 + 6 * k, 37 + 6 * k]
theorem tX6_begin (d k n : Nat) (R : Nat → Nat) (k8 : k < 8) (hn : n ≤ 32) (σ : St) : Ct yX6_begin MX6_begin (d + 2) [.ref (32 + 6 * k), .int (nI n)] σ (fun v σ' => v = none ∧ cN k n 0 R σ' ∧ Fr (FN k) [] σ σ') := by
  obtain ⟨g1, g2, g3, g4⟩ := nt_a k k8
  obtain ⟨b0, b1', b2, b3, b4⟩ := nt_b k k8
  refine Ct.of mX6_begin.1 (Nat.le_of_ble_eq_true rfl) (bX6_begin_0 _ (nI n) σ g2 ?_)
  rw [g3]
  refine (tX8_begin d (33 + 6 * k) n b0 hn _).mono ?_
  rintro v s ⟨hv, hs, hF⟩
  rw [hv]
  rw [b1'] at hF
  have hF0 : Fr (FN k) [] σ s := ((Fr.A (o := 32 + 6 * k) (by simp [FN]) (by omega)).tA (by simp [FN]) (by omega)).tr (hF.mono (by simp [FN]) (by simp))
  have e : s.1 (32 + 6 * k) = upd (upd (σ.1 (32 + 6 * k)) 0 (nI n)) 1 0 := by
    rw [hF.1 _ (by simp) (by omega), sA_at, sA_at]
  exact bX6_begin_18 s ⟨rfl, ⟨by rw [e]; rfl, by rw [e]; rfl, hs, fun r hr => absurd hr (Nat.not_lt_zero r)⟩, hF0⟩
theorem tX6_addRow (d k n D : Nat) (R : Nat → Nat) (c : Nat) (k8 : k < 8) (hok : okN n D R) (hD : D < 32) (σ : St) (hc : cN k n D R σ) : Ct yX6_addRow MX6_addRow (d + 2) [.ref (32 + 6 * k), .int (nI c)] σ (fun v σ' => v = none ∧ cN k n (ad n (D, R) c).1 (ad n (D, R) c).2 σ' ∧ Fr (FN k) [] σ σ') := by
  obtain ⟨g1, g2, g3, g4⟩ := nt_a k k8
  obtain ⟨b0, b1', b2, b3, b4⟩ := nt_b k k8
  have n32 := hok.2.1
  have n2 := hok.1
  refine Ct.of mX6_addRow.1 (Nat.le_of_ble_eq_true rfl) (bX6_addRow_0 _ (nI c) σ g2 ?_)
  rw [g3]
  refine (tX8_openPlaces d (33 + 6 * k) n (lw R D) b0 n32 (lw_le R D) σ hc.2.2.1).mono ?_
  rintro v s ⟨hv, hs⟩
  rw [hv, hs]
  have em : nI c &&& nI (op n (lw R D)) = nI (c &&& op n (lw R D)) := nx_and _ _
  have okm : okR n (lw R D) (c &&& op n (lw R D)) := ad_row c
  have lm := okR_lt n32 okm
  refine bX6_addRow_8 _ (nI (op n (lw R D))) (nI c) σ g2 (fun q => ?_) (fun _ q => ?_) (fun q _ => ?_)
  · rw [em] at q
    have z := (nI0 lm).mp q
    have e : ad n (D, R) c = (D, R) := if_pos z
    rw [e]
    exact ⟨rfl, hc, Fr.rf⟩
  · rw [hc.2.1] at q; exact absurd q (nI_ge hD (by decide))
  · rw [em] at q ⊢
    have z : ¬ c &&& op n (lw R D) = 0 := fun h => q (by rw [h]; rfl)
    have e : ad n (D, R) c = (D + 1, fun r => if r = D then c &&& op n (lw R D) else R r) := if_neg z
    rw [e, g3, g4, hc.2.1, aP_in b4 hD]
    have hsL : sL (33 + 6 * k) (sA (sA σ (37 + 6 * k) (upd (σ.1 (37 + 6 * k)) D (nI (c &&& op n (lw R D))))) (32 + 6 * k) (upd ((sA σ (37 + 6 * k) (upd (σ.1 (37 + 6 * k)) D (nI (c &&& op n (lw R D))))).1 (32 + 6 * k)) 1 ((sA σ (37 + 6 * k) (upd (σ.1 (37 + 6 * k)) D (nI (c &&& op n (lw R D))))).1 (32 + 6 * k) 1 + 1))) n (lw R D) := by
      refine ⟨by rw [sA_ne (by omega), sA_ne (by omega)]; exact hc.2.2.1.1, fun i hi => ?_⟩
      have := hc.2.2.1.2 i hi
      rw [b1'] at this ⊢
      rw [sA_ne (by omega), sA_ne (by omega)]; exact this
    refine (tX8_join d (33 + 6 * k) n _ (lw R D) b0 n32 (by omega) (lw_le R D) okm _ hsL).mono ?_
    rintro v2 s2 ⟨hv2, hL2, _, _, hF2⟩
    rw [hv2]
    rw [b1', b2, b3] at hF2
    have hF0 : Fr (FN k) [] σ s2 := ((Fr.A (o := 37 + 6 * k) (by simp [FN]) (by omega)).tA (by simp [FN]) (by omega)).tr (hF2.mono (by simp [FN]) (by simp))
    have e32 : s2.1 (32 + 6 * k) = upd (σ.1 (32 + 6 * k)) 1 (σ.1 (32 + 6 * k) 1 + 1) := by
      rw [hF2.1 _ (by simp <;> omega) (by omega), sA_at, sA_ne (by omega)]
    have e37 : s2.1 (37 + 6 * k) = upd (σ.1 (37 + 6 * k)) D (nI (c &&& op n (lw R D))) := by
      rw [hF2.1 _ (by simp <;> omega) (by omega), sA_ne (by omega), sA_at]
    have el : lw (fun r => if r = D then c &&& op n (lw R D) else R r) (D + 1) = jn (c &&& op n (lw R D)) (lw R D) := lw_put R D _
    refine bX6_addRow_53 s2 ⟨rfl, ⟨?_, ?_, ?_, fun r hr => ?_⟩, hF0⟩
    · rw [e32, upd_eq, if_neg (by decide)]; exact hc.1
    · rw [e32, upd_eq, if_pos rfl, hc.2.1, ← nI_succ]
    · rw [el]; exact hL2
    · rw [e37, upd_eq]
      show _ = nI (if r = D then _ else _)
      by_cases er : r = D
      · rw [if_pos er, if_pos er]
      · rw [if_neg er, if_neg er]; exact hc.2.2.2 r (by have : r < D + 1 := hr; omega)
/-! the reference -/
def Fm (N : Nat) (σ σ' : St) : Prop := Fr [89, 90, 91, 93, 94] [] σ σ' ∧ (∀ k, k < N → σ'.1 89 k = σ.1 89 k ∧ σ'.1 90 k = σ.1 90 k) ∧ ∀ j, j < 32 * N → σ'.2 91 j = σ.2 91 j
theorem Fm.rf {N : Nat} {σ : St} : Fm N σ σ := ⟨Fr.rf, fun _ _ => ⟨rfl, rfl⟩, fun _ _ => rfl⟩
theorem Fm.tr {N : Nat} {σ s t : St} (h : Fm N σ s) (h' : Fm N s t) : Fm N σ t := ⟨h.1.tr h'.1, fun k hk => ⟨(h'.2.1 k hk).1.trans (h.2.1 k hk).1, (h'.2.1 k hk).2.trans (h.2.1 k hk).2⟩, fun j hj => (h'.2.2 j hj).trans (h.2.2 j hj)⟩
theorem Fm.of {N : Nat} {σ s : St} (h : Fr [93, 94] [] σ s) : Fm N σ s := ⟨h.mono (by decide) (by decide), fun k _ => ⟨by rw [h.1 89 (by decide) (by decide)], by rw [h.1 90 (by decide) (by decide)]⟩, fun j _ => by rw [h.2.2 91 (by decide)]⟩
theorem mk_and {n c : Nat} {L : Nat → Nat} : mk (fun i => c.testBit i && decide (0 < L i)) n = c &&& op n L := by
  refine Nat.eq_of_testBit_eq (fun i => ?_)
  unfold op
  rw [mk_bit, Nat.testBit_and, mk_bit]
  cases c.testBit i <;> cases decide (i < n) <;> cases decide (0 < L i) <;> rfl
theorem tX11_comes (d N n D : Nat) (R : Nat → Nat) (c : Nat) (hN : N < 8) (hc : c < 2 ^ 32) (hok : okN n D R) (hD : D < 32) (σ : St) (h0 : σ.1 88 0 = nI N) (hm : mN N n D R σ) (hL : rL σ (lw R D)) : Ct yX11_comes MX11_comes (d + 1) [.ref 88, .long (lN c)] σ (fun v σ' => v = none ∧ mN N n (ad n (D, R) c).1 (ad n (D, R) c).2 σ' ∧ rL σ' (lw (ad n (D, R) c).2 (ad n (D, R) c).1) ∧ Fm N σ σ') := by
  have n32 := hok.2.1
  have Nc : (σ.1 88 0).toNatClampNeg = N := by rw [h0]; exact nI_clamp (by omega)
  have w89 : σ.1 89 (σ.1 88 0).toNatClampNeg = nI n := by rw [Nc]; exact hm.1
  have w90 : σ.1 90 (σ.1 88 0).toNatClampNeg = nI D := by rw [Nc]; exact hm.2.1
  have ei : (32 : Int32) * σ.1 88 0 + σ.1 90 (σ.1 88 0).toNatClampNeg = nI (32 * N + D) := by rw [w90, h0]; exact cellsOf_nI hN hD
  refine Ct.of mX11_comes.1 (Nat.le_of_ble_eq_true rfl) (bX11_comes_0 (lN c) σ ?_)
  refine loopI1 (fun x a => Run MX11_comes (d + 1) 5 [some (.ref 88), some (.long (lN c)), none, some (.long a), none, some (.int x)] [] σ _) (fun j a => a = lN (mk (fun i => c.testBit i && decide (0 < lw R D i)) j)) n ?_ ?_ 0 0 (by omega) rfl
  · intro a ha
    rw [mk_and] at ha
    have okm : okR n (lw R D) (c &&& op n (lw R D)) := ad_row c
    have lm := okR_lt n32 okm
    refine bX11_comes_5 (lN c) a (nI n) σ (by rw [h0]; exact vp_in_nI hN (by decide)) (fun _ _ => by rw [ei]; exact vp_in_nI (by omega) (by decide)) (fun q => absurd q (by rw [w89]; exact nI_nlt (Nat.le_refl _) (by omega))) (fun _ q => ?_) (fun _ q => ?_) (fun q => absurd q (by rw [w89]; exact nI_nlt (Nat.le_refl _) (by omega)))
    · rw [ha] at q
      have z := (lN0 (by omega)).mp q
      have e : ad n (D, R) c = (D, R) := if_pos z
      rw [e]
      exact ⟨rfl, hm, hL, Fm.rf⟩
    · rw [ha] at q
      have z : ¬ c &&& op n (lw R D) = 0 := fun h => q (by rw [h]; rfl)
      have e : ad n (D, R) c = (D + 1, fun r => if r = D then c &&& op n (lw R D) else R r) := if_neg z
      have el : lw (fun r => if r = D then c &&& op n (lw R D) else R r) (D + 1) = jn (c &&& op n (lw R D)) (lw R D) := lw_put R D _
      rw [e, ei, w90, Nc, ha, nI_clamp (by omega), ← nI_succ]
      have hL1 : rL (sA (sJ σ 91 (vp_updL (σ.2 91) (32 * N + D) (lN (c &&& op n (lw R D))))) 90 (upd (σ.1 90) N (nI (D + 1)))) (lw R D) := fun i hi => by rw [sA_ne (by decide), sJ1]; exact hL i hi
      refine (tX11_joins d _ (lw R D) (lw_le R D) (okR_32 n32 okm) _ hL1).mono ?_
      rintro v s ⟨hv, hL2, hF2⟩
      rw [hv]
      have e90 : s.1 90 = upd (σ.1 90) N (nI (D + 1)) := by rw [hF2.1 90 (by decide) (by decide), sA_at]
      have e91 : s.2 91 = vp_updL (σ.2 91) (32 * N + D) (lN (c &&& op n (lw R D))) := by rw [hF2.2.2 91 (by decide), sA2, sJ_at]
      have e89 : s.1 89 = σ.1 89 := by rw [hF2.1 89 (by decide) (by decide), sA_ne (by decide), sJ1]
      refine bX11_comes_104 s ⟨rfl, ⟨?_, ?_, fun r hr => ?_⟩, ?_, ⟨?_, fun k hk => ⟨?_, ?_⟩, fun j hj => ?_⟩⟩
      · rw [e89]; exact hm.1
      · rw [e90, upd_eq, if_pos rfl]
      · rw [e91, updL_eq]
        show _ = lN (if r = D then _ else _)
        by_cases er : r = D
        · rw [if_pos (by omega), if_pos er]
        · rw [if_neg (by omega), if_neg er]; exact hm.2.2 r (by have : r < D + 1 := hr; omega)
      · rw [el]; exact hL2
      · exact ((Fr.J (by decide)).tA (by decide) (by decide)).tr (hF2.mono (by decide) (by decide))
      · rw [e89]
      · rw [e90, upd_eq, if_neg (by omega)]
      · rw [e91, updL_eq, if_neg (by omega)]
  · intro j a hj ha ih
    refine bX11_comes_5 (lN c) a (nI j) σ (by rw [h0]; exact vp_in_nI hN (by decide)) (fun q => absurd q (by rw [w89]; exact nI_ge hj (by omega))) (fun _ _ => vp_in_nI (by omega) (by decide)) (fun q => absurd q (by rw [w89]; exact nI_ge hj (by omega))) (fun q => absurd q (by rw [w89]; exact nI_ge hj (by omega))) (fun _ => ih _ ?_)
    have := lw_le R D j
    rw [ha, nI_clamp (by omega), hL j (by omega), shl1 (by omega)]
    show _ = lN (if (c.testBit j && decide (0 < lw R D j)) = true then _ else _)
    by_cases b : c.testBit j = true
    · rw [if_pos ((bitM hc (by omega)).mpr b)]
      by_cases z : lw R D j = 0
      · rw [if_pos ((le0 (by omega)).mpr z), if_neg (by simp [z])]
        exact (fb_orL _ 0).trans (by rw [Nat.or_zero])
      · rw [if_neg (fun q => z ((le0 (by omega)).mp q)), if_pos (by simp [b]; omega), fb_orL]
    · rw [if_neg (fun q => b ((bitM hc (by omega)).mp q)), if_neg (by simp [b])]
      exact (fb_orL _ 0).trans (by rw [Nat.or_zero])
end ADDROW

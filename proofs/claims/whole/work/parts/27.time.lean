/-! TIME: when the carries come -/
section TIME
def tT (c f : Int32) (n m : Nat) (L : Nat → Nat) (T : Nat → Int32) (i : Nat) : Int32 := if m.testBit i = true then mxI (T i) (T (L i - 1)) + c + f * (nI (ld m L n (L i - 1)) - 1) else T i
def tR (c f : Int32) (n : Nat) (R : Nat → Nat) (T : Nat → Int32) : Nat → Nat → Int32
  | 0 => T
  | r + 1 => tT c f n (R r) (lw R r) (tR c f n R T r)
def mxT (T : Nat → Int32) : Nat → Int32
  | 0 => 0
  | i + 1 => mxI (mxT T i) (T i)
theorem mx_le (a b : Int32) : (if a ≤ b then b else a) = mxI a b := by
  unfold mxI
  by_cases h : a < b
  · rw [if_pos h, if_pos (Int32.le_of_lt h)]
  · rw [if_neg h]
    by_cases e : a ≤ b
    · rw [if_pos e]; exact Int32.le_antisymm (Int32.not_lt.mp h) e
    · rw [if_neg e]
theorem mx_le' (a b : Int32) : (if b ≤ a then a else b) = mxI a b := by
  unfold mxI
  by_cases h : a < b
  · rw [if_pos h, if_neg (Int32.not_le.mpr h)]
  · rw [if_neg h, if_pos (Int32.not_lt.mp h)]
theorem tX2_passRow (d n m : Nat) (L : Nat → Nat) (T : Nat → Int32) (hn : n ≤ 32) (hn1 : 1 ≤ n) (hL : ∀ i, L i ≤ i) (hm : okR n L m) (σ : St) (h2 : ∀ i, i < n → σ.1 19 i = if m.testBit i = true then nI (L i - 1) else -4) (h3 : ∀ i, i < n → σ.1 20 i = nI (ld m L n i)) (hT : ∀ i, i < n → σ.1 16 i = T i) : Ct yX2_passRow MX2_passRow (d + 2) [.ref 14, .int (nI n)] σ (fun v σ' => v = none ∧ (∀ i, i < n → σ'.1 16 i = tT (σ.1 14 0) (σ.1 14 1) n m L T i) ∧ Fr [16] [] σ σ') := by
  refine Ct.of mX2_passRow.1 (Nat.le_of_ble_eq_true rfl) (bX2_passRow_0 (nI n) σ ?_)
  rw [show (1 : Int32) = nI 1 from rfl, pk_sub hn1]
  have down : ∀ j s, j + 1 ≤ n → Fr [16] [] σ s → (∀ i, i < n → s.1 16 i = if j < i then tT (σ.1 14 0) (σ.1 14 1) n m L T i else T i) → Run MX2_passRow (d + 2) 4 [some (.ref 14), none, some (.int (nI j)), none, none] [] s (fun v σ' => v = none ∧ (∀ i, i < n → σ'.1 16 i = tT (σ.1 14 0) (σ.1 14 1) n m L T i) ∧ Fr [16] [] σ σ') := by
    intro j
    induction j with
    | zero =>
      intro s hj hF h1
      refine bX2_passRow_4 (nI 0) s (fun _ => ⟨rfl, fun i hi => ?_, hF⟩) (fun q => absurd q (by decide)) (fun q => absurd q (by decide))
      rw [h1 i hi]
      by_cases e : 0 < i
      · rw [if_pos e]
      · have : i = 0 := by omega
        subst this
        rw [if_neg e]; unfold tT; rw [if_neg]
        intro q; have := (hm 0 q).2; have := hL 0; omega
    | succ j ih =>
      intro s hj hF h1
      have back : nI (j + 1) + (-1) = nI j := pk_m1 j
      have e2 : aG (gr 17 2) (nI (j + 1)) s = if m.testBit (j + 1) = true then nI (L (j + 1) - 1) else -4 := by
        rw [aG_in (a := gr 17 2) (n := 32) rfl (by omega)]
        show s.1 19 (j + 1) = _
        rw [hF.1 19 (by decide) (by decide)]; exact h2 _ (by omega)
      have e16 : s.1 16 (j + 1) = T (j + 1) := by rw [h1 _ (by omega), if_neg (by omega)]
      have hLj := hL (j + 1)
      refine bX2_passRow_4 (nI (j + 1)) s (fun q => ?_) (fun _ q => ?_) (fun _ q => ?_)
      · have := (le0 (by omega)).mp q; omega
      · rw [e2] at q
        rw [back]
        have nb : ¬ m.testBit (j + 1) = true := fun b => by rw [if_pos b] at q; exact absurd q (m4 (by omega))
        refine ih s (by omega) hF (fun i hi => ?_)
        rw [h1 i hi]
        by_cases e : i = j + 1
        · subst e; rw [if_neg (by omega), if_pos (by omega)]; unfold tT; rw [if_neg nb]
        · by_cases c : j < i
          · rw [if_pos (by omega), if_pos c]
          · rw [if_neg (by omega), if_neg c]
      · rw [e2] at q
        have b : m.testBit (j + 1) = true := Decidable.byContradiction (fun nb => by rw [if_neg nb] at q; exact q rfl)
        have h0 := (hm _ b).2
        have e3 : aG (gr 17 3) (nI (L (j + 1) - 1)) s = nI (ld m L n (L (j + 1) - 1)) := by
          rw [aG_in (a := gr 17 3) (n := 32) rfl (by omega)]
          show s.1 20 _ = _
          rw [hF.1 20 (by decide) (by decide)]; exact h3 _ (by omega)
        have e4 : aG 16 (nI (L (j + 1) - 1)) s = T (L (j + 1) - 1) := by
          rw [aG_in (a := 16) (n := 32) rfl (by omega), h1 _ (by omega), if_neg (by omega)]
        rw [e2, if_pos b, e3, e4, back, aG_in (a := 16) (n := 32) rfl (by omega), e16, aP_in (a := 16) (n := 32) rfl (by omega), hF.1 14 (by decide) (by decide)]
        refine ih _ (by omega) (hF.tA (by decide) (by decide)) (fun i hi => ?_)
        rw [sA_at, upd_eq]
        by_cases e : i = j + 1
        · subst e; rw [if_pos rfl, if_pos (by omega)]; unfold tT; rw [if_pos b]
        · rw [if_neg e, h1 i hi]
          by_cases c : j < i
          · rw [if_pos (by omega), if_pos c]
          · rw [if_neg (by omega), if_neg c]
  exact down (n - 1) σ (by omega) Fr.rf (fun i hi => by rw [if_neg (by omega)]; exact hT i hi)
theorem tX2_follow (d k n D : Nat) (R : Nat → Nat) (k8 : k < 8) (hok : okN n D R) (σ : St) (hc : cN k n D R σ) : Ct yX2_follow MX2_follow (d + 3) [.ref 14, .ref (32 + 6 * k)] σ (fun v σ' => v = none ∧ (∀ i, i < n → σ'.1 16 i = tR (σ.1 14 0) (σ.1 14 1) n R (σ.1 15) D i) ∧ Fr [16, 17, 18, 19, 20] [] σ σ') := by
  obtain ⟨c1, c2, c3, c4⟩ := hc
  obtain ⟨g1, g2, g3, g4⟩ := nt_a k k8
  have g5 := (nt_b k k8).2.2.2.2
  have n32 := hok.2.1
  have n2 := hok.1
  have D32 := hok.2.2.1
  have hrow := hok.2.2.2
  have o0 : ∀ s, Fr [16, 17, 18, 19, 20] [] σ s → s.1 (32 + 6 * k) 0 = nI n := fun s hF => by rw [hF.1 _ (by simp; omega) (by omega)]; exact c1
  have o1 : ∀ s, Fr [16, 17, 18, 19, 20] [] σ s → s.1 (32 + 6 * k) 1 = nI D := fun s hF => by rw [hF.1 _ (by simp; omega) (by omega)]; exact c2
  refine Ct.of mX2_follow.1 (Nat.le_of_ble_eq_true rfl) (bX2_follow_0 _ σ g2 ?_)
  refine loopI1 (fun x s => Run MX2_follow (d + 3) 2 [some (.ref 14), some (.ref (32 + 6 * k)), some (.int x)] [] s _) (fun j s => Fr [16, 17, 18, 19, 20] [] σ s ∧ ∀ i, i < j → s.1 16 i = σ.1 15 i) n ?_ ?_ 0 σ (by omega) ⟨Fr.rf, fun i hi => absurd hi (Nat.not_lt_zero i)⟩
  · intro s ⟨hF, h1⟩
    refine bX2_follow_2 _ (nI n) s g2 (fun _ => ?_) (fun q => absurd q (by rw [o0 s hF]; exact nI_nlt (Nat.le_refl _) (by omega)))
    rw [o0 s hF]
    refine (tX8_begin (d + 1) 17 n (by decide) n32 s).mono ?_
    rintro v s1 ⟨hv, hs1, hF1⟩
    rw [hv]
    refine bX2_follow_43 _ s1 g2 ?_
    refine loopI1 (fun x s => Run MX2_follow (d + 3) 45 [some (.ref 14), some (.ref (32 + 6 * k)), some (.int x)] [] s _) (fun r s => Fr [16, 17, 18, 19, 20] [] σ s ∧ sL 17 s n (lw R r) ∧ ∀ i, i < n → s.1 16 i = tR (σ.1 14 0) (σ.1 14 1) n R (σ.1 15) r i) D ?_ ?_ 0 s1 (by omega) ⟨hF.tr (hF1.mono (by decide) (by decide)), hs1, fun i hi => by rw [hF1.1 16 (by decide) (by decide)]; exact h1 i hi⟩
    · intro s ⟨hF, hL, hT⟩
      exact bX2_follow_45 _ (nI D) s g2 (fun _ => ⟨rfl, hT, hF⟩) (fun q => absurd q (by rw [o1 s hF]; exact nI_nlt (Nat.le_refl _) (by omega)))
    · intro r s hr ⟨hF, hL, hT⟩ ih
      refine bX2_follow_45 _ (nI r) s g2 (fun q => absurd q (by rw [o1 s hF]; exact nI_ge hr (by omega))) (fun _ => ?_)
      have er : aG (gr (32 + 6 * k) 3) (nI r) s = nI (R r) := by
        rw [g4, aG_in g5 (by omega), hF.1 _ (by simp; omega) (by omega)]; exact c4 r (by omega)
      rw [er]
      refine (tX8_join (d + 1) 17 n (R r) (lw R r) (by decide) n32 (by omega) (lw_le R r) (hrow r hr).2 s hL).mono ?_
      rintro v2 s2 ⟨hv2, hL2, ht2, hl2, hF2⟩
      rw [hv2]
      have hF2' : Fr [16, 17, 18, 19, 20] [] σ s2 := hF.tr (hF2.mono (by decide) (by decide))
      refine bX2_follow_65 _ _ s2 g2 ?_
      rw [o0 s2 hF2']
      refine (tX2_passRow d n (R r) (lw R r) (tR (σ.1 14 0) (σ.1 14 1) n R (σ.1 15) r) n32 (by omega) (lw_le R r) (hrow r hr).2 s2 ht2 hl2 (fun i hi => by rw [hF2.1 16 (by decide) (by decide)]; exact hT i hi)).mono ?_
      rintro v3 s3 ⟨hv3, hT3, hF3⟩
      rw [hv3]
      refine bX2_follow_73 _ _ s3 g2 (ih s3 ⟨hF2'.tr (hF3.mono (by decide) (by decide)), ⟨?_, fun i hi => ?_⟩, fun i hi => ?_⟩)
      · rw [hF3.1 17 (by decide) (by decide)]; exact hL2.1
      · rw [hF3.1 _ (by decide) (by decide)]; exact hL2.2 i hi
      · rw [hT3 i hi, hF2'.1 14 (by decide) (by decide)]; rfl
  · intro j s hj ⟨hF, h1⟩ ih
    refine bX2_follow_2 _ (nI j) s g2 (fun q => absurd q (by rw [o0 s hF]; exact nI_ge hj (by omega))) (fun _ => ?_)
    rw [aG_in (a := 15) (n := 32) rfl (by omega), aP_in (a := 16) (n := 32) rfl (by omega)]
    refine ih _ ⟨hF.tA (by decide) (by decide), fun i hi => ?_⟩
    rw [sA_at, upd_eq]
    by_cases e : i = j
    · rw [if_pos e, e, hF.1 15 (by decide) (by decide)]
    · rw [if_neg e]; exact h1 i (by omega)
end TIME

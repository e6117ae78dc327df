/-! heaps: what a ROW brings down -/
section HEAP
def hpT (law T hc ci : Nat) : Nat := if law = 0 then hc / 3 else (hc + ci - T) / 2
def hpW (law T hc ci : Nat) : Nat := if law = 0 then (if 2 < hc ∧ hc % 3 = 2 then 1 else 0) else (hc + ci - T) % 2
def hpC (law T : Nat) (h : Nat → Nat) : Nat → Nat
  | 0 => 0
  | c + 1 => hpT law T (h c) (hpC law T h c) + hpW law T (h c) (hpC law T h c)
def hpH (law T : Nat) (h : Nat → Nat) (c : Nat) : Nat := h c + hpC law T h c - 2 * hpT law T (h c) (hpC law T h c) - hpW law T (h c) (hpC law T h c)
def hpTs (law T : Nat) (h : Nat → Nat) (n : Nat) : Nat := sm (fun c => hpT law T (h c) (hpC law T h c)) n
def hpWs (law T : Nat) (h : Nat → Nat) (n : Nat) : Nat := sm (fun c => hpW law T (h c) (hpC law T h c)) n
def gT (g : Nat) : Nat := if g ≤ 3 then 2 else if g ≤ 4 then 3 else if g ≤ 6 then 4 else if g ≤ 9 then 6 else 9
theorem hpW_le (law T hc ci : Nat) : hpW law T hc ci ≤ 1 := by
  unfold hpW; split
  · split <;> omega
  · omega
theorem hpC_le {law T : Nat} {h : Nat → Nat} (hh : ∀ c, c < 12 → h c ≤ 12) : ∀ c, c ≤ 12 → hpC law T h c ≤ 14 ∧ (law = 0 → hpC law T h c ≤ 5)
  | 0, _ => ⟨Nat.zero_le _, fun _ => Nat.zero_le _⟩
  | c + 1, hc => by
    have h1 := hpC_le (law := law) (T := T) hh c (by omega)
    have h2 := hh c (by omega)
    show hpT law T (h c) (hpC law T h c) + hpW law T (h c) (hpC law T h c) ≤ 14 ∧ (law = 0 → hpT law T (h c) (hpC law T h c) + hpW law T (h c) (hpC law T h c) ≤ 5)
    unfold hpT hpW
    by_cases hl : law = 0
    · rw [if_pos hl, if_pos hl]
      have : (if 2 < h c ∧ h c % 3 = 2 then 1 else 0) ≤ 1 := by split <;> omega
      omega
    · rw [if_neg hl, if_neg hl]; omega
theorem hpH_le {law T : Nat} {h : Nat → Nat} (hT : T ≤ 12) (hh : ∀ c, c < 12 → h c ≤ 12) {c : Nat} (hc : c < 12) : hpH law T h c ≤ 12 := by
  have h1 := hpC_le (law := law) (T := T) hh c (by omega)
  have h2 := hh c hc
  unfold hpH hpT hpW
  by_cases hl : law = 0
  · rw [if_pos hl, if_pos hl]; have := h1.2 hl; omega
  · rw [if_neg hl, if_neg hl]; omega
theorem gT_le (g : Nat) : gT g ≤ 9 := by unfold gT; split <;> (try split) <;> (try split) <;> (try split) <;> omega
theorem hpT_le {law T hc ci : Nat} (h1 : hc ≤ 12) (h2 : ci ≤ 14) : hpT law T hc ci ≤ 13 := by unfold hpT; split <;> omega
theorem bI_iff {c c' : Prop} [Decidable c] [Decidable c'] (h : c ↔ c') : bI c = bI c' := by
  unfold bI
  by_cases q : c
  · rw [if_pos q, if_pos (h.mp q)]
  · rw [if_neg q, if_neg (fun r => q (h.mpr r))]
theorem bI_nat {p : Prop} [Decidable p] : bI p = nI (if p then 1 else 0) := by unfold bI; split <;> rfl
theorem i3w {n : Nat} (h : n < 2 ^ 30) : bI ((2 : Int32) < nI n ∧ (nI n - nI n / 3 * 3) = 2) = nI (if 2 < n ∧ n % 3 = 2 then 1 else 0) := by
  rw [← bI_nat]
  refine bI_iff (and_congr (nI_ltI (a := 2) (by decide) (by omega)) ?_)
  rw [show (3 : Int32) = nI 3 from rfl, pk_rem (by omega) (by decide) (by decide)]
  exact nI_eq (b := 2) (by omega) (by decide)
theorem i3w' {n : Nat} (h : n < 2 ^ 30) : bI ((nI n - nI n / 3 * 3) = 2 ∧ (2 : Int32) < nI n) = nI (if 2 < n ∧ n % 3 = 2 then 1 else 0) := by
  rw [← i3w h]; unfold bI
  by_cases q : (nI n - nI n / 3 * 3) = 2 ∧ (2 : Int32) < nI n
  · rw [if_pos q, if_pos q.symm]
  · rw [if_neg q, if_neg (fun r => q r.symm)]
theorem i3d {n : Nat} (h : n < 2 ^ 30) : nI n / 3 = nI (n / 3) := by rw [show (3 : Int32) = nI 3 from rfl, pk_div (by omega) (by decide) (by decide)]
theorem i2d {n : Nat} (h : n < 2 ^ 30) : nI n / 2 = nI (n / 2) := by rw [show (2 : Int32) = nI 2 from rfl, pk_div (by omega) (by decide) (by decide)]
theorem i2m {n : Nat} (h : n < 2 ^ 30) : nI n - nI n / 2 * 2 = nI (n % 2) := by rw [show (2 : Int32) = nI 2 from rfl, pk_rem (by omega) (by decide) (by decide)]
/-! the class's COLUMNS -/
theorem co_ne {o : Nat} (ho : kd o = 3) : gr o 3 ≠ o ∧ o ≠ 88 ∧ gr o 3 ≠ 88 := by
  have q : ∀ o, o < NC → kd o = 3 → gr o 3 ≠ o ∧ o ≠ 88 ∧ gr o 3 ≠ 88 := by decide +kernel
  exact q o (kd_lt ho (by decide)) ho
def cH (o : Nat) (σ : St) (h : Nat → Nat) : Prop := ∀ c, c < 12 → σ.1 (gr o 3) c = nI (h c) ∧ h c ≤ 12
theorem tX3_greatest (d o : Nat) (σ : St) (ho : kd o = 3) (h : Nat → Nat) (hh : cH o σ h) : Ct yX3_greatest MX3_greatest (d + 1) [.ref o] σ (fun v σ' => v = some (.int (nI (gst h 12))) ∧ σ' = σ) := by
  refine Ct.of mX3_greatest.1 (Nat.le_of_ble_eq_true rfl) (bX3_greatest_0 o σ ho ?_)
  refine loopI1 (fun x a => Run MX3_greatest (d + 1) 13 [none, some (.int a), some (.ref (gr o 3)), some (.int 12), some (.int x), none] [] σ _) (fun k a => a = nI (gst h k)) 12 ?_ ?_ 0 0 (by decide) rfl
  · intro a ha
    exact bX3_greatest_13 a (gr o 3) 12 (nI 12) σ (kf_3_3 ho).1 (kf_3_3 ho).2 (fun q => absurd q (by decide)) (fun _ => ⟨by rw [ha], rfl⟩) (fun q => absurd q (by decide))
  · intro k a hk ha ih
    refine bX3_greatest_13 a (gr o 3) 12 (nI k) σ (kf_3_3 ho).1 (kf_3_3 ho).2 (fun _ => vp_in_nI hk (by decide)) (fun q => absurd q (nI_ge hk (by decide))) (fun _ => ih _ ?_)
    have h1 := gst_le (h := h) (b := 12) (n := k) (fun c hc => (hh c (by omega)).2)
    rw [ha, nI_clamp (by omega), (hh k hk).1, mx_nI (by omega) (by have := (hh k hk).2; omega)]; rfl
theorem tX3_allBits (d o : Nat) (σ : St) (ho : kd o = 3) (h : Nat → Nat) (hh : cH o σ h) : Ct yX3_allBits MX3_allBits d [.ref o] σ (fun v σ' => v = some (.int (nI (sm h 12))) ∧ σ' = σ) := by
  refine Ct.of mX3_allBits.1 (Nat.le_of_ble_eq_true rfl) (bX3_allBits_0 o σ ho ?_)
  refine loopI1 (fun x a => Run MX3_allBits d 13 [none, some (.int a), some (.ref (gr o 3)), some (.int 12), some (.int x), none] [] σ _) (fun k a => a = nI (sm h k)) 12 ?_ ?_ 0 0 (by decide) rfl
  · intro a ha
    exact bX3_allBits_13 a (gr o 3) 12 (nI 12) σ (kf_3_3 ho).1 (kf_3_3 ho).2 (fun q => absurd q (by decide)) (fun _ => ⟨by rw [ha], rfl⟩) (fun q => absurd q (by decide))
  · intro k a hk ha ih
    refine bX3_allBits_13 a (gr o 3) 12 (nI k) σ (kf_3_3 ho).1 (kf_3_3 ho).2 (fun _ => vp_in_nI hk (by decide)) (fun q => absurd q (nI_ge hk (by decide))) (fun _ => ih _ ?_)
    rw [ha, nI_clamp (by omega), (hh k hk).1, nI_add]; rfl
theorem bI_pos' {n : Nat} (h : n < 2 ^ 31) : bI ((0 : Int32) < nI n) = nI (if 0 < n then 1 else 0) := by
  rw [← bI_nat]; exact bI_iff (nI_ltI (a := 0) (by decide) h)
theorem tX3_filled (d o : Nat) (σ : St) (ho : kd o = 3) (h : Nat → Nat) (hh : cH o σ h) : Ct yX3_filled MX3_filled d [.ref o] σ (fun v σ' => v = some (.int (nI (sm (fun c => if 0 < h c then 1 else 0) 12))) ∧ σ' = σ) := by
  refine Ct.of mX3_filled.1 (Nat.le_of_ble_eq_true rfl) (bX3_filled_0 o σ ho ?_)
  refine loopI1 (fun x a => Run MX3_filled d 13 [none, some (.int a), some (.ref (gr o 3)), some (.int 12), some (.int x), none] [] σ _) (fun k a => a = nI (sm (fun c => if 0 < h c then 1 else 0) k)) 12 ?_ ?_ 0 0 (by decide) rfl
  · intro a ha
    exact bX3_filled_13 a (gr o 3) 12 (nI 12) σ (kf_3_3 ho).1 (kf_3_3 ho).2 (fun q => absurd q (by decide)) (fun _ => ⟨by rw [ha], rfl⟩) (fun q => absurd q (by decide))
  · intro k a hk ha ih
    refine bX3_filled_13 a (gr o 3) 12 (nI k) σ (kf_3_3 ho).1 (kf_3_3 ho).2 (fun _ => vp_in_nI hk (by decide)) (fun q => absurd q (nI_ge hk (by decide))) (fun _ => ih _ ?_)
    rw [ha, nI_clamp (by omega), (hh k hk).1, bI_pos' (by have := (hh k hk).2; omega), nI_add]; rfl
theorem tX3_done (d o : Nat) (σ : St) (ho : kd o = 3) (h : Nat → Nat) (hh : cH o σ h) : Ct yX3_done MX3_done (d + 2) [.ref o] σ (fun v σ' => v = some (.int (bI (gst h 12 ≤ 2))) ∧ σ' = σ) := by
  refine Ct.of mX3_done.1 (Nat.le_of_ble_eq_true rfl) (bX3_done_0 o σ ho ((tX3_greatest d o σ ho h hh).mono ?_))
  rintro v1 s1 ⟨hv, hs⟩
  rw [hv, hs]
  refine bX3_done_4 _ σ ⟨?_, rfl⟩
  have h1 := gst_le (h := h) (b := 12) (n := 12) (fun c hc => (hh c (by omega)).2)
  exact congrArg (fun z => some (Value.int z)) (bI_iff (nI_leI (b := 2) (by omega) (by decide)))
theorem tX3_clear (d o : Nat) (σ : St) (ho : kd o = 3) : Ct yX3_clear MX3_clear d [.ref o] σ (fun v σ' => v = none ∧ Fr [gr o 3] [] σ σ' ∧ ∀ c, c < 12 → σ'.1 (gr o 3) c = 0) := by
  have hne := co_ne ho
  refine Ct.of mX3_clear.1 (Nat.le_of_ble_eq_true rfl) (bX3_clear_0 o σ ho ?_)
  refine loopI1 (fun x s => Run MX3_clear d 2 [some (.ref o), some (.int x)] [] s _) (fun k s => Fr [gr o 3] [] σ s ∧ ∀ c, c < k → s.1 (gr o 3) c = 0) 12 ?_ ?_ 0 σ (by decide) ⟨Fr.rf, fun c hc => absurd hc (Nat.not_lt_zero c)⟩
  · intro s hs
    exact bX3_clear_2 o (nI 12) s ho (fun q => absurd q (by decide)) (fun _ => ⟨rfl, hs⟩) (fun q => absurd q (by decide))
  · intro k s hk hs ih
    refine bX3_clear_2 o (nI k) s ho (fun _ => vp_in_nI hk (by decide)) (fun q => absurd q (nI_ge hk (by decide))) (fun _ => ih _ ⟨hs.1.tA (by simp) hne.2.2, fun c hc => ?_⟩)
    rw [sA_at, nI_clamp (by omega), upd_eq]
    by_cases e : c = k
    · rw [if_pos e]
    · rw [if_neg e]; exact hs.2 c (by omega)
theorem tX3_copy (d o o1 : Nat) (σ : St) (ho : kd o = 3) (ho1 : kd o1 = 3) (hoo : gr o1 3 ≠ gr o 3) : Ct yX3_copy MX3_copy (d + 2) [.ref o, .ref o1] σ (fun v σ' => v = none ∧ Fr [gr o 3] [] σ σ' ∧ ∀ c, c < 12 → σ'.1 (gr o 3) c = σ.1 (gr o1 3) c) := by
  have hne := co_ne ho
  have hne1 := co_ne ho1
  refine Ct.of mX3_copy.1 (Nat.le_of_ble_eq_true rfl) (bX3_copy_0 o o1 σ ho ho1 ?_)
  refine loopI1 (fun x s => Run MX3_copy (d + 2) 2 [some (.ref o), some (.ref o1), some (.int x)] [] s _) (fun k s => Fr [gr o 3] [] σ s ∧ ∀ c, c < k → s.1 (gr o 3) c = σ.1 (gr o1 3) c) 12 ?_ ?_ 0 σ (by decide) ⟨Fr.rf, fun c hc => absurd hc (Nat.not_lt_zero c)⟩
  · intro s hs
    exact bX3_copy_2 o o1 (nI 12) s ho ho1 (fun q => absurd q (by decide)) (fun _ => ⟨rfl, hs⟩) (fun q => absurd q (by decide))
  · intro k s hk hs ih
    refine bX3_copy_2 o o1 (nI k) s ho ho1 (fun _ => vp_in_nI hk (by decide)) (fun q => absurd q (nI_ge hk (by decide))) (fun _ => ih _ ⟨hs.1.tA (by simp) hne.2.2, fun c hc => ?_⟩)
    rw [sA_at, nI_clamp (by omega), upd_eq, aG_in (kf_3_3 ho1).2 hk, hs.1.1 (gr o1 3) (by simpa using hoo) hne1.2.2]
    by_cases e : c = k
    · rw [if_pos e, e]
    · rw [if_neg e]; exact hs.2 c (by omega)
/-- a ROW brought down: heights, tallies -/
def cD (o law T : Nat) (h : Nat → Nat) (σ σ' : St) : Prop := Fr [o, gr o 3] [] σ σ' ∧ (∀ c, c < 12 → σ'.1 (gr o 3) c = nI (hpH law T h c)) ∧ σ'.1 o 0 = σ.1 o 0 + nI (hpTs law T h 12) ∧ σ'.1 o 1 = σ.1 o 1 + nI (hpWs law T h 12) ∧ σ'.1 o 2 = σ.1 o 2 + nI (hpC law T h 12)
theorem tX3_bringDownAtOnce (d o T : Nat) (σ : St) (ho : kd o = 3) (h : Nat → Nat) (hh : cH o σ h) : Ct yX3_bringDownAtOnce MX3_bringDownAtOnce d [.ref o] σ (fun v σ' => v = none ∧ cD o 0 T h σ σ') := by
  have hne := co_ne ho
  have hb : ∀ c, c < 12 → h c ≤ 12 := fun c hc => (hh c hc).2
  refine Ct.of mX3_bringDownAtOnce.1 (Nat.le_of_ble_eq_true rfl) (bX3_bringDownAtOnce_0 o σ ho ?_)
  refine loopI2 (fun x a s => Run MX3_bringDownAtOnce d 4 [some (.ref o), some (.int a), some (.int x), none, none, none] [] s _) (fun k a s => a = nI (hpC 0 T h k) ∧ Fr [o, gr o 3] [] σ s ∧ (∀ c, c < k → s.1 (gr o 3) c = nI (hpH 0 T h c)) ∧ (∀ c, k ≤ c → c < 12 → s.1 (gr o 3) c = nI (h c)) ∧ s.1 o 0 = σ.1 o 0 + nI (hpTs 0 T h k) ∧ s.1 o 1 = σ.1 o 1 + nI (hpWs 0 T h k) ∧ s.1 o 2 = σ.1 o 2) 12 ?_ ?_ 0 0 σ (by decide) ⟨rfl, Fr.rf, fun c hc => absurd hc (Nat.not_lt_zero c), fun c _ hc => (hh c hc).1, (by show _ = _ + nI 0; rw [nI_0]; simp), (by show _ = _ + nI 0; rw [nI_0]; simp), rfl⟩
  · intro a s ⟨ha, hF, h1, h2, h3, h4, h5⟩
    refine bX3_bringDownAtOnce_4 o a (nI 12) s ho (fun q => absurd q (by decide)) (fun _ => ⟨rfl, hF.tA (by simp) hne.2.1, fun c hc => ?_, ?_, ?_, ?_⟩) (fun q => absurd q (by decide))
    · rw [sA_ne hne.1]; exact h1 c hc
    · rw [sA_at, upd_eq, if_neg (by decide)]; exact h3
    · rw [sA_at, upd_eq, if_neg (by decide)]; exact h4
    · rw [sA_at, upd_eq, if_pos rfl, h5, ha]
  · intro k a s hk ⟨ha, hF, h1, h2, h3, h4, h5⟩ ih
    have hck := hb k hk
    have hC := (hpC_le (law := 0) (T := T) hb k (by omega)).1
    have e1 : s.1 (gr o 3) (nI k).toNatClampNeg = nI (h k) := by rw [nI_clamp (by omega)]; exact h2 k (Nat.le_refl _) hk
    have eT : hpT 0 T (h k) (hpC 0 T h k) = h k / 3 := rfl
    have eW : hpW 0 T (h k) (hpC 0 T h k) = (if 2 < h k ∧ h k % 3 = 2 then 1 else 0) := rfl
    refine bX3_bringDownAtOnce_4 o a (nI k) s ho (fun _ => vp_in_nI hk (by decide)) (fun q => absurd q (nI_ge hk (by decide))) (fun _ => ih _ _ ⟨?_, ?_, ?_, ?_, ?_, ?_, ?_⟩)
    · rw [e1, i3w (by omega), i3d (by omega), nI_add]; rfl
    · exact ((hF.tA (by simp) hne.2.2).tA (by simp) hne.2.1).tA (by simp) hne.2.1
    · intro c hc
      rw [sA_ne hne.1, sA_ne hne.1, sA_at, e1, i3w (by omega), i3d (by omega), ha, nI_clamp (by omega), upd_eq]
      by_cases e : c = k
      · subst e
        rw [if_pos rfl]
        have hw := hpW_le 0 T (h c) (hpC 0 T h c)
        unfold hpH
        rw [eT, eW] at *
        have hw2 : 2 * (h c / 3) + (if 2 < h c ∧ h c % 3 = 2 then 1 else 0) ≤ h c := by split <;> omega
        generalize (if 2 < h c ∧ h c % 3 = 2 then 1 else 0) = w at *
        (simp only [nI_zI, zl0, zl1, zl2, zl3, zl4, zl5, zl6, zl7, zl8, zl9, zl10, zl11, zl12, zl13, zl14, zl15, zl16, zl24, zl30, zl31, zl32, zl48, zl56, zl57, zl60, zl63, zl99, zl100, zl130, zl199, zl200, zl240, zl999, zl1000, ← zI_add, ← zI_sub, ← zI_mul, ← zI_neg] <;> first | rfl | (congr 1; omega))
      · rw [if_neg e]; exact h1 c (by omega)
    · intro c hc hc2
      rw [sA_ne hne.1, sA_ne hne.1, sA_at, nI_clamp (by omega), upd_eq, if_neg (by omega)]
      exact h2 c (by omega) hc2
    · simp only [sA_at, upd_eq, sA_ne hne.1.symm, e1, i3d (by omega : h k < 2 ^ 30)]
      simp only [Nat.reduceEqDiff, if_false, if_true, reduceIte, Nat.succ_ne_zero, Nat.one_ne_zero, Nat.zero_ne_one]
      rw [h3, Int32.add_assoc, nI_add]; rfl
    · simp only [sA_at, upd_eq, sA_ne hne.1.symm, e1, i3w (by omega : h k < 2 ^ 30)]
      simp only [Nat.reduceEqDiff, if_false, if_true, reduceIte, Nat.succ_ne_zero, Nat.one_ne_zero, Nat.zero_ne_one]
      rw [h4, Int32.add_assoc, nI_add]; rfl
    · simp only [sA_at, upd_eq, sA_ne hne.1.symm]
      simpa using h5
theorem tX3_goal (d o : Nat) (σ : St) (ho : kd o = 3) (h : Nat → Nat) (hh : cH o σ h) : Ct yX3_goal MX3_goal (d + 2) [.ref o] σ (fun v σ' => v = some (.int (nI (gT (gst h 12)))) ∧ σ' = σ) := by
  refine Ct.of mX3_goal.1 (Nat.le_of_ble_eq_true rfl) (bX3_goal_0 o σ ho ((tX3_greatest d o σ ho h hh).mono ?_))
  rintro v1 s1 ⟨hv, hs⟩
  rw [hv, hs]
  have h1 := gst_le (h := h) (b := 12) (n := 12) (fun c hc => (hh c (by omega)).2)
  generalize gst h 12 = g at h1 ⊢
  refine bX3_goal_4 _ σ ?_
  have st : ∀ (a b : Nat), b < 2 ^ 20 → ∀ (e : Nat), e = b + b / 2 → (g ≤ b → gT g = a) → (b < g → Run MX3_goal (d + 2) 9 [none, some (.int (nI g)), some (.int (nI b)), some (.int (nI e))] [] σ (fun v σ' => v = some (.int (nI (gT g))) ∧ σ' = σ)) → Run MX3_goal (d + 2) 9 [none, some (.int (nI g)), some (.int (nI a)), some (.int (nI b))] [] σ (fun v σ' => v = some (.int (nI (gT g))) ∧ σ' = σ) := by
    intro a b hb e he h2 h3
    refine bX3_goal_9 _ _ _ σ (fun q => ⟨by rw [h2 ((nI_leI (by omega) (by omega)).mp q)], rfl⟩) (fun q => ?_)
    rw [i2d (by omega), nI_add, ← he]
    exact h3 ((nI_ltI (by omega) (by omega)).mp q)
  refine st 2 3 (by decide) 4 rfl (fun q => by unfold gT; rw [if_pos q]) (fun q1 => ?_)
  refine st 3 4 (by decide) 6 rfl (fun q => by unfold gT; rw [if_neg (by omega), if_pos q]) (fun q2 => ?_)
  refine st 4 6 (by decide) 9 rfl (fun q => by unfold gT; rw [if_neg (by omega), if_neg (by omega), if_pos q]) (fun q3 => ?_)
  refine st 6 9 (by decide) 13 rfl (fun q => by unfold gT; rw [if_neg (by omega), if_neg (by omega), if_neg (by omega), if_pos q]) (fun q4 => ?_)
  exact st 9 13 (by decide) 19 rfl (fun q => by unfold gT; rw [if_neg (by omega), if_neg (by omega), if_neg (by omega), if_neg (by omega)]) (fun q5 => absurd q5 (by omega))
theorem tX3_bringDownLate (d o : Nat) (σ : St) (ho : kd o = 3) (h : Nat → Nat) (hh : cH o σ h) : Ct yX3_bringDownLate MX3_bringDownLate (d + 3) [.ref o] σ (fun v σ' => v = none ∧ cD o 1 (gT (gst h 12)) h σ σ') := by
  have hne := co_ne ho
  have hb : ∀ c, c < 12 → h c ≤ 12 := fun c hc => (hh c hc).2
  refine Ct.of mX3_bringDownLate.1 (Nat.le_of_ble_eq_true rfl) (bX3_bringDownLate_0 o σ ho ((tX3_goal d o σ ho h hh).mono ?_))
  rintro v1 s1 ⟨hv, hs⟩
  rw [hv, hs]
  have hT9 := gT_le (gst h 12)
  generalize gT (gst h 12) = T at hT9 ⊢
  refine bX3_bringDownLate_4 o _ σ ho ?_
  refine loopI2 (fun x a s => Run MX3_bringDownLate (d + 3) 9 [some (.ref o), some (.int (nI T)), some (.int a), some (.int x), none] [] s _) (fun k a s => a = nI (hpC 1 T h k) ∧ Fr [o, gr o 3] [] σ s ∧ (∀ c, c < k → s.1 (gr o 3) c = nI (hpH 1 T h c)) ∧ (∀ c, k ≤ c → c < 12 → s.1 (gr o 3) c = nI (h c)) ∧ s.1 o 0 = σ.1 o 0 + nI (hpTs 1 T h k) ∧ s.1 o 1 = σ.1 o 1 + nI (hpWs 1 T h k) ∧ s.1 o 2 = σ.1 o 2) 12 ?_ ?_ 0 0 σ (by decide) ⟨rfl, Fr.rf, fun c hc => absurd hc (Nat.not_lt_zero c), fun c _ hc => (hh c hc).1, (by show _ = _ + nI 0; rw [nI_0]; simp), (by show _ = _ + nI 0; rw [nI_0]; simp), rfl⟩
  · intro a s ⟨ha, hF, h1, h2, h3, h4, h5⟩
    refine bX3_bringDownLate_9 o _ a (nI 12) s ho (fun q => absurd q (by decide)) (fun _ => ⟨rfl, hF.tA (by simp) hne.2.1, fun c hc => ?_, ?_, ?_, ?_⟩) (fun q => absurd q (by decide))
    · rw [sA_ne hne.1]; exact h1 c hc
    · rw [sA_at, upd_eq, if_neg (by decide)]; exact h3
    · rw [sA_at, upd_eq, if_neg (by decide)]; exact h4
    · rw [sA_at, upd_eq, if_pos rfl, h5, ha]
  · intro k a s hk ⟨ha, hF, h1, h2, h3, h4, h5⟩ ih
    have hck := hb k hk
    have hC := (hpC_le (law := 1) (T := T) hb k (by omega)).1
    have e1 : s.1 (gr o 3) (nI k).toNatClampNeg = nI (h k) := by rw [nI_clamp (by omega)]; exact h2 k (Nat.le_refl _) hk
    have eT : hpT 1 T (h k) (hpC 1 T h k) = (h k + hpC 1 T h k - T) / 2 := rfl
    have eW : hpW 1 T (h k) (hpC 1 T h k) = (h k + hpC 1 T h k - T) % 2 := rfl
    have e2 : mxI 0 (nI (h k) + a - nI T) = nI (h k + hpC 1 T h k - T) := by rw [ha, nI_add, mx_sub (by omega) (by omega)]
    refine bX3_bringDownLate_9 o _ a (nI k) s ho (fun _ => vp_in_nI hk (by decide)) (fun q => absurd q (nI_ge hk (by decide))) (fun _ => ih _ _ ⟨?_, ?_, ?_, ?_, ?_, ?_, ?_⟩)
    · rw [e1, e2, i2m (by omega), i2d (by omega), nI_add]; rfl
    · exact ((hF.tA (by simp) hne.2.2).tA (by simp) hne.2.1).tA (by simp) hne.2.1
    · intro c hc
      rw [sA_ne hne.1, sA_ne hne.1, sA_at, e1, e2, ha, nI_clamp (by omega), upd_eq]
      by_cases e : c = k
      · subst e
        rw [if_pos rfl]
        unfold hpH
        rw [eT, eW]
        (simp only [nI_zI, zl0, zl1, zl2, zl3, zl4, zl5, zl6, zl7, zl8, zl9, zl10, zl11, zl12, zl13, zl14, zl15, zl16, zl24, zl30, zl31, zl32, zl48, zl56, zl57, zl60, zl63, zl99, zl100, zl130, zl199, zl200, zl240, zl999, zl1000, ← zI_add, ← zI_sub, ← zI_mul, ← zI_neg] <;> first | rfl | (congr 1; omega))
      · rw [if_neg e]; exact h1 c (by omega)
    · intro c hc hc2
      rw [sA_ne hne.1, sA_ne hne.1, sA_at, nI_clamp (by omega), upd_eq, if_neg (by omega)]
      exact h2 c (by omega) hc2
    · simp only [sA_at, upd_eq, sA_ne hne.1.symm, e1, e2, i2d (by omega : h k + hpC 1 T h k - T < 2 ^ 30)]
      simp only [Nat.reduceEqDiff, if_false, if_true, reduceIte, Nat.succ_ne_zero, Nat.one_ne_zero, Nat.zero_ne_one]
      rw [h3, Int32.add_assoc, nI_add]; rfl
    · simp only [sA_at, upd_eq, sA_ne hne.1.symm, e1, e2, i2m (by omega : h k + hpC 1 T h k - T < 2 ^ 30)]
      simp only [Nat.reduceEqDiff, if_false, if_true, reduceIte, Nat.succ_ne_zero, Nat.one_ne_zero, Nat.zero_ne_one]
      rw [h4, Int32.add_assoc, nI_add]; rfl
    · simp only [sA_at, upd_eq, sA_ne hne.1.symm]
      simpa using h5
theorem tX3_bringDown (d o law : Nat) (hl : law ≤ 1) (σ : St) (ho : kd o = 3) (h : Nat → Nat) (hh : cH o σ h) : Ct yX3_bringDown MX3_bringDown (d + 4) [.ref o, .int (nI law)] σ (fun v σ' => v = none ∧ cD o law (gT (gst h 12)) h σ σ') := by
  refine Ct.of mX3_bringDown.1 (Nat.le_of_ble_eq_true rfl) (bX3_bringDown_0 o (nI law) σ ho (fun q => ?_) (fun q => ?_))
  · have e : law = 1 := by
      rcases (show law = 0 ∨ law = 1 by omega) with e | e
      · subst e; exact absurd rfl q
      · exact e
    subst e
    exact (tX3_bringDownLate d o σ ho h hh).mono (fun v1 s1 hv => by rw [hv.1]; exact bX3_bringDown_15 s1 ⟨rfl, hv.2⟩)
  · have e : law = 0 := by
      rcases (show law = 0 ∨ law = 1 by omega) with e | e
      · exact e
      · subst e; exact absurd q (by decide)
    subst e
    exact (tX3_bringDownAtOnce (d + 3) o (gT (gst h 12)) σ ho h hh).mono (fun v1 s1 hv => by rw [hv.1]; exact bX3_bringDown_8 s1 ⟨rfl, hv.2⟩)
end HEAP

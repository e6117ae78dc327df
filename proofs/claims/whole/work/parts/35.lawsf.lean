/-! LAWS: up and down, fill -/
section LAWSF
def pV (n : Nat) (p : Nat × (Nat → Nat)) : Nat × (Nat → Nat) := sq n (fun j => mk (hb 4 (uU n - 1 - j)) n) (sq n (fun r => mk (hb 3 r) n) p (uU n)) (uU n)
theorem tX5_upAndDown (d k n : Nat) (p : Nat × (Nat → Nat)) (k8 : k < 8) (hok : okN n p.1 p.2) (hp : p.1 = 0) (σ : St) (hc : cN k n p.1 p.2 σ) : Ct yX5_upAndDown MX5_upAndDown (d + 4) [.ref (32 + 6 * k)] σ (fun v σ' => v = none ∧ cN k n (pV n p).1 (pV n p).2 σ' ∧ Fr (FN k) [] σ σ') := by
  have g2 := (nt_a k k8).2.1
  have n32 := hok.2.1
  have n2 := hok.1
  obtain ⟨u5, un⟩ := uU_2 n (by omega)
  obtain ⟨oU1, oU2⟩ := sq_ok (f := fun r => mk (hb 3 r) n) hok (uU n) (by omega)
  refine Ct.of mX5_upAndDown.1 (Nat.le_of_ble_eq_true rfl) (bX5_upAndDown_0 _ σ g2 ?_)
  have down : ∀ i s, i ≤ uU n → cN k n (sq n (fun j => mk (hb 4 (uU n - 1 - j)) n) (sq n (fun r => mk (hb 3 r) n) p (uU n)) (uU n - i)).1 (sq n (fun j => mk (hb 4 (uU n - 1 - j)) n) (sq n (fun r => mk (hb 3 r) n) p (uU n)) (uU n - i)).2 s → Fr (FN k) [] σ s → Run MX5_upAndDown (d + 4) 38 [some (.ref (32 + 6 * k)), none, some (.int (nI i + (-1)))] [] s (fun v σ' => v = none ∧ cN k n (pV n p).1 (pV n p).2 σ' ∧ Fr (FN k) [] σ σ') := by
    intro i
    induction i with
    | zero =>
      intro s _ h1 hF
      exact bX5_upAndDown_38 _ _ s g2 (fun _ => ⟨rfl, h1, hF⟩) (fun q => absurd q (by decide))
    | succ i ih =>
      intro s hi h1 hF
      rw [pk_m1]
      refine bX5_upAndDown_38 _ _ s g2 (fun q => absurd q (nI_pos (by omega))) (fun _ => ?_)
      obtain ⟨o1, o2⟩ := sq_ok (f := fun j => mk (hb 4 (uU n - 1 - j)) n) oU1 (uU n - (i + 1)) (by omega)
      refine (tX5_addRow d k n _ _ 4 i k8 o1 (by omega) (by omega) (by omega) (fun _ => by omega) (fun q => absurd q (by decide)) s h1).mono ?_
      rintro v s2 ⟨hv, h2, hF2⟩
      rw [hv]
      refine bX5_upAndDown_48 _ _ s2 g2 (ih s2 (by omega) ?_ (hF.tr hF2))
      have e : uU n - i = uU n - (i + 1) + 1 := by omega
      have e2 : uU n - 1 - (uU n - (i + 1)) = i := by omega
      rw [e]
      show cN k n (ad n (sq n _ _ (uU n - (i + 1))) (mk (hb 4 (uU n - 1 - (uU n - (i + 1)))) n)).1 (ad n (sq n _ _ (uU n - (i + 1))) (mk (hb 4 (uU n - 1 - (uU n - (i + 1)))) n)).2 s2
      rw [e2]
      exact h2
  refine loopI2 (fun x a s => Run MX5_upAndDown (d + 4) 4 [some (.ref (32 + 6 * k)), some (.int a), some (.int x)] [] s _) (fun j a s => a = nI j ∧ cN k n (sq n (fun r => mk (hb 3 r) n) p j).1 (sq n (fun r => mk (hb 3 r) n) p j).2 s ∧ Fr (FN k) [] σ s) (uU n) ?_ ?_ 0 0 σ (by omega) ⟨rfl, hc, Fr.rf⟩
  · rintro a s ⟨ha, h1, hF⟩
    have fin : Run MX5_upAndDown (d + 4) 38 [some (.ref (32 + 6 * k)), none, some (.int (a - 1))] [] s (fun v σ' => v = none ∧ cN k n (pV n p).1 (pV n p).2 σ' ∧ Fr (FN k) [] σ σ') := by
      have t := down (uU n) s (Nat.le_refl _) (by rw [Nat.sub_self]; exact h1) hF
      rw [ha, show nI (uU n) - 1 = nI (uU n) + (-1) from Int32.sub_eq_add_neg _ _]
      exact t
    refine bX5_upAndDown_4 _ a (nI (uU n)) s g2 (fun _ => fin) (fun _ _ => fin) (fun q5 q => ?_)
    have lt : uU n < 5 := (nI_ltI (b := 5) (by omega) (by decide)).mp q5
    rw [h1.1, two_sh _ lt] at q
    have : 2 ^ (uU n + 1) ≤ 2 ^ 6 := Nat.pow_le_pow_right (by decide) (by omega)
    exact absurd q (nI_ge un (by omega))
  · rintro j a s hj ⟨ha, h1, hF⟩ ih
    obtain ⟨o1, o2⟩ := sq_ok (f := fun r => mk (hb 3 r) n) hok j (by omega)
    have lt := (uU_1 n (by omega) j (by omega)).mp hj
    refine bX5_upAndDown_4 _ a (nI j) s g2 (fun q => absurd q (nI_ge (show j < 5 by omega) (by decide))) (fun _ q => ?_) (fun _ _ => ?_)
    · rw [h1.1, two_sh _ (by omega)] at q
      exact absurd q (nI_nlt lt (by omega))
    · refine (tX5_addRow d k n _ _ 3 j k8 o1 (by omega) (by omega) (by omega) (fun _ => by omega) (fun q => absurd q (by decide)) s h1).mono ?_
      rintro v s2 ⟨hv, h2, hF2⟩
      rw [hv]
      refine bX5_upAndDown_25 _ _ _ s2 g2 (ih _ s2 ⟨?_, h2, hF.tr hF2⟩)
      rw [ha, nI_succ]
def pL (n law : Nat) : Nat × (Nat → Nat) := match law with
  | 0 => sq n (fun r => mk (hb 0 r) n) p0 (n - 1)
  | 1 => sq n (fun r => mk (hb 1 r) n) p0 (uD n)
  | 2 => sq n (fun r => mk (hb 2 r) n) p0 (uD n)
  | 3 => pV n p0
  | _ => ad n (sq n (fun r => mk (hb 5 r) n) p0 (uD n)) (mk (hb 6 0) n)
theorem pL_ok {n : Nat} (h2 : 2 ≤ n) (h : n ≤ 32) (law : Nat) : okN n (pL n law).1 (pL n law).2 := by
  have o := p0_ok h2 h
  obtain ⟨u5, _⟩ := uD_2 n (by omega)
  obtain ⟨v5, _⟩ := uU_2 n (by omega)
  have z : p0.1 = 0 := rfl
  unfold pL
  split
  · exact (sq_ok o _ (by omega)).1
  · exact (sq_ok o _ (by omega)).1
  · exact (sq_ok o _ (by omega)).1
  · have t := sq_ok (f := fun r => mk (hb 3 r) n) o (uU n) (by omega)
    exact (sq_ok t.1 _ (by omega)).1
  · have t := sq_ok (f := fun r => mk (hb 5 r) n) o (uD n) (by omega)
    exact (ad_ok _ t.1 (by omega)).1
theorem tX5_fill (d k n law : Nat) (k8 : k < 8) (h2 : 2 ≤ n) (h32 : n ≤ 32) (hl : law < 5) (σ : St) : Ct yX5_fill MX5_fill (d + 5) [.ref (32 + 6 * k), .int (nI n), .int (nI law)] σ (fun v σ' => v = none ∧ cN k n (pL n law).1 (pL n law).2 σ' ∧ Fr (FN k) [] σ σ') := by
  have g2 := (nt_a k k8).2.1
  have o := p0_ok h2 h32
  have z : p0.1 = 0 := rfl
  refine Ct.of mX5_fill.1 (Nat.le_of_ble_eq_true rfl) (bX5_fill_0 _ (nI n) (nI law) σ g2 ((tX6_begin (d + 2) k n p0.2 k8 h32 σ).mono ?_))
  rintro v s ⟨hv, hs, hF⟩
  rw [hv]
  have ne : ∀ j, j < 5 → nI law = nI j → law = j := fun j hj q => (nI_eq (by omega) (by omega)).mp q
  refine bX5_fill_5 _ (nI law) s g2 (fun q => ?_) (fun q => ?_) (fun q => ?_) (fun q => ?_) (fun q => ?_)
  · have e := ne 0 (by decide) q; subst e
    refine (tX5_oneByOne d k n p0 k8 o z s hs).mono ?_
    rintro v2 s2 ⟨hv2, h1, hF2⟩
    rw [hv2]
    exact bX5_fill_40 s2 ⟨rfl, h1, hF.tr hF2⟩
  · have e := ne 1 (by decide) q; subst e
    refine (tX5_doubling d k n 1 p0 k8 (by decide) o (by decide) s hs).mono ?_
    rintro v2 s2 ⟨hv2, h1, hF2⟩
    rw [hv2]
    exact bX5_fill_48 s2 ⟨rfl, h1, hF.tr hF2⟩
  · have e := ne 2 (by decide) q; subst e
    refine (tX5_doubling d k n 2 p0 k8 (by decide) o (by decide) s hs).mono ?_
    rintro v2 s2 ⟨hv2, h1, hF2⟩
    rw [hv2]
    exact bX5_fill_56 s2 ⟨rfl, h1, hF.tr hF2⟩
  · have e := ne 3 (by decide) q; subst e
    refine (tX5_upAndDown d k n p0 k8 o z s hs).mono ?_
    rintro v2 s2 ⟨hv2, h1, hF2⟩
    rw [hv2]
    exact bX5_fill_63 s2 ⟨rfl, h1, hF.tr hF2⟩
  · rw [nI_toInt (by omega)] at q
    have e : law = 4 := by omega
    subst e
    obtain ⟨u5, _⟩ := uD_2 n (by omega)
    refine (tX5_doubling d k n 5 p0 k8 (by decide) o (by decide) s hs).mono ?_
    rintro v2 s2 ⟨hv2, h1, hF2⟩
    rw [hv2]
    have t := sq_ok (f := fun r => mk (hb 5 r) n) o (uD n) (by omega)
    refine bX5_fill_71 _ s2 g2 ((tX5_addRow (d + 1) k n _ _ 6 0 k8 t.1 (by omega) (by decide) (by decide) (fun _ => by decide) (fun _ => rfl) s2 h1).mono ?_)
    rintro v3 s3 ⟨hv3, h3, hF3⟩
    rw [hv3]
    exact bX5_fill_78 s3 ⟨rfl, h3, (hF.tr hF2).tr hF3⟩
end LAWSF

section HEAPM
theorem mxI2 {a b : Nat} (ha : a < 2 ^ 31) (hb : b < 2 ^ 31) : (if nI b ≤ nI a then nI a else nI b) = nI (max a b) := by
  by_cases h : b ≤ a
  · rw [if_pos ((nI_leI hb ha).mpr h), Nat.max_eq_left h]
  · rw [if_neg (fun q => h ((nI_leI hb ha).mp q)), Nat.max_eq_right (by omega)]
def rH (a : Nat) (σ : St) (h : Nat → Nat) : Prop := ∀ c, c < 12 → σ.1 a c = nI (h c) ∧ h c ≤ 12
theorem tX11_greatest (d a : Nat) (σ : St) (ha : kd a = 100) (la : ln a = 12) (h : Nat → Nat) (hh : rH a σ h) : Ct yX11_greatest MX11_greatest d [.ref a] σ (fun v σ' => v = some (.int (nI (gst h 12))) ∧ σ' = σ) := by
  refine Ct.of mX11_greatest.1 (Nat.le_of_ble_eq_true rfl) (bX11_greatest_0 a σ ha ?_)
  refine loopI1 (fun x b => Run MX11_greatest d 4 [some (.ref a), some (.int b), some (.int x)] [] σ _) (fun k b => b = nI (gst h k)) 12 ?_ ?_ 0 0 (by decide) rfl
  · intro b hb
    exact bX11_greatest_4 a b (nI 12) σ ha (fun q => absurd q (by decide)) (fun _ => ⟨by rw [hb], rfl⟩) (fun q => absurd q (by decide))
  · intro k b hk hb ih
    refine bX11_greatest_4 a b (nI k) σ ha (fun _ => by rw [la]; exact vp_in_nI hk (by decide)) (fun q => absurd q (nI_ge hk (by decide))) (fun _ => ih _ ?_)
    have h1 := gst_le (h := h) (b := 12) (n := k) (fun c hc => (hh c (by omega)).2)
    have h2 := (hh k hk).2
    rw [hb, nI_clamp (by omega), (hh k hk).1, mxI2 (by omega) (by omega)]; rfl
theorem tX11_allBits (d : Nat) (σ : St) (h : Nat → Nat) (hh : rH 106 σ h) : Ct yX11_allBits MX11_allBits d [.ref 88] σ (fun v σ' => v = some (.int (nI (sm h 12))) ∧ σ' = σ) := by
  refine Ct.of mX11_allBits.1 (Nat.le_of_ble_eq_true rfl) (bX11_allBits_0 σ ?_)
  refine loopI1 (fun x b => Run MX11_allBits d 4 [some (.ref 88), some (.int b), some (.int x)] [] σ _) (fun k b => b = nI (sm h k)) 12 ?_ ?_ 0 0 (by decide) rfl
  · intro b hb
    exact bX11_allBits_4 b (nI 12) σ (fun q => absurd q (by decide)) (fun _ => ⟨by rw [hb], rfl⟩) (fun q => absurd q (by decide))
  · intro k b hk hb ih
    refine bX11_allBits_4 b (nI k) σ (fun _ => vp_in_nI hk (by decide)) (fun q => absurd q (nI_ge hk (by decide))) (fun _ => ih _ ?_)
    rw [hb, nI_clamp (by omega), (hh k hk).1, nI_add]; rfl
theorem tX11_copies (d : Nat) (σ : St) : Ct yX11_copies MX11_copies d [.ref 88] σ (fun v σ' => v = none ∧ Fr [107] [32, 33, 34] σ σ' ∧ (∀ c, c < 12 → σ'.1 107 c = σ.1 106 c) ∧ σ'.1 88 32 = 0 ∧ σ'.1 88 33 = 0 ∧ σ'.1 88 34 = 0) := by
  refine Ct.of mX11_copies.1 (Nat.le_of_ble_eq_true rfl) (bX11_copies_0 σ ?_)
  refine loopI1 (fun x s => Run MX11_copies d 2 [some (.ref 88), some (.int x)] [] s _) (fun k s => Fr [107] [32, 33, 34] σ s ∧ ∀ c, c < k → s.1 107 c = σ.1 106 c) 12 ?_ ?_ 0 σ (by decide) ⟨Fr.rf, fun c hc => absurd hc (Nat.not_lt_zero c)⟩
  · intro s hs
    refine bX11_copies_2 (nI 12) s (fun q => absurd q (by decide)) (fun _ => ⟨rfl, ((hs.1.tF (by decide)).tF (by decide)).tF (by decide), fun c hc => hs.2 c hc, rfl, rfl, rfl⟩) (fun q => absurd q (by decide))
  · intro k s hk hs ih
    refine bX11_copies_2 (nI k) s (fun _ => vp_in_nI hk (by decide)) (fun q => absurd q (nI_ge hk (by decide))) (fun _ => ih _ ⟨hs.1.tA (by decide) (by decide), fun c hc => ?_⟩)
    rw [sA_at, nI_clamp (by omega), upd_eq, hs.1.1 106 (by decide) (by decide)]
    by_cases e : c = k
    · rw [if_pos e, e]
    · rw [if_neg e]; exact hs.2 c (by omega)
def mD (law T : Nat) (h : Nat → Nat) (σ σ' : St) : Prop := Fr [107] [32, 33, 34] σ σ' ∧ (∀ c, c < 12 → σ'.1 107 c = nI (hpH law T h c)) ∧ σ'.1 88 32 = σ.1 88 32 + nI (hpTs law T h 12) ∧ σ'.1 88 33 = σ.1 88 33 + nI (hpWs law T h 12) ∧ σ'.1 88 34 = σ.1 88 34 + nI (hpC law T h 12)
theorem tX11_rowDown (d law : Nat) (hl : law ≤ 1) (σ : St) (h : Nat → Nat) (hh : rH 107 σ h) : Ct yX11_rowDown MX11_rowDown (d + 1) [.ref 88, .int (nI law)] σ (fun v σ' => v = none ∧ mD law (gT (gst h 12)) h σ σ') := by
  have hb : ∀ c, c < 12 → h c ≤ 12 := fun c hc => (hh c hc).2
  refine Ct.of mX11_rowDown.1 (Nat.le_of_ble_eq_true rfl) (bX11_rowDown_0 (nI law) σ ?_)
  have hg12 := gst_le (h := h) (b := 12) (n := 12) hb
  -- the columns
  have cols : ∀ T, T ≤ 9 → T = gT (gst h 12) → Run MX11_rowDown (d + 1) 31 [some (.ref 88), some (.int (nI law)), some (.int 0), some (.int (nI T)), some (.int 0), none, none, none] [] σ (fun v σ' => v = none ∧ mD law (gT (gst h 12)) h σ σ') := by
    intro T hT9 hTe
    rw [← hTe]
    refine loopI2 (fun x a s => Run MX11_rowDown (d + 1) 31 [some (.ref 88), some (.int (nI law)), some (.int a), some (.int (nI T)), some (.int x), none, none, none] [] s _) (fun k a s => a = nI (hpC law T h k) ∧ Fr [107] [32, 33, 34] σ s ∧ (∀ c, c < k → s.1 107 c = nI (hpH law T h c)) ∧ (∀ c, k ≤ c → c < 12 → s.1 107 c = nI (h c)) ∧ s.1 88 32 = σ.1 88 32 + nI (hpTs law T h k) ∧ s.1 88 33 = σ.1 88 33 + nI (hpWs law T h k) ∧ s.1 88 34 = σ.1 88 34) 12 ?_ ?_ 0 0 σ (by decide) ⟨rfl, Fr.rf, fun c hc => absurd hc (Nat.not_lt_zero c), fun c _ hc => (hh c hc).1, (by show _ = _ + nI 0; rw [nI_0]; simp), (by show _ = _ + nI 0; rw [nI_0]; simp), rfl⟩
    · intro a s ⟨ha, hF, h1, h2, h3, h4, h5⟩
      refine bX11_rowDown_31 (nI law) a (nI T) (nI 12) s (fun q => absurd q (by decide)) (fun _ => ⟨rfl, hF.tF (by decide), fun c hc => h1 c hc, h3, h4, ?_⟩) (fun q => absurd q (by decide)) (fun q => absurd q (by decide))
      show s.1 88 34 + a = _
      rw [h5, ha]
    · intro k a s hk ⟨ha, hF, h1, h2, h3, h4, h5⟩ ih
      have hck := hb k hk
      have hC := (hpC_le (law := law) (T := T) hb k (by omega)).1
      have e1 : s.1 107 (nI k).toNatClampNeg = nI (h k) := by rw [nI_clamp (by omega)]; exact h2 k (Nat.le_refl _) hk
      refine bX11_rowDown_31 (nI law) a (nI T) (nI k) s (fun _ => vp_in_nI hk (by decide)) (fun q => absurd q (nI_ge hk (by decide))) (fun _ hl0 => ?_) (fun _ hl0 => ?_)
      · -- late
        have hl1 : law = 1 := by
          rcases (show law = 0 ∨ law = 1 by omega) with e | e
          · subst e; exact absurd rfl hl0
          · exact e
        subst hl1
        rw [e1, ha, nI_add]
        have fin : ∀ (x5 x6 H : Nat), x5 = (h k + hpC 1 T h k - T) / 2 → x6 = (h k + hpC 1 T h k - T) % 2 → H = hpH 1 T h k → H ≤ T → Run MX11_rowDown (d + 1) 107 [some (.ref 88), some (.int (nI 1)), none, some (.int (nI T)), some (.int (nI k)), some (.int (nI x5)), some (.int (nI x6)), some (.int (nI H))] [] s (fun v σ' => v = none ∧ mD 1 T h σ σ') := by
          intro x5 x6 H e5 e6 eH hHT
          refine bX11_rowDown_107 (nI 1) (nI T) (nI k) (nI x5) (nI x6) (nI H) s (fun _ => vp_in_nI hk (by decide)) (fun _ => ih _ _ ⟨?_, ?_, ?_, ?_, ?_, ?_, ?_⟩) (fun q => absurd ((nI_ltI (by omega) (by omega)).mp q) (by omega))
          · rw [nI_add, e5, e6]; rfl
          · exact ((hF.tA (by decide) (by decide)).tF (k := 32) (by decide)).tF (k := 33) (by decide)
          · intro c hc
            show upd (s.1 107) (nI k).toNatClampNeg (nI H) c = _
            rw [nI_clamp (by omega), upd_eq]
            by_cases e : c = k
            · subst e; rw [if_pos rfl, eH]
            · rw [if_neg e]; exact h1 c (by omega)
          · intro c hc hc2
            show upd (s.1 107) (nI k).toNatClampNeg (nI H) c = _
            rw [nI_clamp (by omega), upd_eq, if_neg (by omega)]
            exact h2 c (by omega) hc2
          · show s.1 88 32 + nI x5 = _
            rw [h3, Int32.add_assoc, nI_add, e5]; rfl
          · show s.1 88 33 + nI x6 = _
            rw [h4, Int32.add_assoc, nI_add, e6]; rfl
          · exact h5
        have eHH : hpH 1 T h k = h k + hpC 1 T h k - (h k + hpC 1 T h k - T) := by
          unfold hpH hpT hpW
          rw [if_neg (by decide), if_neg (by decide)]; omega
        refine loopM3 (fun x5 x6 H => Run MX11_rowDown (d + 1) 107 [some (.ref 88), some (.int (nI 1)), none, some (.int (nI T)), some (.int (nI k)), some (.int (nI x5)), some (.int (nI x6)), some (.int (nI H))] [] s (fun v σ' => v = none ∧ mD 1 T h σ σ')) (fun x5 x6 H => H < 100 ∧ (H ≤ T → H = hpH 1 T h k ∧ 2 * x5 + x6 = h k + hpC 1 T h k - T ∧ x6 ≤ 1) ∧ (T < H → x6 = 0 ∧ 2 * x5 + (H - T) = h k + hpC 1 T h k - T)) (fun _ _ H => H) ?_ 0 0 (h k + hpC 1 T h k) ⟨by omega, fun q => by omega, fun q => by omega⟩
        intro x5 x6 H ⟨hH, i1, i2⟩ ih2
        by_cases hHT : H ≤ T
        · have := i1 hHT
          exact fin x5 x6 H (by omega) (by omega) this.1 hHT
        · have i2 := i2 (by omega)
          refine bX11_rowDown_107 (nI 1) (nI T) (nI k) (nI x5) (nI x6) (nI H) s (fun _ => vp_in_nI hk (by decide)) (fun q => absurd ((nI_leI (by omega) (by omega)).mp q) hHT) (fun _ => ?_)
          rw [nI_1]
          by_cases e : H = T + 1
          · have ec : nI H = nI (T + 1) := by rw [e]
            rw [bI_neg (fun q => q ec), bI_pos ec, if_pos ec]
            rw [Int32.add_zero, nI_1 x6, show nI H - 1 = nI (H - 1) from pk_sub (a := H) (b := 1) (by omega)]
            exact ih2 x5 (x6 + 1) (H - 1) ⟨by omega, fun q => by omega, fun q => by omega⟩ (by omega)
          · have ec : ¬ nI H = nI (T + 1) := fun q => e ((nI_eq (by omega) (by omega)).mp q)
            rw [bI_pos ec, bI_neg ec, if_neg ec]
            rw [Int32.add_zero, nI_1 x5, show nI H - 2 = nI (H - 2) from pk_sub (a := H) (b := 2) (by omega)]
            exact ih2 (x5 + 1) x6 (H - 2) ⟨by omega, fun q => by omega, fun q => by omega⟩ (by omega)
      · -- at once
        have hl1 : law = 0 := by
          rcases (show law = 0 ∨ law = 1 by omega) with e | e
          · exact e
          · subst e; exact absurd hl0 (by decide)
        subst hl1
        have eT : hpT 0 T (h k) (hpC 0 T h k) = h k / 3 := rfl
        have eW : hpW 0 T (h k) (hpC 0 T h k) = (if 2 < h k ∧ h k % 3 = 2 then 1 else 0) := rfl
        refine ih _ _ ⟨?_, ?_, ?_, ?_, ?_, ?_, ?_⟩
        · rw [e1, i3w' (by omega), i3d (by omega), nI_add]; rfl
        · exact ((hF.tA (by decide) (by decide)).tF (k := 32) (by decide)).tF (k := 33) (by decide)
        · intro c hc
          show upd (s.1 107) (nI k).toNatClampNeg _ c = _
          rw [e1, i3w' (by omega), i3d (by omega), ha, nI_clamp (by omega), upd_eq]
          by_cases e : c = k
          · subst e
            rw [if_pos rfl]
            have hw := hpW_le 0 T (h c) (hpC 0 T h c)
            unfold hpH
            rw [eT, eW] at *
            have hw2 : 2 * (h c / 3) + (if 2 < h c ∧ h c % 3 = 2 then 1 else 0) ≤ h c := by split <;> omega
            generalize (if 2 < h c ∧ h c % 3 = 2 then 1 else 0) = w at *
            (simp only [nI_zI, zl0, zl1, zl2, zl3, zl4, zl5, zl6, zl7, zl8, zl9, zl10, zl11, zl12, zl13, zl14, zl15, zl16, zl24, zl30, zl31, zl32, zl48, zl56, zl57, zl60, zl63, zl99, zl100, zl130, zl199, zl200, zl240, zl999, zl1000, ← zI_add, ← zI_sub, ← zI_mul, ← zI_neg] <;> first | rfl | (congr 1; omega))
          · rw [if_neg e]; exact h1 c (by omega)
        · intro c hc hc2
          show upd (s.1 107) (nI k).toNatClampNeg _ c = _
          rw [nI_clamp (by omega), upd_eq, if_neg (by omega)]
          exact h2 c (by omega) hc2
        · show s.1 88 32 + s.1 107 (nI k).toNatClampNeg / 3 = _
          rw [e1, i3d (by omega), h3, Int32.add_assoc, nI_add]; rfl
        · show s.1 88 33 + bI _ = _
          rw [e1, i3w' (by omega), h4, Int32.add_assoc, nI_add]; rfl
        · exact h5
  have st : ∀ (a e : Nat), a ≤ 9 → e = a + a / 2 → (gst h 12 ≤ e → gT (gst h 12) = a) → (e < gst h 12 → Run MX11_rowDown (d + 1) 4 [some (.ref 88), some (.int (nI law)), some (.int 0), some (.int (nI e)), none, none, none, none] [] σ (fun v σ' => v = none ∧ mD law (gT (gst h 12)) h σ σ')) → Run MX11_rowDown (d + 1) 4 [some (.ref 88), some (.int (nI law)), some (.int 0), some (.int (nI a)), none, none, none, none] [] σ (fun v σ' => v = none ∧ mD law (gT (gst h 12)) h σ σ') := by
    intro a e ha he h2 h3
    refine bX11_rowDown_4 _ _ _ σ ((tX11_greatest d 107 σ kd_107 ln_107 h hh).mono ?_)
    rintro v1 s1 ⟨hv, hs⟩
    rw [hv, hs]
    have e2 : nI a + nI a / 2 = nI e := by rw [i2d (by omega), nI_add, ← he]
    rw [e2]
    refine bX11_rowDown_16 (nI law) 0 (nI a) (nI (gst h 12)) (nI e) σ (fun q => ?_) (fun q => ?_)
    · have := (nI_leI (by omega) (by omega)).mp q
      exact cols a ha (h2 this).symm
    · rw [e2]; exact h3 ((nI_ltI (by omega) (by omega)).mp q)
  generalize hg : gst h 12 = g at hg12 st ⊢
  refine st 2 3 (by decide) rfl (fun q => by unfold gT; rw [if_pos q]) (fun q1 => ?_)
  refine st 3 4 (by decide) rfl (fun q => by unfold gT; rw [if_neg (by omega), if_pos q]) (fun q2 => ?_)
  refine st 4 6 (by decide) rfl (fun q => by unfold gT; rw [if_neg (by omega), if_neg (by omega), if_pos q]) (fun q3 => ?_)
  refine st 6 9 (by decide) rfl (fun q => by unfold gT; rw [if_neg (by omega), if_neg (by omega), if_neg (by omega), if_pos q]) (fun q4 => ?_)
  exact st 9 13 (by decide) rfl (fun q => by unfold gT; rw [if_neg (by omega), if_neg (by omega), if_neg (by omega), if_neg (by omega)]) (fun q5 => absurd q5 (by omega))
end HEAPM

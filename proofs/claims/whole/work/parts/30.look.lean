/-! JUDGE: what there is to tell of a NET -/
section LOOK
def b1 (m i : Nat) : Nat := if m.testBit i = true then 1 else 0
def wy (m : Nat) (L : Nat → Nat) (i : Nat) : Nat := if m.testBit i = true then i - (L i - 1) else 0
def tcT (m : Nat) (L : Nat → Nat) (p : Nat) : Nat := sm (fun i => if m.testBit i = true ∧ L i ≤ p ∧ p ≤ i then 1 else 0) 32
theorem sm_add2 {f g h e : Nat → Nat} : ∀ {n : Nat}, (∀ i, i < n → f i + g i = h i + e i) → sm f n + sm g n = sm h n + sm e n
  | 0, _ => rfl
  | n + 1, q => by
    have a := sm_add2 (n := n) (fun i hi => q i (by omega))
    have b := q n (by omega)
    show sm f n + f n + (sm g n + g n) = sm h n + h n + (sm e n + e n); omega
theorem sm_one (x p : Nat) : ∀ n, sm (fun i => if i = p then x else 0) n = if p < n then x else 0
  | 0 => by rw [if_neg (Nat.not_lt_zero p)]; rfl
  | n + 1 => by
    show sm (fun i => if i = p then x else 0) n + (if n = p then x else 0) = _
    rw [sm_one x p n]
    by_cases e : n = p
    · rw [if_pos e, if_neg (by omega), if_pos (by omega)]; omega
    · rw [if_neg e]
      by_cases c : p < n
      · rw [if_pos c, if_pos (by omega)]; rfl
      · rw [if_neg c, if_neg (by omega)]
theorem tcT_step {m : Nat} {L : Nat → Nat} (hL : ∀ i, L i ≤ i) (hm : okR 32 L m) {p : Nat} (hp : p < 32) : tcT m L (p + 1) + b1 m p = tcT m L p + ld m L 32 p := by
  have e : b1 m p = sm (fun i => if i = p then b1 m p else 0) 32 := by rw [sm_one, if_pos hp]
  rw [e]
  unfold tcT ld
  refine sm_add2 (fun i hi => ?_)
  have := hL i
  by_cases b : m.testBit i = true
  · have := (hm i b).2
    simp only [b, true_and]
    by_cases e : i = p
    · subst e
      rw [if_neg (by omega), if_pos rfl, if_pos (by omega), if_neg (by omega)]; unfold b1; rw [if_pos b]
    · rw [if_neg e]
      by_cases c1 : L i ≤ p + 1 ∧ p + 1 ≤ i
      · rw [if_pos c1]
        by_cases c2 : L i = p + 1
        · rw [if_neg (by omega), if_pos c2]
        · rw [if_pos (by omega), if_neg c2]
      · rw [if_neg c1, if_neg (by omega), if_neg (by omega)]
  · have b' : m.testBit i = false := by cases h : m.testBit i; rfl; exact absurd h b
    simp only [b', false_and, if_false, Bool.false_eq_true]
    by_cases e : i = p
    · subst e; rw [if_pos rfl]; unfold b1; rw [if_neg b]
    · rw [if_neg e]
theorem tcT_0 {m : Nat} {L : Nat → Nat} (hm : okR 32 L m) : tcT m L 0 = 0 := by
  unfold tcT
  rw [sm_cong (g := fun _ => 0) (fun i hi => by
    rw [if_neg]
    rintro ⟨b, c, _⟩
    have := (hm i b).2; omega)]
  have := sm_le (h := fun _ => 0) (b := 0) (n := 32) (fun _ _ => Nat.le_refl _); omega
theorem tcT_32 (m : Nat) (L : Nat → Nat) : tcT m L 32 = 0 := by
  unfold tcT
  rw [sm_cong (g := fun _ => 0) (fun i hi => by rw [if_neg]; rintro ⟨_, _, c⟩; omega)]
  have := sm_le (h := fun _ => 0) (b := 0) (n := 32) (fun _ _ => Nat.le_refl _); omega
theorem tcT_le (m : Nat) (L : Nat → Nat) (p : Nat) : tcT m L p ≤ 32 := by
  have := sm_le (h := fun i => if m.testBit i = true ∧ L i ≤ p ∧ p ≤ i then 1 else 0) (b := 1) (n := 32) (fun c _ => by show (if _ then 1 else 0) ≤ 1; split <;> omega)
  unfold tcT; omega
theorem wy_le (m : Nat) (L : Nat → Nat) (i : Nat) : wy m L i ≤ i + 1 := by unfold wy; split <;> omega
/-- figures of a NET behind r ROWS -/
def fC (R : Nat → Nat) (n r : Nat) : Nat := sm (fun q => sm (b1 (R q)) n) r
def fL (R : Nat → Nat) (n r : Nat) : Nat := gst (fun q => gst (ld (R q) (lw R q) n) n) r
def fW (R : Nat → Nat) (n r : Nat) : Nat := sm (fun q => sm (wy (R q) (lw R q)) n) r
def fM (R : Nat → Nat) (r : Nat) : Nat := gst (fun q => gst (fun p => tcT (R q) (lw R q) (p + 1)) 32) r
def fG (R : Nat → Nat) (n r : Nat) : Nat := gst (fun q => gst (wy (R q) (lw R q)) n) r
theorem ld_succ (m : Nat) (L : Nat → Nat) (j p : Nat) : ld m L (j + 1) p = ld m L j p + if m.testBit j = true ∧ L j = p + 1 then 1 else 0 := rfl
theorem tX4_lookAtCells (d n m : Nat) (L : Nat → Nat) (c0 l0 w0 m0 g0 : Nat) (hn : n ≤ 32) (hL : ∀ i, L i ≤ i) (hm : okR n L m) (hc0 : c0 < 2 ^ 20) (hl0 : l0 < 2 ^ 20) (hw0 : w0 < 2 ^ 20) (hg0 : g0 < 2 ^ 20) (σ : St) (h0 : σ.1 8 0 = nI c0 ∧ σ.1 8 1 = nI l0 ∧ σ.1 8 2 = nI w0 ∧ σ.1 8 3 = nI m0 ∧ σ.1 8 4 = nI g0) (h2 : ∀ i, i < n → σ.1 11 i = tk m L i) (h3 : ∀ i, i < n → σ.1 12 i = nI (ld m L n i)) : Ct yX4_lookAtCells MX4_lookAtCells (d + 2) [.ref 8, .int (nI n)] σ (fun v σ' => v = none ∧ (σ'.1 8 0 = nI (c0 + sm (b1 m) n) ∧ σ'.1 8 1 = nI (max l0 (gst (ld m L n) n)) ∧ σ'.1 8 2 = nI (w0 + sm (wy m L) n) ∧ σ'.1 8 3 = nI m0 ∧ σ'.1 8 4 = nI (max g0 (gst (wy m L) n))) ∧ (∀ q, q < 32 → σ'.1 13 q = zI ((ld m L 32 q : Int) - (b1 m q : Int))) ∧ Fr [8, 13] [] σ σ') := by
  refine Ct.of mX4_lookAtCells.1 (Nat.le_of_ble_eq_true rfl) (bX4_lookAtCells_0 (nI n) σ ?_)
  refine loopI1 (fun x s => Run MX4_lookAtCells (d + 2) 2 [some (.ref 8), some (.int (nI n)), some (.int x), none] [] s _) (fun j s => Fr [8, 13] [] σ s ∧ s.1 8 = σ.1 8 ∧ ∀ i, i < j → s.1 13 i = 0) 32 ?_ ?_ 0 σ (by omega) ⟨Fr.rf, rfl, fun i hi => absurd hi (Nat.not_lt_zero i)⟩
  · intro s ⟨hF, e8, h13⟩
    refine bX4_lookAtCells_2 (nI n) (nI 32) s (fun q => absurd q (by decide)) (fun _ => ?_) (fun q => absurd q (by decide))
    refine loopI1 (fun x s => Run MX4_lookAtCells (d + 2) 26 [some (.ref 8), some (.int (nI n)), some (.int x), none] [] s _) (fun j s => Fr [8, 13] [] σ s ∧ (s.1 8 0 = nI (c0 + sm (b1 m) j) ∧ s.1 8 1 = nI (max l0 (gst (ld m L n) j)) ∧ s.1 8 2 = nI (w0 + sm (wy m L) j) ∧ s.1 8 3 = nI m0 ∧ s.1 8 4 = nI (max g0 (gst (wy m L) j))) ∧ ∀ q, q < 32 → s.1 13 q = zI ((ld m L j q : Int) - ((if q < j then b1 m q else 0 : Nat) : Int))) n ?_ ?_ 0 s (by omega) ⟨hF, ?_, fun q hq => ?_⟩
    · intro s ⟨hF, h8, h13⟩
      refine bX4_lookAtCells_26 (nI n) (nI n) s (fun _ => ⟨rfl, h8, fun q hq => ?_, hF⟩) (fun q => absurd q (nI_nlt (Nat.le_refl _) (by omega))) (fun q => absurd q (nI_nlt (Nat.le_refl _) (by omega)))
      rw [h13 q hq, ld_32 hn hm]
      by_cases c : q < n
      · rw [if_pos c]
      · rw [if_neg c]
        have : b1 m q = 0 := by
          unfold b1; rw [if_neg]
          intro b; have := (hm q b).1; omega
        rw [this]
    · intro j s hj ⟨hF, ⟨g0', g1, g2, g3, g4⟩, h13⟩ ih
      have hLj := hL j
      have bl := ld_le m L n j
      have s1 : sm (b1 m) j ≤ 32 := by
        have := sm_le (h := b1 m) (b := 1) (n := j) (fun c _ => by unfold b1; split <;> omega)
        omega
      have s2 : sm (wy m L) j ≤ 32 * 33 := by
        have := sm_le (h := wy m L) (b := 33) (n := j) (fun c hc => by have := wy_le m L c; omega)
        have : j * 33 ≤ 32 * 33 := Nat.mul_le_mul_right _ (by omega)
        omega
      have s3 : gst (ld m L n) j ≤ 32 := gst_le (fun c _ => by have := ld_le m L n c; omega)
      have s4 : gst (wy m L) j ≤ 33 := gst_le (fun c hc => by have := wy_le m L c; omega)
      have eL : aG (gr 9 3) (nI j) s = nI (ld m L n j) := by
        rw [aG_in (a := gr 9 3) (n := 32) rfl (by omega)]
        show s.1 12 j = _
        rw [hF.1 12 (by decide) (by decide)]; exact h3 j hj
      have eA : ∀ g, aG (gr 9 2) (nI j) (sA s 8 g) = tk m L j := fun g => by
        rw [aG_in (a := gr 9 2) (n := 32) rfl (by omega)]
        show s.1 11 j = _
        rw [hF.1 11 (by decide) (by decide)]; exact h2 j hj
      have eX1 : mxI (s.1 8 1) (aG (gr 9 3) (nI j) s) = nI (max l0 (gst (ld m L n) (j + 1))) := by
        rw [g1, eL, mx_nI (by omega) (by omega)]; congr 1
        show _ = max l0 (max _ _)
        rw [Nat.max_assoc]
      refine bX4_lookAtCells_26 (nI n) (nI j) s (fun q => absurd q (nI_ge hj (by omega))) (fun _ q => ?_) (fun _ q => ?_)
      · rw [eX1, eA] at q
        rw [eX1]
        have b : ¬ m.testBit j = true := fun b => by unfold tk at q; rw [if_pos b] at q; exact absurd q (m4 (by omega))
        have z1 : b1 m j = 0 := by unfold b1; rw [if_neg b]
        have z2 : wy m L j = 0 := by unfold wy; rw [if_neg b]
        refine ih _ ⟨hF.tA (by decide) (by decide), ⟨?_, ?_, ?_, ?_, ?_⟩, fun q hq => ?_⟩
        · rw [sA_at, upd_eq, if_neg (by decide), g0']; show _ = nI (c0 + (sm (b1 m) j + b1 m j)); rw [z1, Nat.add_zero]
        · rw [sA_at, upd_eq, if_pos rfl]
        · rw [sA_at, upd_eq, if_neg (by decide), g2]; show _ = nI (w0 + (sm (wy m L) j + wy m L j)); rw [z2, Nat.add_zero]
        · rw [sA_at, upd_eq, if_neg (by decide), g3]
        · rw [sA_at, upd_eq, if_neg (by decide), g4]; show _ = nI (max g0 (max (gst (wy m L) j) (wy m L j))); rw [z2, Nat.max_zero]
        · rw [sA_ne (by decide), h13 q hq, ld_succ, if_neg (show ¬ (m.testBit j = true ∧ L j = q + 1) from fun t => b t.1)]
          congr 1
          by_cases c : q < j
          · rw [if_pos c, if_pos (by omega)]; rfl
          · rw [if_neg c]
            by_cases e : q = j
            · rw [if_pos (by omega), e, z1]; rfl
            · rw [if_neg (by omega)]; rfl
      · rw [eX1, eA] at q
        have b : m.testBit j = true := Decidable.byContradiction (fun nb => by unfold tk at q; rw [if_neg nb] at q; exact q rfl)
        have h1 := (hm j b).2
        have et : tk m L j = nI (L j - 1) := by unfold tk; rw [if_pos b]
        have z1 : b1 m j = 1 := by unfold b1; rw [if_pos b]
        have z2 : wy m L j = j - (L j - 1) := by unfold wy; rw [if_pos b]
        have e13 : ∀ ga gb gc gd, aG 13 (nI (L j - 1)) (sA (sA (sA (sA s 8 ga) 8 gb) 8 gc) 8 gd) = s.1 13 (L j - 1) := fun ga gb gc gd => by
          rw [aG_in (a := 13) (n := 32) rfl (by omega)]; rfl
        simp only [eX1, eA, et, e13]
        rw [aP_in (a := 13) (n := 32) rfl (show L j - 1 < 32 by omega), aG_in (a := 13) (n := 32) rfl (show j < 32 by omega), aP_in (a := 13) (n := 32) rfl (show j < 32 by omega)]
        have ew : nI j - nI (L j - 1) = nI (wy m L j) := by rw [pk_sub (by omega), z2]
        have eg : mxI (s.1 8 4) (nI j - nI (L j - 1)) = nI (max g0 (gst (wy m L) (j + 1))) := by
          rw [ew, g4, mx_nI (by omega) (by have := wy_le m L j; omega)]; congr 1
          show _ = max g0 (max _ _)
          rw [Nat.max_assoc]
        rw [eg, ew]
        refine ih _ ⟨(((((hF.tA (by decide) (by decide)).tA (by decide) (by decide)).tA (by decide) (by decide)).tA (by decide) (by decide)).tA (by decide) (by decide)).tA (by decide) (by decide), ⟨?_, ?_, ?_, ?_, ?_⟩, fun u hu => ?_⟩
        · rw [sA_ne (by decide), sA_ne (by decide), sA_at, upd_eq, if_neg (by decide), upd_eq, if_neg (by decide), upd_eq, if_pos rfl, g0', ← nI_succ]
          show _ = nI (c0 + (sm (b1 m) j + b1 m j)); rw [z1]; congr 1
        · rw [sA_ne (by decide), sA_ne (by decide), sA_at, upd_eq, if_neg (by decide), upd_eq, if_neg (by decide), upd_eq, if_neg (by decide), upd_eq, if_pos rfl]
        · rw [sA_ne (by decide), sA_ne (by decide), sA_at, upd_eq, if_neg (by decide), upd_eq, if_pos rfl, g2, nI_add]
          show _ = nI (w0 + (sm (wy m L) j + wy m L j)); congr 1; omega
        · rw [sA_ne (by decide), sA_ne (by decide), sA_at, upd_eq, if_neg (by decide), upd_eq, if_neg (by decide), upd_eq, if_neg (by decide), upd_eq, if_neg (by decide), g3]
        · rw [sA_ne (by decide), sA_ne (by decide), sA_at, upd_eq, if_pos rfl]
        · skip
          rw [sA_at, upd_eq]
          have hq1 := h13 (L j - 1) (by omega)
          have hq2 := h13 j (by omega)
          have hq3 := h13 u hu
          rw [if_pos (show L j - 1 < j by omega)] at hq1
          rw [if_neg (show ¬ j < j by omega)] at hq2
          by_cases e : u = j
          · rw [if_pos e, sA_at, upd_eq, if_neg (by omega)]
            show s.1 13 j - 1 = _
            rw [hq2, e, ld_succ, if_neg (show ¬ (m.testBit j = true ∧ L j = j + 1) from fun t => by have := t.2; omega), if_pos (by omega), z1, show (1 : Int32) = zI 1 from rfl, ← zI_sub]
            congr 1
          · rw [if_neg e, sA_at, upd_eq]
            by_cases e2 : u = L j - 1
            · rw [if_pos e2, hq1, ld_succ, if_pos (show m.testBit j = true ∧ L j = u + 1 from ⟨b, by omega⟩), if_pos (by omega), ← e2, show (1 : Int32) = zI 1 from rfl, ← zI_add]
              congr 1; omega
            · rw [if_neg e2]
              show s.1 13 u = _
              rw [hq3, ld_succ, if_neg (show ¬ (m.testBit j = true ∧ L j = u + 1) from fun t => by have := t.2; omega)]
              congr 1
              by_cases c : u < j
              · rw [if_pos c, if_pos (by omega)]; rfl
              · rw [if_neg c, if_neg (by omega)]; rfl
    · rw [e8]
      obtain ⟨a, b, c, dd, e⟩ := h0
      refine ⟨by rw [a]; rfl, by rw [b]; show _ = nI (max l0 0); rw [Nat.max_zero], by rw [c]; rfl, dd, by rw [e]; show _ = nI (max g0 0); rw [Nat.max_zero]⟩
    · rw [h13 q hq, if_neg (Nat.not_lt_zero q)]; rfl
  · intro j s hj ⟨hF, e8, h13⟩ ih
    refine bX4_lookAtCells_2 (nI n) (nI j) s (fun _ => vp_in_nI hj (by decide)) (fun q => absurd q (nI_ge hj (by decide))) (fun _ => ih _ ⟨hF.tA (by decide) (by decide), by rw [sA_ne (by decide)]; exact e8, fun i hi => ?_⟩)
    rw [sA_at, upd_eq, nI_clamp (by omega)]
    by_cases e : i = j
    · rw [if_pos e]
    · rw [if_neg e]; exact h13 i (by omega)
theorem tX4_lookAtTracks (d m : Nat) (L : Nat → Nat) (m0 : Nat) (hm0 : m0 < 2 ^ 20) (hL : ∀ i, L i ≤ i) (hm : okR 32 L m) (σ : St) (h3 : σ.1 8 3 = nI m0) (h13 : ∀ q, q < 32 → σ.1 13 q = zI ((ld m L 32 q : Int) - (b1 m q : Int))) : Ct yX4_lookAtTracks MX4_lookAtTracks (d + 1) [.ref 8] σ (fun v σ' => v = none ∧ σ'.1 8 3 = nI (max m0 (gst (fun p => tcT m L (p + 1)) 32)) ∧ (∀ k, k ≠ 3 → σ'.1 8 k = σ.1 8 k) ∧ Fr [8] [] σ σ') := by
  refine Ct.of mX4_lookAtTracks.1 (Nat.le_of_ble_eq_true rfl) (bX4_lookAtTracks_0 σ ?_)
  refine loopI2 (fun x a s => Run MX4_lookAtTracks (d + 1) 13 [some (.ref 8), some (.int a), some (.ref 13), some (.int 32), some (.int x), none] [] s _) (fun j a s => a = nI (tcT m L j) ∧ Fr [8] [] σ s ∧ (∀ k, k ≠ 3 → s.1 8 k = σ.1 8 k) ∧ s.1 8 3 = nI (max m0 (gst (fun p => tcT m L (p + 1)) j))) 32 ?_ ?_ 0 0 σ (by omega) ⟨by rw [tcT_0 hm]; rfl, Fr.rf, fun _ _ => rfl, by rw [h3]; show _ = nI (max m0 0); rw [Nat.max_zero]⟩
  · rintro a s ⟨ha, hF, hk, h⟩
    exact bX4_lookAtTracks_13 a 32 (nI 32) s (fun q => absurd q (by decide)) (fun _ => ⟨rfl, h, hk, hF⟩) (fun q => absurd q (by decide))
  · rintro j a s hj ⟨ha, hF, hk, h⟩ ih
    have st := tcT_step hL hm hj
    have l1 := tcT_le m L (j + 1)
    have l2 : gst (fun p => tcT m L (p + 1)) j ≤ 32 := gst_le (fun c _ => tcT_le m L (c + 1))
    have e : a + s.1 13 (nI j).toNatClampNeg = nI (tcT m L (j + 1)) := by
      rw [ha, nI_clamp (by omega), hF.1 13 (by decide) (by decide), h13 j hj, nI_zI, nI_zI, ← zI_add]; congr 1; omega
    refine bX4_lookAtTracks_13 a 32 (nI j) s (fun _ => vp_in_nI hj (by decide)) (fun q => absurd q (nI_ge hj (by decide))) (fun _ => ?_)
    rw [e]
    refine ih _ _ ⟨rfl, hF.tA (by decide) (by decide), fun k hk2 => by rw [sA_at, upd_eq, if_neg hk2]; exact hk k hk2, ?_⟩
    rw [sA_at, upd_eq, if_pos rfl, h, mx_nI (by omega) (by omega)]; congr 1
    show _ = max m0 (max _ _)
    rw [Nat.max_assoc]
end LOOK

section BLOCKS
theorem shrL_c : ∀ k, k < 64 → (((nI k).toInt64 &&& 63).toBitVec.smod 64).toNat = k := by decide +kernel
theorem shrL {n k : Nat} (hn : n < 2 ^ 63) (hk : k < 64) : lN n >>> ((nI k).toInt64 &&& 63) = lN (n / 2 ^ k) := by
  have hd : n / 2 ^ k ≤ n := Nat.div_le_self _ _
  apply Int64.toInt_inj.mp
  have e : (lN n >>> ((nI k).toInt64 &&& 63)).toInt = (lN n).toInt >>> k := by
    have := shrL_c k hk
    conv => rhs; rw [← this]
    exact BitVec.toInt_sshiftRight ..
  rw [e, Int.shiftRight_eq_div_pow, pf_lI (by omega), pf_lI (by omega)]
  rfl
theorem and15 (n : Nat) : nI n &&& 15 = nI (n % 16) := by
  rw [pk_and (nI n) 4 rfl]
  congr 1
  have : (nI n).toBitVec.toNat = n % 2 ^ 32 := BitVec.toNat_ofNat n 32
  rw [this]; omega
/-- figure q to the base 16 -/
def fg (V q : Nat) : Nat := V / 16 ^ q % 16
theorem p16 (q : Nat) : (2 : Nat) ^ (4 * q) = 16 ^ q := by rw [Nat.pow_mul]
theorem shr4 {V q : Nat} (hV : V < 2 ^ 48) (hq : q < 13) : lN V >>> (((4 : Int32) * nI q).toInt64 &&& 63) = lN (V / 16 ^ q) := by
  rw [show (4 : Int32) * nI q = nI (4 * q) from pk_mul 4 q, shrL (by omega) (by omega), p16]
theorem szC {V q : Nat} (hV : V < 2 ^ 48) (hq : q < 13) (σ : St) : rX1_size (lN V) (nI q) σ = nI (fg V q) := by
  unfold rX1_size fg
  rw [shr4 hV hq, lN_i, and15]
theorem fg_lt (V q : Nat) : fg V q < 16 := Nat.mod_lt _ (by decide)
/-- m figures, the highest not 0 -/
def figs (V m : Nat) : Prop := m ≤ 12 ∧ 1 ≤ m ∧ V / 16 ^ m = 0 ∧ ∀ q, q < m → V / 16 ^ q ≠ 0
theorem figs_ex {V : Nat} (h0 : 0 < V) (h : V < 2 ^ 48) : ∃ m, figs V m := by
  obtain ⟨m, h1, h2⟩ := pk_least (fun k => V / 16 ^ k = 0) ⟨12, Nat.div_eq_of_lt (by omega)⟩
  refine ⟨m, ?_, ?_, h1, h2⟩
  · rcases Nat.lt_or_ge 12 m with q | q
    · exact absurd (Nat.div_eq_of_lt (show V < 16 ^ 12 by omega)) (h2 12 q)
    · exact q
  · rcases Nat.eq_zero_or_pos m with q | q
    · subst q; simp at h1; omega
    · exact q
theorem lN0 {n : Nat} (h : n < 2 ^ 63) : lN n = 0 ↔ n = 0 := pk_lEQ (b := 0) h (by decide)
theorem dv {V q : Nat} (h : V < 2 ^ 48) : V / 16 ^ q < 2 ^ 48 := Nat.lt_of_le_of_lt (Nat.div_le_self _ _) h
/-- no figure 0 below m -/
def fgOk (V : Nat) : Nat → Bool
  | 0 => true
  | m + 1 => fgOk V m && decide (fg V m ≠ 0)
theorem fgOk_iff {V : Nat} : ∀ {m : Nat}, fgOk V m = true ↔ ∀ q, q < m → fg V q ≠ 0
  | 0 => ⟨fun _ q h => absurd h (Nat.not_lt_zero q), fun _ => rfl⟩
  | m + 1 => by
    show (fgOk V m && decide (fg V m ≠ 0)) = true ↔ _
    rw [Bool.and_eq_true, decide_eq_true_eq, fgOk_iff]
    exact ⟨fun h q hq => by
      by_cases e : q = m
      · rw [e]; exact h.2
      · exact h.1 q (by omega), fun h => ⟨fun q hq => h q (by omega), h m (by omega)⟩⟩
theorem sm_fg (V m : Nat) : sm (fg V) m ≤ m * 15 := sm_le (fun q _ => by have := fg_lt V q; omega)
theorem tX1_areTold (d V m : Nat) (hV : V < 2 ^ 48) (hm : figs V m) (h0 : 0 < V) (σ : St) : Ct yX1_areTold MX1_areTold (d + 1) [.long (lN V)] σ (fun v σ' => v = some (.int (bI (fgOk V m = true ∧ sm (fg V) m ≤ 32))) ∧ σ' = σ) := by
  obtain ⟨m12, m1, m0, mq⟩ := hm
  refine Ct.of mX1_areTold.1 (Nat.le_of_ble_eq_true rfl) (bX1_areTold_0 (lN V) σ (fun q => ?_) (fun _ _ => ?_) (fun _ q => ?_))
  · exact absurd ((pk_lLE (b := 0) (by omega) (by decide)).mp q) (by omega)
  · have key : ∀ n i, i + n = m → (∀ q, q < i → fg V q ≠ 0) → Run MX1_areTold (d + 1) 21 [some (.long (lN V)), none, some (.int (nI (sm (fg V) i))), some (.int (nI i))] [] σ (fun v σ' => v = some (.int (bI (fgOk V m = true ∧ sm (fg V) m ≤ 32))) ∧ σ' = σ) := by
      intro n
      induction n with
      | zero =>
        intro i hi hz
        have : i = m := by omega
        subst this
        have hs := sm_fg V i
        have fin : some (Value.int (bI (nI (sm (fg V) i) ≤ 32))) = some (.int (bI (fgOk V i = true ∧ sm (fg V) i ≤ 32))) ∧ σ = σ := by
          refine ⟨congrArg (fun z => some (Value.int z)) (bI_iff ?_), rfl⟩
          rw [fgOk_iff]
          exact (nI_leI (b := 32) (by omega) (by decide)).trans ⟨fun h => ⟨hz, h⟩, fun h => h.2⟩
        refine bX1_areTold_21 (lN V) _ (nI i) σ (fun _ => fin) (fun _ _ => fin) (fun _ q => absurd ?_ q) (fun _ q => absurd ?_ q)
        · rw [shr4 hV (by omega), m0]; rfl
        · rw [shr4 hV (by omega), m0]; rfl
      | succ n ih =>
        intro i hi hz
        have hd := dv (V := V) (q := i) hV
        have ne : ¬ lN V >>> (((4 : Int32) * nI i).toInt64 &&& 63) = 0 := by
          rw [shr4 hV (by omega), lN0 (by omega)]; exact mq i (by omega)
        have hf := fg_lt V i
        refine bX1_areTold_21 (lN V) _ (nI i) σ (fun q => absurd q (nI_ge (b := 12) (by omega) (by decide))) (fun _ q => absurd q ne) (fun _ _ q => ?_) (fun _ _ q => ⟨?_, rfl⟩)
        · rw [szC hV (by omega)] at q ⊢
          rw [nI_add, nI_1]
          exact ih (i + 1) (by omega) (fun q' hq' => by
            by_cases e : q' = i
            · rw [e]; exact fun z => q (by rw [z]; rfl)
            · exact hz q' (by omega))
        · rw [szC hV (by omega)] at q
          have q0 := (nI_eq (b := 0) (by omega) (by decide)).mp q
          rw [bI_neg (fun h => fgOk_iff.mp h.1 i (by omega) q0)]
    exact key m 0 (by omega) (fun q h => absurd h (Nat.not_lt_zero q))
  · exact absurd (show lN V >>> ((48 : Int32).toInt64 &&& 63) = 0 by rw [show ((48 : Int32).toInt64 &&& 63) = ((nI 48).toInt64 &&& 63) from rfl, shrL (by omega) (by decide), Nat.div_eq_of_lt (by omega)]; rfl) q
/-! SKIP -/
def skw (V s a b : Nat) : Nat := if a = b then fg V a else fg V a + s * (b - a - 1) + fg V b - 1
def skMax (V s n W : Nat) : Prop := (∀ a b, a ≤ b → b < n → skw V s a b ≤ W) ∧ (W = 0 ∨ ∃ a b, a ≤ b ∧ b < n ∧ W = skw V s a b)
theorem skMax_one {V s n W W' : Nat} (h : skMax V s n W) (h' : skMax V s n W') : W = W' := by
  have le : ∀ {W W'}, skMax V s n W → skMax V s n W' → W ≤ W' := by
    intro W W' h h'
    rcases h.2 with e | ⟨a, b, h1, h2, e⟩
    · omega
    · rw [e]; exact h'.1 a b h1 h2
  exact Nat.le_antisymm (le h h') (le h' h)
theorem skw_le {V s a b : Nat} (hb : b < 12) (hs : s ≤ 9) : skw V s a b ≤ 200 := by
  unfold skw
  have h1 := fg_lt V a
  have h2 := fg_lt V b
  have h3 : s * (b - a - 1) ≤ 9 * 11 := Nat.mul_le_mul hs (by omega)
  split <;> omega
theorem tX1_skipWorst (d V m s : Nat) (hV : V < 2 ^ 48) (hm : figs V m) (hok : fgOk V m = true) (hs : 1 ≤ s ∧ s ≤ 9) (σ : St) : Ct yX1_skipWorst MX1_skipWorst (d + 1) [.long (lN V), .int (nI s)] σ (fun v σ' => (∃ W, v = some (.int (nI W)) ∧ skMax V s m W) ∧ σ' = σ) := by
  obtain ⟨m12, m1, m0, mq⟩ := hm
  have hok := fgOk_iff.mp hok
  refine Ct.of mX1_skipWorst.1 (Nat.le_of_ble_eq_true rfl) (bX1_skipWorst_0 (lN V) (nI s) σ ?_)
  have key : ∀ n i W (y : Int32), i + n = m → skMax V s i W → (i = 0 → y = -nI s) → (0 < i → ∃ w, y = nI w ∧ (∀ a, a < i → fg V a + s * (i - 1 - a) ≤ w) ∧ ∃ a, a < i ∧ w = fg V a + s * (i - 1 - a)) → Run MX1_skipWorst (d + 1) 9 [some (.long (lN V)), none, some (.int (nI s)), some (.int (nI W)), some (.int y), some (.int (nI i)), none] [] σ (fun v σ' => (∃ W, v = some (.int (nI W)) ∧ skMax V s m W) ∧ σ' = σ) := by
    intro n
    induction n with
    | zero =>
      intro i W y hi hW _ _
      have : i = m := by omega
      subst this
      refine bX1_skipWorst_9 (lN V) (nI s) _ y (nI i) σ (fun _ => ⟨⟨W, rfl, hW⟩, rfl⟩) (fun _ _ => ⟨⟨W, rfl, hW⟩, rfl⟩) (fun _ q => absurd ?_ q)
      rw [shr4 hV (by omega), m0]; rfl
    | succ n ih =>
      intro i W y hi hW hy0 hy1
      have hd := dv (V := V) (q := i) hV
      have ne : ¬ lN V >>> (((4 : Int32) * nI i).toInt64 &&& 63) = 0 := by
        rw [shr4 hV (by omega), lN0 (by omega)]; exact mq i (by omega)
      have hf := fg_lt V i
      have hf0 : fg V i ≠ 0 := hok i (by omega)
      refine bX1_skipWorst_9 (lN V) (nI s) _ y (nI i) σ (fun q => absurd q (nI_ge (b := 12) (by omega) (by decide))) (fun _ q => absurd q ne) (fun _ _ => ?_)
      rw [szC hV (by omega), nI_1]
      have hWb : W ≤ 200 := by
        rcases hW.2 with e | ⟨a, b, _, h2, e⟩
        · omega
        · rw [e]; exact skw_le (by omega) hs.2
      by_cases i0 : i = 0
      · subst i0
        rw [hy0 rfl]
        have e1 : mxI (nI (fg V 0)) (-nI s + nI (fg V 0) - 1) = nI (fg V 0) := by
          unfold mxI
          rw [show -nI s + nI (fg V 0) - 1 = zI (-(s : Int) + fg V 0 - 1) by (simp only [nI_zI, zl0, zl1, zl2, zl3, zl4, zl5, zl6, zl7, zl8, zl9, zl10, zl11, zl12, zl13, zl14, zl15, zl16, zl24, zl30, zl31, zl32, zl48, zl56, zl57, zl60, zl63, zl99, zl100, zl130, zl199, zl200, zl240, zl999, zl1000, ← zI_add, ← zI_sub, ← zI_mul, ← zI_neg] <;> first | rfl | (congr 1; omega)), nI_zI, if_neg (by rw [zI_lt (by omega) (by omega)]; omega)]
        have e2 : mxI (-nI s + nI s) (nI (fg V 0)) = nI (fg V 0) := by
          rw [show -nI s + nI s = nI 0 by (simp only [nI_zI, zl0, zl1, zl2, zl3, zl4, zl5, zl6, zl7, zl8, zl9, zl10, zl11, zl12, zl13, zl14, zl15, zl16, zl24, zl30, zl31, zl32, zl48, zl56, zl57, zl60, zl63, zl99, zl100, zl130, zl199, zl200, zl240, zl999, zl1000, ← zI_add, ← zI_sub, ← zI_mul, ← zI_neg] <;> first | rfl | (congr 1; omega)), mx_nI (by decide) (by omega), Nat.max_eq_right (by omega)]
        rw [e1, e2, mx_nI (by omega) (by omega)]
        have W0 : W = 0 := by
          rcases hW.2 with e | ⟨a, b, _, h2, _⟩
          · exact e
          · omega
        refine ih 1 _ _ (by omega) ⟨fun a b h1 h2 => ?_, Or.inr ⟨0, 0, by omega, by omega, ?_⟩⟩ (fun h => absurd h (by decide)) (fun _ => ⟨fg V 0, rfl, fun a ha => ?_, 0, by omega, by simp⟩)
        · have : a = 0 := by omega
          have : b = 0 := by omega
          subst a; subst b
          unfold skw; rw [if_pos rfl]; omega
        · unfold skw; rw [if_pos rfl]; omega
        · have : a = 0 := by omega
          subst this; simp
      · obtain ⟨w, ey, hw1, a0, ha0, hw2⟩ := hy1 (by omega)
        have hwb : w ≤ 120 := by
          have h3 : s * (i - 1 - a0) ≤ 9 * 11 := Nat.mul_le_mul hs.2 (by omega)
          have := fg_lt V a0
          omega
        rw [ey, nI_add, nI_add, show nI (w + fg V i) - 1 = nI (w + fg V i - 1) from pk_sub (b := 1) (by omega), mx_nI (by omega) (by omega), mx_nI (by omega) (by omega), mx_nI (by omega) (by omega)]
        have eqw : ∀ a, a < i → skw V s a i = fg V a + s * (i - 1 - a) + fg V i - 1 := fun a ha => by
          unfold skw; rw [if_neg (by omega), show i - a - 1 = i - 1 - a by omega]
        refine ih (i + 1) _ _ (by omega) ⟨fun a b h1 h2 => ?_, ?_⟩ (fun h => absurd h (by omega)) (fun _ => ⟨_, rfl, fun a ha => ?_, ?_⟩)
        · by_cases e : b = i
          · subst e
            by_cases e2 : a = b
            · subst e2
              have : skw V s a a = fg V a := by unfold skw; rw [if_pos rfl]
              omega
            · rw [eqw a (by omega)]
              have := hw1 a (by omega)
              omega
          · have := hW.1 a b h1 (by omega)
            omega
        · rcases (show max W (max (fg V i) (w + fg V i - 1)) = W ∨ max W (max (fg V i) (w + fg V i - 1)) = fg V i ∨ max W (max (fg V i) (w + fg V i - 1)) = w + fg V i - 1 by omega) with e | e | e
          · rw [e]
            rcases hW.2 with q | ⟨a, b, h1, h2, q⟩
            · exact Or.inl q
            · exact Or.inr ⟨a, b, h1, by omega, q⟩
          · rw [e]; exact Or.inr ⟨i, i, by omega, by omega, by unfold skw; rw [if_pos rfl]⟩
          · rw [e]; exact Or.inr ⟨a0, i, by omega, by omega, by rw [eqw a0 ha0, hw2]⟩
        · by_cases e : a = i
          · subst e
            rw [show a + 1 - 1 - a = 0 by omega]; omega
          · have := hw1 a (by omega)
            have e2 : s * (i + 1 - 1 - a) = s * (i - 1 - a) + s := by rw [show i + 1 - 1 - a = (i - 1 - a) + 1 by omega, Nat.mul_add, Nat.mul_one]
            omega
        · rcases (show max (w + s) (fg V i) = w + s ∨ max (w + s) (fg V i) = fg V i by omega) with e | e
          · refine ⟨a0, by omega, ?_⟩
            have e2 : s * (i + 1 - 1 - a0) = s * (i - 1 - a0) + s := by rw [show i + 1 - 1 - a0 = (i - 1 - a0) + 1 by omega, Nat.mul_add, Nat.mul_one]
            omega
          · exact ⟨i, by omega, by rw [show i + 1 - 1 - i = 0 by omega]; omega⟩
  exact key m 0 0 (-nI s) (by omega) ⟨fun a b _ h => absurd h (Nat.not_lt_zero b), Or.inl rfl⟩ (fun _ => rfl) (fun h => absurd h (by decide))
/-! CHOICE -/
def chW (V : Nat) : Nat → Nat
  | 0 => fg V 0
  | q + 1 => 1 + max (chW V q) (fg V (q + 1))
theorem chW_le (V : Nat) : ∀ q, chW V q ≤ 15 + q
  | 0 => by have := fg_lt V 0; show fg V 0 ≤ _; omega
  | q + 1 => by have := chW_le V q; have := fg_lt V (q + 1); show 1 + max _ _ ≤ _; omega
theorem tX1_choiceWorst (d V m : Nat) (hV : V < 2 ^ 48) (hm : figs V m) (σ : St) : Ct yX1_choiceWorst MX1_choiceWorst (d + 1) [.long (lN V)] σ (fun v σ' => v = some (.int (nI (chW V (m - 1)))) ∧ σ' = σ) := by
  obtain ⟨m12, m1, m0, mq⟩ := hm
  refine Ct.of mX1_choiceWorst.1 (Nat.le_of_ble_eq_true rfl) (bX1_choiceWorst_0 (lN V) σ ?_)
  rw [show rX1_size (lN V) (0 : Int32) σ = nI (fg V 0) from szC (q := 0) hV (by decide) σ]
  have key : ∀ n i, i + 1 + n = m → Run MX1_choiceWorst (d + 1) 8 [some (.long (lN V)), none, some (.int (nI (chW V i))), some (.int (nI (i + 1)))] [] σ (fun v σ' => v = some (.int (nI (chW V (m - 1)))) ∧ σ' = σ) := by
    intro n
    induction n with
    | zero =>
      intro i hi
      have : m - 1 = i := by omega
      rw [this]
      refine bX1_choiceWorst_8 (lN V) _ (nI (i + 1)) σ (fun _ => ⟨rfl, rfl⟩) (fun _ _ => ⟨rfl, rfl⟩) (fun _ q => absurd ?_ q)
      rw [shr4 hV (by omega), show i + 1 = m by omega, m0]; rfl
    | succ n ih =>
      intro i hi
      have hd := dv (V := V) (q := i + 1) hV
      have ne : ¬ lN V >>> (((4 : Int32) * nI (i + 1)).toInt64 &&& 63) = 0 := by
        rw [shr4 hV (by omega), lN0 (by omega)]; exact mq (i + 1) (by omega)
      have h1 := chW_le V i
      have h2 := fg_lt V (i + 1)
      refine bX1_choiceWorst_8 (lN V) _ (nI (i + 1)) σ (fun q => absurd q (nI_ge (b := 12) (by omega) (by decide))) (fun _ q => absurd q ne) (fun _ _ => ?_)
      rw [szC hV (by omega), mx_nI (by omega) (by omega), show (1 : Int32) = nI 1 from rfl, nI_add, nI_add]
      exact ih (i + 1) (by omega)
  exact key (m - 1) 0 (by omega)
theorem tX1_worst (d V m : Nat) (hV : V < 2 ^ 48) (hm : figs V m) (hok : fgOk V m = true) (kind : Nat) (hk : kind ≤ 1) (x3 : Int32) (hs : kind = 0 → ∃ s, 1 ≤ s ∧ s ≤ 9 ∧ x3 = nI s) (σ : St) : Ct yX1_worst MX1_worst (d + 2) [.long (lN V), .int (nI kind), .int x3] σ (fun v σ' => ((kind = 0 → ∃ s W, x3 = nI s ∧ s ≤ 9 ∧ v = some (.int (nI W)) ∧ skMax V s m W) ∧ (kind = 1 → v = some (.int (nI (chW V (m - 1)))))) ∧ σ' = σ) := by
  refine Ct.of mX1_worst.1 (Nat.le_of_ble_eq_true rfl) (bX1_worst_0 (lN V) (nI kind) x3 σ (fun q => ?_) (fun q => ?_))
  · have k1 : kind = 1 := by
      rcases (show kind = 0 ∨ kind = 1 by omega) with e | e
      · rw [e] at q; exact absurd rfl q
      · exact e
    refine (tX1_choiceWorst d V m hV hm σ).mono ?_
    rintro v1 s1 ⟨hv, hs1⟩
    rw [hv, hs1]
    exact bX1_worst_16 _ σ ⟨⟨fun e => by omega, fun _ => rfl⟩, rfl⟩
  · have k0 : kind = 0 := by
      rcases (show kind = 0 ∨ kind = 1 by omega) with e | e
      · exact e
      · rw [e] at q; exact absurd q (by decide)
    obtain ⟨s, h1, h2, e⟩ := hs k0
    rw [e]
    refine (tX1_skipWorst d V m s hV hm hok ⟨h1, h2⟩ σ).mono ?_
    rintro v1 s1 ⟨⟨W, hv, hW⟩, hs1⟩
    rw [hv, hs1]
    exact bX1_worst_9 _ σ ⟨⟨fun _ => ⟨s, W, rfl, h2, rfl, hW⟩, fun e => by omega⟩, rfl⟩
/-! the reference -/
theorem and15L {a : Nat} (h : a < 2 ^ 63) : (lN a &&& 15).toInt32 = nI (a % 16) := by
  rw [show (15 : Int64) = lN (2 ^ 4 - 1) from rfl, wb_mask (by omega) (by decide), lN_i]
theorem shr4L {a : Nat} (h : a < 2 ^ 63) : lN a >>> ((4 : Int32).toInt64 &&& 63) = lN (a / 16) := shrL (k := 4) h (by decide)
theorem mxJ {a b : Nat} (ha : a < 2 ^ 31) (hb : b < 2 ^ 31) : (if nI a ≤ nI b then nI b else nI a) = nI (max a b) := by
  rw [mxI2 hb ha, Nat.max_comm]
/-- the reference's answer for good BLOCKS -/
theorem refBlocks (d V m : Nat) (hV : V < 2 ^ 48) (hm : figs V m) (kind : Nat) (hk : kind ≤ 1) (x4 : Int32) (hs4 : kind = 0 → ∃ s, 1 ≤ s ∧ s ≤ 9 ∧ x4 = nI s) (σ : St) (r : Int32)
    (hbad : ¬ (fgOk V m = true ∧ sm (fg V) m ≤ 32) → r = -1) (hg0 : fgOk V m = true ∧ sm (fg V) m ≤ 32 → kind = 0 → ∃ s W, x4 = nI s ∧ s ≤ 9 ∧ r = nI W ∧ skMax V s m W) (hg1 : fgOk V m = true ∧ sm (fg V) m ≤ 32 → kind = 1 → r = nI (chW V (m - 1))) :
    Run MX11_blocks (d + 1) 52 [some (.ref 88), none, none, some (.int (nI kind)), some (.int x4), some (.int 0), some (.int 0), some (.int 1), some (.long (lN V)), none, none, none] [] σ (fun v2 σ2 => v2 = some (.int r) ∧ Fr [102] [] σ σ2 ∧ True) := by
  obtain ⟨m12, m1, m0, mq⟩ := hm
  -- behind the reading
  have tail : ∀ s : St, Fr [102] [] σ s → (∀ q, q < m → s.1 102 q = nI (fg V q)) → Run MX11_blocks (d + 1) 52 [some (.ref 88), none, none, some (.int (nI kind)), some (.int x4), some (.int (nI m)), some (.int (nI (sm (fg V) m))), some (.int (bI (fgOk V m = true))), some (.long (lN (V / 16 ^ m))), none, none, none] [] s (fun v2 σ2 => v2 = some (.int r) ∧ Fr [102] [] σ σ2 ∧ True) := by
    intro s hF hs
    have hsm := sm_fg V m
    rw [m0]
    refine bX11_blocks_52 (nI kind) x4 (nI m) _ _ (lN 0) s (fun q => absurd q (by decide)) (fun _ q => ⟨?_, hF, trivial⟩) (fun _ q1 q2 q3 => ?_) (fun _ q1 q2 q3 => ?_) (fun _ q1 q2 => ⟨?_, hF, trivial⟩) (fun q => absurd q (by decide))
    · by_cases e : fgOk V m = true
      · rw [bI_pos e] at q; exact absurd q (by decide)
      · rw [hbad (fun z => e z.1)]
    · have ok : fgOk V m = true := by
        by_cases e : fgOk V m = true
        · exact e
        · rw [bI_neg e] at q1; exact absurd rfl q1
      have hle : sm (fg V) m ≤ 32 := (nI_leI (b := 32) (by omega) (by decide)).mp q2
      have k0 : kind = 0 := by
        rcases (show kind = 0 ∨ kind = 1 by omega) with e | e
        · exact e
        · rw [e] at q3; exact absurd rfl q3
      obtain ⟨s', W0, es, hs9, er, hW0⟩ := hg0 ⟨ok, hle⟩ k0
      have okq := fgOk_iff.mp ok
      rw [es]
      -- pairs done: all b for a < i, and for a = i the b < j
      refine loopI1 (fun x w => Run MX11_blocks (d + 1) 199 [some (.ref 88), none, none, none, some (.int (nI s')), some (.int (nI m)), none, none, some (.int w), some (.int x), none, none] [] s _) (fun i w => ∃ W, w = nI W ∧ W ≤ 200 ∧ (∀ a b, a ≤ b → b < m → a < i → skw V s' a b ≤ W) ∧ (W = 0 ∨ ∃ a b, a ≤ b ∧ b < m ∧ W = skw V s' a b)) m ?_ ?_ 0 0 (by omega) ⟨0, rfl, by omega, fun a b _ _ h => absurd h (Nat.not_lt_zero a), Or.inl rfl⟩
      · intro w ⟨W, ew, _, h1, h2⟩
        refine bX11_blocks_199 (nI s') (nI m) w (nI m) s (fun _ => ⟨?_, hF, trivial⟩) (fun q => absurd q (nI_nlt (Nat.le_refl _) (by omega)))
        have : W = W0 := skMax_one ⟨fun a b h3 h4 => h1 a b h3 h4 (by omega), h2⟩ hW0
        rw [ew, this, er]
      · intro i w hi hw ih
        refine bX11_blocks_199 (nI s') (nI m) w (nI i) s (fun q => absurd q (nI_ge hi (by omega))) (fun _ => ?_)
        refine loopI1 (fun x w => Run MX11_blocks (d + 1) 210 [some (.ref 88), none, none, none, some (.int (nI s')), some (.int (nI m)), none, none, some (.int w), some (.int (nI i)), some (.int x), none] [] s _) (fun j w => i ≤ j ∧ ∃ W, w = nI W ∧ W ≤ 200 ∧ (∀ a b, a ≤ b → b < m → (a < i ∨ (a = i ∧ b < j)) → skw V s' a b ≤ W) ∧ (W = 0 ∨ ∃ a b, a ≤ b ∧ b < m ∧ W = skw V s' a b)) m ?_ ?_ i w (by omega) ?_
        · intro w ⟨_, W, ew, hW, h1, h2⟩
          refine bX11_blocks_210 (nI s') (nI m) w (nI i) (nI m) s (fun q => absurd q (nI_nlt (Nat.le_refl _) (by omega))) (fun q => absurd q (nI_nlt (Nat.le_refl _) (by omega))) (fun q => absurd q (nI_nlt (Nat.le_refl _) (by omega))) (fun _ => ih w ⟨W, ew, hW, fun a b h3 h4 h5 => h1 a b h3 h4 (by omega), h2⟩) (fun q => absurd q (nI_nlt (Nat.le_refl _) (by omega)))
        · intro j w hj ⟨hij, W, ew, hW, h1, h2⟩ ih2
          have hsk := skw_le (V := V) (s := s') (a := i) (b := j) (by omega) hs9
          have ewy : (if nI i = nI j then s.1 102 (nI i).toNatClampNeg else s.1 102 (nI i).toNatClampNeg + nI s' * (nI j - nI i - 1) + s.1 102 (nI j).toNatClampNeg - 1) = nI (skw V s' i j) := by
            rw [nI_clamp (by omega), nI_clamp (by omega), hs i hi, hs j hj]
            unfold skw
            by_cases e : i = j
            · rw [if_pos e, if_pos (by rw [e])]
            · have h0 := okq i hi
              have h0' := okq j hj
              rw [if_neg e, if_neg (fun q => e ((nI_eq (by omega) (by omega)).mp q)), pk_sub (by omega), show nI (j - i) - 1 = nI (j - i - 1) from pk_sub (b := 1) (by omega), pk_mul, nI_add, nI_add]
              exact pk_sub (b := 1) (by omega)
          refine bX11_blocks_210 (nI s') (nI m) w (nI i) (nI j) s (fun _ _ => vp_in_nI (by omega) (by decide)) (fun _ _ => vp_in_nI (by omega) (by decide)) (fun _ _ => vp_in_nI (by omega) (by decide)) (fun q => absurd q (nI_ge hj (by omega))) (fun _ => ih2 _ ?_)
          rw [ewy, ew, mxI2 (by omega) (by omega)]
          refine ⟨by omega, _, rfl, by omega, fun a b h3 h4 h5 => ?_, ?_⟩
          · by_cases e : a = i ∧ b = j
            · rw [e.1, e.2]; omega
            · have := h1 a b h3 h4 (by omega); omega
          · rcases (show max W (skw V s' i j) = W ∨ max W (skw V s' i j) = skw V s' i j by omega) with e | e
            · rw [e]; exact h2
            · rw [e]; exact Or.inr ⟨i, j, hij, hj, rfl⟩
        · obtain ⟨W, ew, hW, h1, h2⟩ := hw
          exact ⟨Nat.le_refl _, W, ew, hW, fun a b h3 h4 h5 => h1 a b h3 h4 (by omega), h2⟩
    · have ok : fgOk V m = true := by
        by_cases e : fgOk V m = true
        · exact e
        · rw [bI_neg e] at q1; exact absurd rfl q1
      have hle : sm (fg V) m ≤ 32 := (nI_leI (b := 32) (by omega) (by decide)).mp q2
      have k1 : kind = 1 := (nI_eq (b := 1) (by omega) (by decide)).mp q3
      rw [hg1 ⟨ok, hle⟩ k1, show s.1 102 ((0 : Int32).toNatClampNeg) = nI (fg V 0) from hs 0 (by omega)]
      have key : ∀ n i, i + 1 + n = m → Run MX11_blocks (d + 1) 152 [some (.ref 88), none, none, none, none, some (.int (nI m)), none, none, some (.int (nI (chW V i))), some (.int (nI (i + 1))), none, none] [] s (fun v2 σ2 => v2 = some (.int (nI (chW V (m - 1)))) ∧ Fr [102] [] σ σ2 ∧ True) := by
        intro n
        induction n with
        | zero =>
          intro i hi
          have e : m - 1 = i := by omega
          rw [e, show i + 1 = m by omega]
          exact bX11_blocks_152 (nI m) _ (nI m) s (fun q => absurd q (nI_nlt (Nat.le_refl _) (by omega))) (fun _ => ⟨rfl, hF, trivial⟩) (fun q => absurd q (nI_nlt (Nat.le_refl _) (by omega)))
        | succ n ih =>
          intro i hi
          have h1 := chW_le V i
          have h2 := fg_lt V (i + 1)
          refine bX11_blocks_152 (nI m) _ (nI (i + 1)) s (fun _ => vp_in_nI (by omega) (by decide)) (fun q => absurd q (nI_ge (by omega) (by omega))) (fun _ => ?_)
          rw [nI_clamp (by omega), hs (i + 1) (by omega), mxJ (by omega) (by omega), show (1 : Int32) = nI 1 from rfl, nI_add, nI_add]
          exact ih (i + 1) (by omega)
      exact key (m - 1) 0 (by omega)
    · have hgt : ¬ sm (fg V) m ≤ 32 := fun z => absurd q2 (nI_nlt (b := sm (fg V) m) (a := 32) z (by decide))
      rw [hbad (fun z => hgt z.2)]
  have key : ∀ n i s, i + n = m → Fr [102] [] σ s → (∀ q, q < i → s.1 102 q = nI (fg V q)) → Run MX11_blocks (d + 1) 52 [some (.ref 88), none, none, some (.int (nI kind)), some (.int x4), some (.int (nI i)), some (.int (nI (sm (fg V) i))), some (.int (bI (fgOk V i = true))), some (.long (lN (V / 16 ^ i))), none, none, none] [] s (fun v2 σ2 => v2 = some (.int r) ∧ Fr [102] [] σ σ2 ∧ True) := by
    intro n
    induction n with
    | zero =>
      intro i s hi hF hs
      have : i = m := by omega
      subst this
      exact tail s hF hs
    | succ n ih =>
      intro i s hi hF hs
      have hd := dv (V := V) (q := i) hV
      have hd0 := mq i (by omega)
      have hf := fg_lt V i
      have pos : (0 : Int64) < lN (V / 16 ^ i) := (pk_lLT (a := 0) (by decide) (by omega)).mpr (Nat.pos_of_ne_zero hd0)
      have npos : ¬ lN (V / 16 ^ i) ≤ 0 := fun q => hd0 (Nat.le_zero.mp ((pk_lLE (b := 0) (by omega) (by decide)).mp q))
      refine bX11_blocks_52 (nI kind) x4 (nI i) _ _ (lN (V / 16 ^ i)) s (fun _ => vp_in_nI (by omega) (by decide)) (fun q => absurd q npos) (fun q => absurd q npos) (fun q => absurd q npos) (fun q => absurd q npos) (fun _ => ?_)
      rw [nI_clamp (by omega), and15L (by omega), shr4L (by omega), upd_eq, if_pos rfl, nI_add, nI_1]
      have e16 : V / 16 ^ i / 16 = V / 16 ^ (i + 1) := by rw [Nat.div_div_eq_div_mul, Nat.pow_succ]
      have eg : (bI ((¬ bI (fgOk V i = true) = 0) ∧ (0 : Int32) < nI (V / 16 ^ i % 16))) = bI (fgOk V (i + 1) = true) := by
        refine bI_iff ?_
        show _ ↔ (fgOk V i && decide (fg V i ≠ 0)) = true
        rw [Bool.and_eq_true, decide_eq_true_eq]
        refine and_congr ?_ ?_
        · by_cases e : fgOk V i = true
          · rw [bI_pos e]; exact ⟨fun _ => e, fun _ => by decide⟩
          · rw [bI_neg e]; exact ⟨fun q => absurd rfl q, fun q => absurd q e⟩
        · exact (nI_ltI (a := 0) (by decide) (by omega)).trans ⟨fun h => by unfold fg; omega, fun h => by unfold fg at h; omega⟩
      rw [eg, e16]
      refine ih (i + 1) _ (by omega) (hF.tA (by decide) (by decide)) (fun q hq => ?_)
      rw [sA_at, upd_eq]
      by_cases e : q = i
      · rw [if_pos e, e]; rfl
      · rw [if_neg e]; exact hs q (by omega)
  have := key m 0 σ (by omega) Fr.rf (fun q h => absurd h (Nat.not_lt_zero q))
  rw [Nat.pow_zero, Nat.div_one] at this
  exact this
theorem pub_blocks (d : Nat) (x1 : Int64) (x3 x4 : Int32) (σ : St) : PB yX10_blocks MX10_blocks (d + 3) yX11_blocks MX11_blocks (d + 1) [.long x1, .int x3, .int x4] σ [102] [] (fun _ => True) := by
  by_cases hk : x3 = 1 ∨ (x3 = 0 ∧ ((1 : Int32) ≤ x4 ∧ x4 ≤ 9))
  · -- the kind
    obtain ⟨kind, hk1, ek, hs4⟩ : ∃ kind, kind ≤ 1 ∧ x3 = nI kind ∧ (kind = 0 → ∃ s, 1 ≤ s ∧ s ≤ 9 ∧ x4 = nI s) := by
      rcases hk with h | ⟨h, h1, h2⟩
      · exact ⟨1, by decide, h, fun e => absurd e (by decide)⟩
      · refine ⟨0, by decide, h, fun _ => ?_⟩
        simp only [Int32.lt_iff_toInt_lt, Int32.le_iff_toInt_le, Int64.lt_iff_toInt_lt, Int64.le_iff_toInt_le, ← Int32.toInt_inj, ← Int64.toInt_inj, Int32.toInt_toInt64, tim20, tim13, tim12, tim11, tim10, tim4, tim3, tim2, tim1, ti0, ti1, ti2, ti3, ti4, ti5, ti6, ti7, ti8, ti9, ti10, ti11, ti12, ti13, ti14, ti15, ti16, ti24, ti30, ti31, ti32, ti48, ti56, ti57, ti60, ti63, ti99, ti100, ti130, ti199, ti200, ti240, ti999, ti1000, ti20, ti21, ti22, ti23, ti65535, ti32767, ti144, tjm20, tjm13, tjm12, tjm11, tjm10, tjm4, tjm3, tjm2, tjm1, tj0, tj1, tj2, tj3, tj4, tj5, tj6, tj7, tj8, tj9, tj10, tj11, tj12, tj13, tj14, tj15, tj16, tj24, tj30, tj31, tj32, tj48, tj56, tj57, tj60, tj63, tj99, tj100, tj130, tj199, tj200, tj240, tj999, tj1000, tj20, tj21, tj22, tj23, tj65535, tj32767, tj144] at h1 h2
        obtain ⟨s, hs, es⟩ := ofI (x := x4) (n := 10) (by omega) (by omega) (by decide)
        refine ⟨s, ?_, by omega, es⟩
        rw [es, nI_toInt (by omega)] at h1; omega
    refine Ct.of mX10_blocks.1 (Nat.le_of_ble_eq_true rfl) (bX10_blocks_0 x1 x3 x4 σ (fun q => absurd hk q) (fun _ => ?_))
    by_cases hx : 1 ≤ x1.toInt ∧ x1.toInt < 2 ^ 48
    · obtain ⟨V, hV63, eV⟩ := pk_lOf (x := x1) (by rw [Int64.lt_iff_toInt_lt, tj0]; omega)
      have hV : V < 2 ^ 48 ∧ 0 < V := by rw [eV, pk_lT hV63] at hx; omega
      obtain ⟨m, hm⟩ := figs_ex hV.2 hV.1
      rw [eV]
      refine (tX1_areTold (d + 1) V m hV.1 hm hV.2 σ).mono ?_
      rintro v1 s1 ⟨hv, hs⟩
      rw [hv, hs]
      have ref : ∀ r : Int32, (¬ (fgOk V m = true ∧ sm (fg V) m ≤ 32) → r = -1) → (fgOk V m = true ∧ sm (fg V) m ≤ 32 → kind = 0 → ∃ s W, x4 = nI s ∧ s ≤ 9 ∧ r = nI W ∧ skMax V s m W) → (fgOk V m = true ∧ sm (fg V) m ≤ 32 → kind = 1 → r = nI (chW V (m - 1))) → Ct yX11_blocks MX11_blocks (d + 1) [.ref 88, .long (lN V), .int x3, .int x4] σ (fun v2 σ2 => v2 = some (.int r) ∧ Fr [102] [] σ σ2 ∧ True) := by
        intro r r1 r2 r3
        have go := refBlocks d V m hV.1 hm kind hk1 x4 hs4 σ r r1 r2 r3
        rw [← ek] at go
        have c1 : (1 : Int64) ≤ lN V ∧ lN V ≤ (281474976710655 : Int64) := by
          refine ⟨(pk_lLE (a := 1) (by decide) (by omega)).mpr (by omega), (pk_lLE (b := 281474976710655) (by omega) (by decide)).mpr (by omega)⟩
        refine Ct.of mX11_blocks.1 (Nat.le_of_ble_eq_true rfl) (bX11_blocks_0 (lN V) x3 x4 σ (fun q => absurd c1 q) (fun _ q => ?_) (fun _ _ _ => go) (fun _ _ _ _ => go) (fun _ _ e q => ?_))
        · exfalso
          rcases hk with h | ⟨h, _, _⟩ <;> rw [h] at q <;> exact q (by decide)
        · exfalso
          rcases hk with h | ⟨_, h1, h2⟩
          · rw [h] at e; exact absurd e (by decide)
          · simp only [Int32.lt_iff_toInt_lt, Int32.le_iff_toInt_le, Int64.lt_iff_toInt_lt, Int64.le_iff_toInt_le, ← Int32.toInt_inj, ← Int64.toInt_inj, Int32.toInt_toInt64, tim20, tim13, tim12, tim11, tim10, tim4, tim3, tim2, tim1, ti0, ti1, ti2, ti3, ti4, ti5, ti6, ti7, ti8, ti9, ti10, ti11, ti12, ti13, ti14, ti15, ti16, ti24, ti30, ti31, ti32, ti48, ti56, ti57, ti60, ti63, ti99, ti100, ti130, ti199, ti200, ti240, ti999, ti1000, ti20, ti21, ti22, ti23, ti65535, ti32767, ti144, tjm20, tjm13, tjm12, tjm11, tjm10, tjm4, tjm3, tjm2, tjm1, tj0, tj1, tj2, tj3, tj4, tj5, tj6, tj7, tj8, tj9, tj10, tj11, tj12, tj13, tj14, tj15, tj16, tj24, tj30, tj31, tj32, tj48, tj56, tj57, tj60, tj63, tj99, tj100, tj130, tj199, tj200, tj240, tj999, tj1000, tj20, tj21, tj22, tj23, tj65535, tj32767, tj144] at h1 h2 q; omega
      by_cases good : fgOk V m = true ∧ sm (fg V) m ≤ 32
      · rw [bI_pos good]
        refine bX10_blocks_13 (lN V) x3 x4 1 σ (fun _ => ?_) (fun q => absurd q (by decide))
        rw [ek]
        refine (tX1_worst d V m hV.1 hm good.1 kind hk1 x4 hs4 σ).mono ?_
        rintro v2 s2 ⟨⟨w0, w1⟩, hs2⟩
        rw [hs2]
        rw [← ek]
        rcases (show kind = 0 ∨ kind = 1 by omega) with e | e
        · obtain ⟨s, W, e1, e2, e3, e4⟩ := w0 e
          rw [e3]
          exact bX10_blocks_25 _ σ ⟨_, rfl, ref _ (fun q => absurd good q) (fun _ _ => ⟨s, W, e1, e2, rfl, e4⟩) (fun _ q => by omega)⟩
        · rw [w1 e]
          exact bX10_blocks_25 _ σ ⟨_, rfl, ref _ (fun q => absurd good q) (fun _ q => by omega) (fun _ _ => rfl)⟩
      · rw [bI_neg good]
        exact bX10_blocks_13 (lN V) x3 x4 0 σ (fun q => absurd rfl q) (fun _ => ⟨_, rfl, ref _ (fun _ => rfl) (fun q => absurd q good) (fun q => absurd q good)⟩)
    · -- not told at all
      have bad : Ct yX11_blocks MX11_blocks (d + 1) [.ref 88, .long x1, .int x3, .int x4] σ (fun v2 σ2 => v2 = some (.int (-1)) ∧ Fr [102] [] σ σ2 ∧ True) := by
        have c1 : ¬ ((1 : Int64) ≤ x1 ∧ x1 ≤ (281474976710655 : Int64)) := by
          rw [Int64.le_iff_toInt_le, Int64.le_iff_toInt_le]
          have e1 : (1 : Int64).toInt = 1 := rfl
          have e2 : (281474976710655 : Int64).toInt = 281474976710655 := rfl
          omega
        exact Ct.of mX11_blocks.1 (Nat.le_of_ble_eq_true rfl) (bX11_blocks_0 x1 x3 x4 σ (fun _ => ⟨rfl, Fr.rf, trivial⟩) (fun q => absurd q c1) (fun q => absurd q c1) (fun q => absurd q c1) (fun q => absurd q c1))
      have cls : Ct yX1_areTold MX1_areTold (d + 2) [.long x1] σ (fun v σ' => v = some (.int 0) ∧ σ' = σ) := by
        refine Ct.of mX1_areTold.1 (Nat.le_of_ble_eq_true rfl) (bX1_areTold_0 x1 σ (fun _ => ⟨rfl, rfl⟩) (fun a b => ?_) (fun _ _ => ⟨rfl, rfl⟩))
        exfalso
        rw [Int64.lt_iff_toInt_lt, tj0] at a
        obtain ⟨V, hV63, eV⟩ := pk_lOf (x := x1) (by rw [Int64.lt_iff_toInt_lt, tj0]; omega)
        rw [eV, show ((48 : Int32).toInt64 &&& 63) = ((nI 48).toInt64 &&& 63) from rfl, shrL hV63 (by decide), lN0 (Nat.lt_of_le_of_lt (Nat.div_le_self _ _) hV63)] at b
        rw [eV, pk_lT hV63] at hx a
        have := Nat.lt_of_div_eq_zero (by decide) b
        omega
      refine cls.mono ?_
      rintro v1 s1 ⟨hv, hs⟩
      rw [hv, hs]
      exact bX10_blocks_13 x1 x3 x4 0 σ (fun q => absurd rfl q) (fun _ => ⟨_, rfl, bad⟩)
  · have bad : Ct yX11_blocks MX11_blocks (d + 1) [.ref 88, .long x1, .int x3, .int x4] σ (fun v2 σ2 => v2 = some (.int (-1)) ∧ Fr [102] [] σ σ2 ∧ True) := by
      refine Ct.of mX11_blocks.1 (Nat.le_of_ble_eq_true rfl) (bX11_blocks_0 x1 x3 x4 σ (fun _ => ⟨rfl, Fr.rf, trivial⟩) (fun _ _ => ⟨rfl, Fr.rf, trivial⟩) (fun _ a b => ?_) (fun _ a b c => ?_) (fun _ _ _ _ => ⟨rfl, Fr.rf, trivial⟩))
      · exfalso
        apply hk
        left
        simp only [Int32.lt_iff_toInt_lt, Int32.le_iff_toInt_le, Int64.lt_iff_toInt_lt, Int64.le_iff_toInt_le, ← Int32.toInt_inj, ← Int64.toInt_inj, Int32.toInt_toInt64, tim20, tim13, tim12, tim11, tim10, tim4, tim3, tim2, tim1, ti0, ti1, ti2, ti3, ti4, ti5, ti6, ti7, ti8, ti9, ti10, ti11, ti12, ti13, ti14, ti15, ti16, ti24, ti30, ti31, ti32, ti48, ti56, ti57, ti60, ti63, ti99, ti100, ti130, ti199, ti200, ti240, ti999, ti1000, ti20, ti21, ti22, ti23, ti65535, ti32767, ti144, tjm20, tjm13, tjm12, tjm11, tjm10, tjm4, tjm3, tjm2, tjm1, tj0, tj1, tj2, tj3, tj4, tj5, tj6, tj7, tj8, tj9, tj10, tj11, tj12, tj13, tj14, tj15, tj16, tj24, tj30, tj31, tj32, tj48, tj56, tj57, tj60, tj63, tj99, tj100, tj130, tj199, tj200, tj240, tj999, tj1000, tj20, tj21, tj22, tj23, tj65535, tj32767, tj144] at a b
        rw [← Int32.toInt_inj, ti1]; omega
      · exfalso
        apply hk
        right
        refine ⟨b, ?_⟩
        simp only [Int32.lt_iff_toInt_lt, Int32.le_iff_toInt_le, Int64.lt_iff_toInt_lt, Int64.le_iff_toInt_le, ← Int32.toInt_inj, ← Int64.toInt_inj, Int32.toInt_toInt64, tim20, tim13, tim12, tim11, tim10, tim4, tim3, tim2, tim1, ti0, ti1, ti2, ti3, ti4, ti5, ti6, ti7, ti8, ti9, ti10, ti11, ti12, ti13, ti14, ti15, ti16, ti24, ti30, ti31, ti32, ti48, ti56, ti57, ti60, ti63, ti99, ti100, ti130, ti199, ti200, ti240, ti999, ti1000, ti20, ti21, ti22, ti23, ti65535, ti32767, ti144, tjm20, tjm13, tjm12, tjm11, tjm10, tjm4, tjm3, tjm2, tjm1, tj0, tj1, tj2, tj3, tj4, tj5, tj6, tj7, tj8, tj9, tj10, tj11, tj12, tj13, tj14, tj15, tj16, tj24, tj30, tj31, tj32, tj48, tj56, tj57, tj60, tj63, tj99, tj100, tj130, tj199, tj200, tj240, tj999, tj1000, tj20, tj21, tj22, tj23, tj65535, tj32767, tj144] at c
        rw [Int32.le_iff_toInt_le, Int32.le_iff_toInt_le, ti1, ti9]; omega
    exact Ct.of mX10_blocks.1 (Nat.le_of_ble_eq_true rfl) (bX10_blocks_0 x1 x3 x4 σ (fun _ => ⟨_, rfl, bad⟩) (fun q => absurd q hk))
end BLOCKS

/-! BEST: the table of the reference -/
section BESTT
/-- the fewest and the ways, or none -/
def FS (g : Nat → Nat) (b : Nat) (x w : Int32) : Prop := (x = 1000 ∧ w = 0 ∧ ∀ s, g s = 0) ∨ ∃ s, x = nI (b + s) ∧ 0 < g s ∧ (∀ t, t < s → g t = 0) ∧ w = nI (g s)
theorem FS_step {f g : Nat → Nat} {b b' u pc : Nat} {x w x' w' : Int32} (hb : b ≤ 7) (hb' : b' ≤ 7) (hpc : pc ≤ 7) (hu : u ≤ 7) (e : pc + b' = b + u) (bf : ∀ s, 0 < f s → s ≤ 42) (bg : ∀ s, 0 < g s → s ≤ 42) (F : FS f b x w) (G : FS g b' x' w') : (x ≤ x' + nI pc → FS (fun s => f s + if u ≤ s then g (s - u) else 0) b x (w + (if (1000 : Int32) ≤ x' + nI pc then 0 else if x' + nI pc = x then w' else 0))) ∧ (x' + nI pc < x → FS (fun s => f s + if u ≤ s then g (s - u) else 0) b (x' + nI pc) (0 + if (1000 : Int32) ≤ x' + nI pc then 0 else w')) := by
  have k1 : (1000 : Int32) = nI 1000 := rfl
  have shift : ∀ s', 0 < g s' → (if u ≤ u + s' then g (u + s' - u) else 0) = g s' := fun s' _ => by rw [if_pos (by omega), show u + s' - u = s' by omega]
  have gz : ∀ {s' t : Nat}, (∀ t, t < s' → g t = 0) → t < u + s' → (if u ≤ t then g (t - u) else 0) = 0 := fun {s' t} h ht => by
    by_cases c : u ≤ t
    · rw [if_pos c]; exact h _ (by omega)
    · rw [if_neg c]
  rcases F with ⟨f1, f2, f3⟩ | ⟨s, f1, f2, f3, f4⟩
  · rcases G with ⟨g1, g2, g3⟩ | ⟨s', g1, g2, g3, g4⟩
    · have y : x' + nI pc = nI (1000 + pc) := by rw [g1, k1, nI_add]
      have c : (1000 : Int32) ≤ nI (1000 + pc) := (nI_leI (a := 1000) (by decide) (by omega)).mpr (by omega)
      rw [y]
      refine ⟨fun _ => .inl ⟨f1, by rw [f2, if_pos c]; rfl, fun s => ?_⟩, fun q => ?_⟩
      · show f s + (if u ≤ s then g (s - u) else 0) = 0
        rw [f3, g3]; simp
      · rw [f1] at q; exact absurd q (by rw [i32_nlt]; exact c)
    · have := bg s' g2
      have y : x' + nI pc = nI (b + (u + s')) := by rw [g1, nI_add]; congr 1; omega
      have c : ¬ (1000 : Int32) ≤ nI (b + (u + s')) := nI_ge (b := 1000) (by omega) (by decide)
      rw [y]
      refine ⟨fun q => ?_, fun _ => .inr ⟨u + s', rfl, ?_, fun t ht => ?_, ?_⟩⟩
      · rw [f1] at q; exact absurd q c
      · show 0 < f (u + s') + (if u ≤ u + s' then g (u + s' - u) else 0)
        rw [shift s' g2]; omega
      · show f t + (if u ≤ t then g (t - u) else 0) = 0
        rw [f3, gz g3 ht]
      · show _ = nI (f (u + s') + (if u ≤ u + s' then g (u + s' - u) else 0))
        rw [if_neg c, g4, shift s' g2, f3, show (0 : Int32) = nI 0 from rfl, nI_add]
  · have := bf s f2
    rcases G with ⟨g1, g2, g3⟩ | ⟨s', g1, g2, g3, g4⟩
    · have y : x' + nI pc = nI (1000 + pc) := by rw [g1, k1, nI_add]
      have c : (1000 : Int32) ≤ nI (1000 + pc) := (nI_leI (a := 1000) (by decide) (by omega)).mpr (by omega)
      rw [y]
      have e0 : ∀ t, (if u ≤ t then g (t - u) else 0) = 0 := fun t => by rw [g3]; exact ite_self _
      refine ⟨fun _ => .inr ⟨s, f1, ?_, fun t ht => ?_, ?_⟩, fun q => ?_⟩
      · show 0 < f s + (if u ≤ s then g (s - u) else 0)
        rw [e0]; exact f2
      · show f t + (if u ≤ t then g (t - u) else 0) = 0
        rw [e0, f3 t ht]
      · show _ = nI (f s + (if u ≤ s then g (s - u) else 0))
        rw [e0, if_pos c, f4, show (0 : Int32) = nI 0 from rfl, nI_add]
      · rw [f1] at q; exact absurd q (nI_nlt (by omega) (by omega))
    · have := bg s' g2
      have y : x' + nI pc = nI (b + (u + s')) := by rw [g1, nI_add]; congr 1; omega
      have c : ¬ (1000 : Int32) ≤ nI (b + (u + s')) := nI_ge (b := 1000) (by omega) (by decide)
      rw [y, f1]
      refine ⟨fun q => ?_, fun q => ?_⟩
      · have q := (nI_leI (by omega) (by omega)).mp q
        rw [if_neg c]
        by_cases es : s = u + s'
        · refine .inr ⟨s, rfl, ?_, fun t ht => ?_, ?_⟩
          · show 0 < f s + (if u ≤ s then g (s - u) else 0)
            omega
          · show f t + (if u ≤ t then g (t - u) else 0) = 0
            rw [f3 t ht, gz g3 (by omega)]
          · show _ = nI (f s + (if u ≤ s then g (s - u) else 0))
            rw [es, if_pos rfl, shift s' g2, ← es, f4, g4, nI_add]
        · refine .inr ⟨s, rfl, ?_, fun t ht => ?_, ?_⟩
          · show 0 < f s + (if u ≤ s then g (s - u) else 0)
            omega
          · show f t + (if u ≤ t then g (t - u) else 0) = 0
            rw [f3 t ht, gz g3 (by omega)]
          · show _ = nI (f s + (if u ≤ s then g (s - u) else 0))
            rw [gz g3 (by omega), if_neg (fun t => es (by have := (nI_eq (by omega) (by omega)).mp t; omega)), f4, show (0 : Int32) = nI 0 from rfl, nI_add]
      · have q := (nI_ltI (by omega) (by omega)).mp q
        refine .inr ⟨u + s', rfl, ?_, fun t ht => ?_, ?_⟩
        · show 0 < f (u + s') + (if u ≤ u + s' then g (u + s' - u) else 0)
          rw [shift s' g2]; omega
        · show f t + (if u ≤ t then g (t - u) else 0) = 0
          rw [f3 t (by omega), gz g3 ht]
        · show _ = nI (f (u + s') + (if u ≤ u + s' then g (u + s' - u) else 0))
          rw [if_neg c, g4, shift s' g2, f3 _ (by omega), show (0 : Int32) = nI 0 from rfl, nI_add]
theorem FS_cong {f g : Nat → Nat} {b : Nat} {x w : Int32} (h : ∀ s, f s = g s) (F : FS f b x w) : FS g b x w := by
  rw [show g = f from (funext h).symm]; exact F
/-- the next mask below -/
theorem nmask : ∀ (k c a m : Nat), c ≤ k → c &&& a = c → m &&& a = m → m < c → m ≤ (c - 1) &&& a
  | 0, c, a, m, hk, _, _, hm => by omega
  | k + 1, c, a, m, hk, hc, ha, hm => by
    have c2 : c / 2 &&& a / 2 = c / 2 := by rw [← Nat.and_div_two, hc]
    have m2 : m / 2 &&& a / 2 = m / 2 := by rw [← Nat.and_div_two, ha]
    have mm : m % 2 ≤ a % 2 := by
      have : (m &&& a) % 2 ^ 1 = (m % 2 ^ 1) &&& (a % 2 ^ 1) := Nat.and_mod_two_pow
      rw [ha] at this
      have h2 : (m % 2 ^ 1) &&& (a % 2 ^ 1) ≤ a % 2 ^ 1 := Nat.and_le_right
      omega
    have d2 : ((c - 1) &&& a) / 2 = (c - 1) / 2 &&& a / 2 := Nat.and_div_two
    have r2 : ((c - 1) &&& a) % 2 ^ 1 = ((c - 1) % 2 ^ 1) &&& (a % 2 ^ 1) := Nat.and_mod_two_pow
    by_cases p : c % 2 = 1
    · rw [show (c - 1) / 2 = c / 2 by omega, c2] at d2
      omega
    · have ih := nmask k (c / 2) (a / 2) (m / 2) (by omega) c2 m2 (by omega)
      rw [show (c - 1) / 2 = c / 2 - 1 by omega] at d2
      rw [show (c - 1) % 2 ^ 1 = 1 by omega] at r2
      have r3 : 1 &&& (a % 2 ^ 1) = a % 2 := by
        have : a % 2 = 0 ∨ a % 2 = 1 := by omega
        rcases this with h | h <;> rw [show a % 2 ^ 1 = a % 2 from rfl, h] <;> rfl
      rw [r3] at r2
      omega
def vP (n f l : Nat) (L : Nat → Nat) (c s : Nat) : Nat := sm (fun m => if c < m then bT n f (bV n f l) L s m else 0) 128
theorem vP_op {n f l : Nat} {L : Nat → Nat} (s : Nat) : vP n f l L (op n L) s = 0 := sm_0 (fun m _ => by
  by_cases c : op n L < m
  · rw [if_pos c]; exact bT_0 (fun t => by have := vB_le t; omega)
  · rw [if_neg c])
theorem vP_0 {n f l : Nat} {L : Nat → Nat} (z : ¬ op n L = 0) (s : Nat) : vP n f l L 0 s = bV n f (l + 1) L s := by
  rw [bV_s z]
  refine sm_cong (fun m _ => ?_)
  by_cases c : 0 < m
  · rw [if_pos c]
  · rw [if_neg c, bT_0 (fun t => (vB_iff.mp t).1 (by omega))]
theorem vP_next {n f l c : Nat} {L : Nat → Nat} (hc : c < 128) (c0 : 0 < c) (ho : c &&& op n L = c) (s : Nat) : vP n f l L ((c - 1) &&& op n L) s = vP n f l L c s + bT n f (bV n f l) L s c := by
  have le : (c - 1) &&& op n L ≤ c - 1 := Nat.and_le_left
  have e := sm_add (fun m => if c < m then bT n f (bV n f l) L s m else 0) (fun m => if m = c then bT n f (bV n f l) L s c else 0) 128
  rw [sm_one, if_pos hc] at e
  unfold vP
  rw [← e]
  refine sm_cong (fun m _ => ?_)
  by_cases c1 : m = c
  · subst c1
    rw [if_pos (by omega), if_neg (Nat.lt_irrefl _), if_pos rfl, Nat.zero_add]
  · by_cases c2 : c < m
    · rw [if_pos (by omega), if_pos c2, if_neg c1]; rfl
    · rw [if_neg c2, if_neg c1]
      by_cases c3 : (c - 1) &&& op n L < m
      · rw [if_pos c3]
        refine bT_0 (fun t => ?_)
        have := nmask c c (op n L) m (Nat.le_refl _) ho (okR_iff.mpr (vB_iff.mp t).2.1) (by omega)
        omega
      · rw [if_neg c3]
theorem vP_b {n f l c : Nat} {L : Nat → Nat} (hl : l < 6) (s : Nat) (h : 0 < vP n f l L c s) : s ≤ 42 := by
  obtain ⟨m, _, hm⟩ := sm_pos h
  by_cases q : c < m
  · rw [if_pos q] at hm
    obtain ⟨_, h2, h3⟩ := bT_pos hm
    have := bV_le h3
    have := pop_le 7 (m &&& un n L)
    omega
  · rw [if_neg q] at hm; exact absurd hm (Nat.lt_irrefl _)
def tRw (n f l : Nat) (σ : St) : Prop := ∀ s, s < fc n → FS (bV n f l (dS n s)) (pop 7 (op n (dS n s))) (σ.1 99 (fc n * l + s)) (σ.1 100 (fc n * l + s))
theorem FS_le {g : Nat → Nat} {b : Nat} {x w : Int32} (hb : b ≤ 7) (bg : ∀ s, 0 < g s → s ≤ 42) (h : FS g b x w) : ¬ (1000 : Int32) < x := by
  rcases h with ⟨h, _⟩ | ⟨s, h, h2, _⟩
  · rw [h]; decide
  · have := bg s h2
    rw [h]; exact nI_nlt (show b + s ≤ 1000 by omega) (by decide)
theorem tX11_fillsRow (d n f l : Nat) (hn : n ≤ 7) (hf : f ≤ 6) (hl : l ≤ 6) (σ : St) (h24 : σ.1 88 24 = nI (fc n)) (ht : 0 < l → tRw n f (l - 1) σ) : Ct yX11_fillsRow MX11_fillsRow (d + 1) [.ref 88, .int (nI l), .int (nI n), .int (nI f)] σ (fun v t => v = none ∧ Fr [93, 99, 100, 101] [] σ t ∧ (∀ i, i < fc n * l → t.1 99 i = σ.1 99 i ∧ t.1 100 i = σ.1 100 i) ∧ tRw n f l t) := by
  have F0 := fc_pos n
  have F7 := fc_7 n (by omega)
  have FL : fc n * l ≤ 5040 * 6 := Nat.mul_le_mul F7 hl
  refine Ct.of mX11_fillsRow.1 (Nat.le_of_ble_eq_true rfl) (bX11_fillsRow_0 _ _ _ σ ?_)
  refine loopI1 (fun x t => Run MX11_fillsRow (d + 1) 3 [some (.ref 88), some (.int (nI l)), some (.int (nI n)), some (.int (nI f)), some (.int x), none, none, none, none, none] [] t _) (fun j t => Fr [93, 99, 100, 101] [] σ t ∧ (∀ i, i < fc n * l → t.1 99 i = σ.1 99 i ∧ t.1 100 i = σ.1 100 i) ∧ ∀ s, s < j → FS (bV n f l (dS n s)) (pop 7 (op n (dS n s))) (t.1 99 (fc n * l + s)) (t.1 100 (fc n * l + s))) (fc n) ?_ ?_ 0 σ (by omega) ⟨Fr.rf, fun _ _ => ⟨rfl, rfl⟩, fun s hs => absurd hs (Nat.not_lt_zero s)⟩
  · rintro t ⟨hF, ho, hr⟩
    have t24 : t.1 88 24 = nI (fc n) := by rw [hF.2.1 24 (by simp)]; exact h24
    have no : ¬ nI (fc n) < t.1 88 24 := by rw [t24]; exact nI_nlt (Nat.le_refl _) (by omega)
    exact bX11_fillsRow_3 _ _ _ (nI (fc n)) t (fun q => absurd q no) (fun _ => ⟨rfl, hF, ho, hr⟩) (fun q => absurd q no)
  · rintro j t hj ⟨hF, ho, hr⟩ ih
    have t24 : t.1 88 24 = nI (fc n) := by rw [hF.2.1 24 (by simp)]; exact h24
    have ea : (t.1 88 24 * nI l) + nI j = nI (fc n * l + j) := by rw [t24, pk_mul, nI_add]
    have alt : fc n * l + j < 35280 := by omega
    refine bX11_fillsRow_3 _ _ _ (nI j) t (fun _ => by rw [ea]; exact vp_in_nI alt (by decide)) (fun q => absurd q (by rw [t24]; exact nI_ge hj (by omega))) (fun _ => ?_)
    rw [ea, nI_clamp (by omega)]
    generalize hA : fc n * l + j = A at *
    have hL := dS_ok n j
    generalize hLd : dS n j = L at *
    have z0 : op n L = 0 ↔ j = 0 := by rw [← hLd]; exact dS_0 hj
    have zj : (nI j : Int32) = 0 ↔ j = 0 := nI0 (by omega)
    generalize ht1 : sA (sA t 99 (upd (t.1 99) A (if nI j = 0 then (0 : Int32) else 1000))) 100 (upd (t.1 100) A (bI (nI j = 0))) = t1
    have F1 : Fr [93, 99, 100, 101] [] σ t1 := by rw [← ht1]; exact (hF.tA (by decide) (by decide)).tA (by decide) (by decide)
    have e99 : ∀ i, t1.1 99 i = if i = A then (if nI j = 0 then (0 : Int32) else 1000) else t.1 99 i := fun i => by rw [← ht1, sA_ne (by decide), sA_at, upd_eq]
    have e100 : ∀ i, t1.1 100 i = if i = A then bI (nI j = 0) else t.1 100 i := fun i => by rw [← ht1, sA_at, upd_eq]
    refine (tX11_spansOf d j n (by omega) hn t1).mono ?_
    rintro v t2 ⟨hv, F2, l2⟩
    rw [hv]
    rw [hLd] at l2
    refine bX11_fillsRow_66 _ _ _ _ _ t2 ?_
    -- the mask of all
    refine loopI1 (fun x a => Run MX11_fillsRow (d + 1) 72 [some (.ref 88), some (.int (nI l)), some (.int (nI n)), some (.int (nI f)), some (.int (nI j)), some (.int (nI A)), some (.int a), some (.int x), none, none] [] t2 _) (fun i a => a = nI (mk (fun i => decide (0 < L i)) i)) n ?_ ?_ 0 _ (by omega) rfl
    · intro a ha
      have no : ¬ nI n < nI n := nI_nlt (Nat.le_refl _) (by omega)
      refine bX11_fillsRow_72 _ _ _ _ _ a (nI n) t2 (fun q => absurd q no) (fun _ => ?_) (fun q => absurd q no)
      rw [ha]
      show Run _ _ _ [some (.ref 88), some (.int (nI l)), some (.int (nI n)), some (.int (nI f)), some (.int (nI j)), some (.int (nI A)), some (.int (nI (op n L))), some (.int (if nI l ≤ 0 then (0 : Int32) else nI (op n L))), none, none] _ _ _
      -- behind the loop of CELLS
      have fin : ∀ t3, Fr [93, 99, 100, 101] [] σ t3 → (∀ i, i ≠ A → t3.1 99 i = t1.1 99 i ∧ t3.1 100 i = t1.1 100 i) → FS (bV n f l L) (pop 7 (op n L)) (t3.1 99 A) (t3.1 100 A) → Run MX11_fillsRow (d + 1) 3 [some (.ref 88), some (.int (nI l)), some (.int (nI n)), some (.int (nI f)), some (.int (nI j + 1)), none, none, none, none, none] [] t3 (fun v t => v = none ∧ Fr [93, 99, 100, 101] [] σ t ∧ (∀ i, i < fc n * l → t.1 99 i = σ.1 99 i ∧ t.1 100 i = σ.1 100 i) ∧ tRw n f l t) := by
        intro t3 F3 o3 fs
        refine ih t3 ⟨F3, fun i hi => ?_, fun s hs => ?_⟩
        · obtain ⟨u1, u2⟩ := o3 i (by omega)
          rw [u1, u2, e99, e100, if_neg (by omega), if_neg (by omega)]
          exact ho i hi
        · by_cases es : s = j
          · subst es
            rw [hA, hLd]; exact fs
          · obtain ⟨u1, u2⟩ := o3 (fc n * l + s) (by omega)
            rw [u1, u2, e99, e100, if_neg (by omega), if_neg (by omega)]
            exact hr s (by omega)
      have F2' : Fr [93, 99, 100, 101] [] σ t2 := F1.tr (F2.mono (by decide) (by decide))
      have a99 : t2.1 99 = t1.1 99 := F2.1 99 (by decide) (by decide)
      have a100 : t2.1 100 = t1.1 100 := F2.1 100 (by decide) (by decide)
      have p7 := pop_le 7 (op n L)
      by_cases z : op n L = 0
      · have j0 := z0.mp z
        have x0 : (if nI l ≤ 0 then (0 : Int32) else nI (op n L)) = 0 := by rw [z]; exact ite_self _
        rw [x0]
        refine bX11_fillsRow_119 _ _ _ _ _ _ _ t2 (fun _ => fin t2 F2' (fun i _ => by rw [a99, a100]; exact ⟨rfl, rfl⟩) (.inr ⟨0, ?_, ?_, fun s hs => absurd hs (Nat.not_lt_zero s), ?_⟩)) (fun q => absurd q (by decide))
        · rw [a99, e99, if_pos rfl, if_pos (zj.mpr j0), z, pop_0]; rfl
        · rw [bV_z z, if_pos rfl]; decide
        · rw [a100, e100, if_pos rfl, bV_z z, if_pos rfl]; unfold bI; rw [if_pos (zj.mpr j0)]; rfl
      · have j0 : ¬ nI j = 0 := fun q => z (z0.mpr (zj.mp q))
        have s99 : t2.1 99 A = 1000 := by rw [a99, e99, if_pos rfl, if_neg j0]
        have s100 : t2.1 100 A = 0 := by rw [a100, e100, if_pos rfl]; exact if_neg j0
        cases l with
        | zero =>
          rw [if_pos (show nI 0 ≤ 0 by decide)]
          exact bX11_fillsRow_119 _ _ _ _ _ _ _ t2 (fun _ => fin t2 F2' (fun i _ => by rw [a99, a100]; exact ⟨rfl, rfl⟩) (.inl ⟨s99, s100, fun s => bV_0 z s⟩)) (fun q => absurd q (by decide))
        | succ l =>
          rw [if_neg (fun q => absurd ((le0 (by omega)).mp q) (by omega))]
          have op128 := op_128 (n := n) (L := L) hn
          have opn : op n L < 2 ^ n := Nat.lt_pow_two_of_testBit _ (fun i hi => by rw [op_b, decide_eq_false (by omega)]; rfl)
          have tb := ht (by omega)
          -- the loop of CELLS
          have loop : ∀ k c t3, c ≤ k → c &&& op n L = c → Fr [93, 99, 100, 101] [] σ t3 → (∀ i, i ≠ A → t3.1 99 i = t1.1 99 i ∧ t3.1 100 i = t1.1 100 i) → (∀ i, i < n → t3.1 93 i = nI (L i)) → FS (vP n f l L c) (pop 7 (op n L)) (t3.1 99 A) (t3.1 100 A) → Run MX11_fillsRow (d + 1) 119 [some (.ref 88), some (.int (nI (l + 1))), some (.int (nI n)), some (.int (nI f)), some (.int (nI j)), some (.int (nI A)), some (.int (nI (op n L))), some (.int (nI c)), none, none] [] t3 (fun v t => v = none ∧ Fr [93, 99, 100, 101] [] σ t ∧ (∀ i, i < fc n * (l + 1) → t.1 99 i = σ.1 99 i ∧ t.1 100 i = σ.1 100 i) ∧ tRw n f (l + 1) t) := by
            intro k
            induction k with
            | zero =>
              intro c t3 hk hc F3 o3 l3 fs
              have c0 : c = 0 := by omega
              subst c0
              exact bX11_fillsRow_119 _ _ _ _ _ _ _ t3 (fun _ => fin t3 F3 o3 (FS_cong (vP_0 z) fs)) (fun q => absurd q (by decide))
            | succ k ihk =>
              intro c t3 hk hc F3 o3 l3 fs
              by_cases c0 : c = 0
              · subst c0
                exact bX11_fillsRow_119 _ _ _ _ _ _ _ t3 (fun _ => fin t3 F3 o3 (FS_cong (vP_0 z) fs)) (fun q => absurd q (by decide))
              have cle : c ≤ op n L := by rw [← hc]; exact Nat.and_le_right
              have ok := okR_iff.mp hc
              refine bX11_fillsRow_119 _ _ _ _ _ _ _ t3 (fun q => absurd ((le0 (by omega)).mp q) c0) (fun _ => ?_)
              refine (tX11_behind d c n f L hn hf (fun i _ => (hL i).1) (by omega) t3 l3).mono ?_
              rintro v4 t4 ⟨hv4, F4⟩
              rw [hv4]
              have b99 : t4.1 99 = t3.1 99 := F4.1 99 (by decide) (by decide)
              have b100 : t4.1 100 = t3.1 100 := F4.1 100 (by decide) (by decide)
              have b93 : t4.1 93 = t3.1 93 := F4.1 93 (by decide) (by decide)
              have F4' : Fr [93, 99, 100, 101] [] σ t4 := F3.tr (F4.mono (by decide) (by decide))
              have t424 : t4.1 88 24 = nI (fc n) := by rw [F4'.2.1 24 (by simp)]; exact h24
              have Acl : (nI A).toNatClampNeg = A := nI_clamp (by omega)
              have nx : (nI c - 1) &&& nI (op n L) = nI ((c - 1) &&& op n L) := by rw [sub1 (by omega), nx_and]
              have nle : (c - 1) &&& op n L ≤ k := Nat.le_trans Nat.and_le_left (by omega)
              have nsub : ((c - 1) &&& op n L) &&& op n L = (c - 1) &&& op n L := by rw [Nat.and_assoc, Nat.and_self]
              have vA : vp_in (nI A) 35280 := vp_in_nI alt (by decide)
              have n1000 := FS_le p7 (fun s q => vP_b (by omega) s q) fs
              by_cases mb : mB n f L c = true
              · rw [if_pos mb]
                have lto : en n (jn c L) < fc n := en_lt (fun i _ => (okS_jn hL ok i).1)
                have n4 : ¬ nI (en n (jn c L)) = (-4 : Int32) := m4 (by omega)
                have ei : (t4.1 88 24 * (nI (l + 1) - 1)) + nI (en n (jn c L)) = nI (fc n * l + en n (jn c L)) := by rw [t424, sub1 (by omega), show l + 1 - 1 = l from rfl, pk_mul, nI_add]
                have eM : fc n * (l + 1) = fc n * l + fc n := Nat.mul_succ _ _
                have ilt : fc n * l + en n (jn c L) < 35280 := by omega
                have vi : vp_in (nI (fc n * l + en n (jn c L))) 35280 := vp_in_nI ilt (by decide)
                have icl : (nI (fc n * l + en n (jn c L))).toNatClampNeg = fc n * l + en n (jn c L) := nI_clamp (by omega)
                have ine : fc n * l + en n (jn c L) ≠ A := by omega
                refine bX11_fillsRow_132 _ _ _ _ _ _ _ _ t4 (fun _ => by rw [ei]; exact vi) (fun q => absurd q n4) (fun q => absurd q n4) (fun q => absurd q n4) (fun _ => ?_) (fun q => absurd q n4) (fun q => absurd q n4)
                rw [ei, icl]
                refine (tX11_few d c (by omega) t4).mono ?_
                rintro v5 t5 ⟨hv5, ht5⟩
                rw [hv5, ht5]
                -- what the table has
                have old : t4.1 99 (fc n * l + en n (jn c L)) = σ.1 99 (fc n * l + en n (jn c L)) ∧ t4.1 100 (fc n * l + en n (jn c L)) = σ.1 100 (fc n * l + en n (jn c L)) := by
                  obtain ⟨u1, u2⟩ := o3 _ ine
                  rw [b99, b100, u1, u2, e99, e100, if_neg ine, if_neg ine]
                  exact ho _ (by omega)
                have fs' : FS (bV n f l (jn c L)) (pop 7 (op n (jn c L))) (t4.1 99 (fc n * l + en n (jn c L))) (t4.1 100 (fc n * l + en n (jn c L))) := by
                  have := tb (en n (jn c L)) lto
                  rw [dS_en (okS_jn hL ok)] at this
                  rw [old.1, old.2]; exact this
                have v : vB n f L c = true := vB_mB.mpr ⟨c0, mb⟩
                have st := FS_step p7 (pop_le 7 _) (pop_le 7 c) (pop_le 7 (c &&& un n L)) (pops ok) (fun s q => vP_b (n := n) (f := f) (l := l) (L := L) (c := c) (by omega) s q) (fun s q => by have := bV_le q; omega) fs fs'
                have eV : ∀ s, vP n f l L c s + (if pop 7 (c &&& un n L) ≤ s then bV n f l (jn c L) (s - pop 7 (c &&& un n L)) else 0) = vP n f l L ((c - 1) &&& op n L) s := fun s => by
                  rw [vP_next (by omega) (by omega) hc]
                  unfold bT
                  simp only [v, true_and]
                rw [← b99, ← b100] at st
                generalize hX : t4.1 99 (fc n * l + en n (jn c L)) = X at *
                generalize hP : t4.1 100 (fc n * l + en n (jn c L)) = P at *
                refine bX11_fillsRow_168 _ _ _ _ _ _ _ _ _ _ t4 vA (fun _ _ _ _ => by rw [ei]; exact vi) (fun _ _ _ _ => by rw [ei]; exact vi) (fun q => ?_) (fun q => ?_)
                · rw [Acl] at q ⊢
                  rw [nx, ei, icl, hP, if_neg n4]
                  have st1 := FS_cong eV (st.1 q)
                  refine ihk _ _ nle nsub (F4'.tA (by decide) (by decide)) (fun i hi => ?_) (fun i hi => ?_) ?_
                  · obtain ⟨u1, u2⟩ := o3 i hi
                    rw [sA_ne (by decide), sA_at, upd_eq, if_neg hi, b99, b100]; exact ⟨u1, u2⟩
                  · rw [sA_ne (by decide), b93]; exact l3 i hi
                  · rw [sA_ne (by decide), sA_at, upd_eq, if_pos rfl]; exact st1
                · rw [Acl] at q ⊢
                  rw [nx, ei, icl, if_neg n4, upd_eq, if_pos rfl, upd_eq (t4.1 99), if_pos rfl, if_pos rfl, upd_eq (t4.1 100), if_neg ine, hP]
                  have st2 := FS_cong eV (st.2 q)
                  refine ihk _ _ nle nsub (((F4'.tA (by decide) (by decide)).tA (by decide) (by decide)).tA (by decide) (by decide)) (fun i hi => ?_) (fun i hi => ?_) ?_
                  · obtain ⟨u1, u2⟩ := o3 i hi
                    rw [sA_ne (by decide), sA_ne (by decide), sA_at, upd_eq, if_neg hi, sA_at, upd_eq, if_neg hi, upd_eq, if_neg hi, b99, b100]; exact ⟨u1, u2⟩
                  · rw [sA_ne (by decide), sA_ne (by decide), sA_ne (by decide), b93]; exact l3 i hi
                  · rw [sA_ne (by decide), sA_ne (by decide), sA_at, upd_eq, if_pos rfl, sA_at, upd_eq, if_pos rfl]; exact st2
              · rw [if_neg mb]
                have v : ¬ vB n f L c = true := fun q => mb (vB_mB.mp q).2
                have eV : ∀ s, vP n f l L c s = vP n f l L ((c - 1) &&& op n L) s := fun s => by
                  rw [vP_next (by omega) (by omega) hc, bT_0 v, Nat.add_zero]
                refine bX11_fillsRow_132 _ _ _ _ _ _ _ _ t4 (fun q => absurd rfl q) (fun _ => vA) (fun _ _ q => absurd rfl q) (fun _ _ q => absurd rfl q) (fun q => absurd rfl q) (fun _ _ => ?_) (fun _ q => ?_)
                · rw [Acl, nx, if_pos rfl]
                  refine ihk _ _ nle nsub (F4'.tA (by decide) (by decide)) (fun i hi => ?_) (fun i hi => ?_) ?_
                  · obtain ⟨u1, u2⟩ := o3 i hi
                    rw [sA_ne (by decide), sA_at, upd_eq, if_neg hi, b99, b100]; exact ⟨u1, u2⟩
                  · rw [sA_ne (by decide), b93]; exact l3 i hi
                  · rw [sA_ne (by decide), sA_at, upd_eq, if_pos rfl, b99, b100, Int32.add_zero]
                    exact FS_cong eV fs
                · rw [Acl, b99] at q; exact absurd q n1000
          exact loop (op n L) (op n L) t2 (Nat.le_refl _) (Nat.and_self _) F2' (fun i _ => by rw [a99, a100]; exact ⟨rfl, rfl⟩) l2 (.inl ⟨s99, s100, fun s => vP_op s⟩)
    · intro i a hi ha ih2
      have l8 := okS8 hn hL i
      refine bX11_fillsRow_72 _ _ _ _ _ a (nI i) t2 (fun _ => vp_in_nI (by omega) (by decide)) (fun q => absurd q (nI_ge hi (by omega))) (fun _ => ih2 _ ?_)
      rw [nI_clamp (by omega), l2 i hi, one_sh i (by omega), ha]
      show _ = nI (if decide (0 < L i) = true then _ else _)
      by_cases c : 0 < L i
      · rw [if_neg (fun q => absurd ((le0 (by omega)).mp q) (by omega)), if_pos (by simp [c]), fa_or]
      · rw [if_pos ((le0 (by omega)).mpr (by omega)), if_neg (by simp [c])]
        exact (fa_or _ 0).trans (by rw [Nat.or_zero])
end BESTT

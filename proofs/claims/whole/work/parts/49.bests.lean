/-! BEST: the search of the class -/
section BESTS
theorem pk0 {n : Nat} {L : Nat → Nat} (hn : n ≤ 7) (h : okS n L) : pk8 n L = 0 ↔ op n L = 0 := by
  constructor
  · intro q
    refine Nat.eq_of_testBit_eq (fun i => ?_)
    rw [op_b, Nat.zero_testBit]
    have := pk8_dg (n := n) (i := i) (fun i _ => okS8 hn h i)
    rw [q, Nat.zero_div, okS_z h] at this
    simp [← this]
  · intro q
    refine sm_0 (fun i hi => ?_)
    have t := op_b n L i
    rw [q, Nat.zero_testBit] at t
    have : L i = 0 := by
      by_cases c : L i = 0
      · exact c
      · simp [hi, show 0 < L i by omega] at t
    rw [this]; rfl
theorem op_even {n : Nat} {L : Nat → Nat} (h : okS n L) : op n L % 2 = 0 := by
  have := bit01 (op n L) 0
  rw [op_b] at this
  have l0 := (h 0).1
  simp [show L 0 = 0 by omega] at this
  exact this
theorem op_128 {n : Nat} {L : Nat → Nat} (hn : n ≤ 7) : op n L < 128 := Nat.lt_pow_two_of_testBit (n := 7) _ (fun i hi => by rw [op_b, decide_eq_false (by omega)]; rfl)
theorem vB_le {n f m : Nat} {L : Nat → Nat} (h : vB n f L m = true) : m ≤ op n L := by
  have := (okR_iff.mpr (vB_iff.mp h).2.1)
  rw [← this]; exact Nat.and_le_right
theorem bL_z {n f : Nat} {L : Nat → Nat} (h : op n L = 0) : ∀ l s r, bL n f l L s r = 0
  | 0, _, _ => rfl
  | l + 1, s, r => if_pos h
theorem pop_7 {m : Nat} (h : m < 128) : pop 64 m = pop 7 m := by
  unfold pop
  refine sm_tail (fun c a _ => ?_) (by decide)
  have : 2 ^ 7 ≤ 2 ^ c := Nat.pow_le_pow_right (by decide) a
  rw [Nat.div_eq_of_lt (by omega)]
theorem tX0_found (d l dd : Nat) (hl : l ≤ dd) (hd : dd ≤ 6) (σ : St) (h3 : σ.1 21 3 = nI dd) : Ct yX0_found MX0_found (d + 3) [.ref 21, .int (nI l)] σ (fun v s => v = some (.int 1) ∧ Fr [21, 23] [] σ s ∧ (∀ k, k ≠ 7 → s.1 21 k = σ.1 21 k) ∧ (¬ σ.1 21 7 = 0 → s = σ) ∧ (σ.1 21 7 = 0 → s.1 21 7 = 1 ∧ ∀ r, r < 6 → s.1 23 r = if r < dd - l then σ.1 22 r else 0)) := by
  refine Ct.of mX0_found.1 (Nat.le_of_ble_eq_true rfl) (bX0_found_0 _ σ (fun q => ⟨rfl, Fr.rf, fun _ _ => rfl, fun _ => rfl, fun t => absurd t q⟩) (fun q => ?_))
  refine loopI1 (fun x s => Run MX0_found (d + 3) 9 [some (.ref 21), some (.int (nI l)), some (.int x)] [] s _) (fun j s => Fr [23] [] σ s ∧ ∀ r, r < j → s.1 23 r = if r < dd - l then σ.1 22 r else 0) 6 ?_ ?_ 0 σ (by omega) ⟨Fr.rf, fun r hr => absurd hr (Nat.not_lt_zero r)⟩
  · rintro s ⟨hF, hr⟩
    have e21 : s.1 21 = σ.1 21 := hF.1 21 (by decide) (by decide)
    refine bX0_found_9 _ (nI 6) s (fun _ => ⟨rfl, (hF.mono (by decide) (by decide)).tA (by decide) (by decide), fun k hk => ?_, fun t => absurd q t, fun _ => ⟨?_, fun r hr6 => ?_⟩⟩) (fun t => absurd t (by decide))
    · rw [sA_at, upd_eq, if_neg hk, e21]
    · rw [sA_at, upd_eq, if_pos rfl]
    · rw [sA_ne (by decide)]; exact hr r hr6
  · rintro j s hj ⟨hF, hr⟩ ih
    have e21 : s.1 21 = σ.1 21 := hF.1 21 (by decide) (by decide)
    have e22 : s.1 22 = σ.1 22 := hF.1 22 (by decide) (by decide)
    refine bX0_found_9 _ (nI j) s (fun t => absurd t (nI_ge (b := 6) hj (by decide))) (fun _ => ?_)
    rw [e21, h3, pk_sub hl, aG_in ln_22 hj, aP_in ln_23 hj, e22]
    refine ih _ ⟨hF.tA (by decide) (by decide), fun r hr2 => ?_⟩
    rw [sA_at, upd_eq]
    by_cases e : r = j
    · subst e
      rw [if_pos rfl]
      by_cases c : r < dd - l
      · rw [if_neg (fun t => absurd ((nI_leI (by omega) (by omega)).mp t) (by omega)), if_pos c]
      · rw [if_pos ((nI_leI (by omega) (by omega)).mpr (by omega)), if_neg c]
    · rw [if_neg e]; exact hr r (by omega)
def wP (n f dd l : Nat) (L : Nat → Nat) (s : Nat) (σ σ' : St) : Prop := Fr [21, 22, 23] [] σ σ' ∧ (∀ k, k ≠ 7 → σ'.1 21 k = σ.1 21 k) ∧ (∀ r, r < dd - l → σ'.1 22 r = σ.1 22 r) ∧ (¬ σ.1 21 7 = 0 → σ'.1 21 7 = σ.1 21 7 ∧ σ'.1 23 = σ.1 23) ∧ (σ.1 21 7 = 0 → (bV n f l L s = 0 → σ'.1 21 7 = 0) ∧ (0 < bV n f l L s → σ'.1 21 7 = 1 ∧ ∀ r, r < 6 → σ'.1 23 r = if r < dd - l then σ.1 22 r else nI (bL n f l L s (r - (dd - l)))))
def wI (n f dd l : Nat) (L : Nat → Nat) (s m : Nat) (σ σ' : St) : Prop := Fr [21, 22, 23] [] σ σ' ∧ (∀ k, k ≠ 7 → σ'.1 21 k = σ.1 21 k) ∧ (∀ r, r < dd - (l + 1) → σ'.1 22 r = σ.1 22 r) ∧ (¬ σ.1 21 7 = 0 → σ'.1 21 7 = σ.1 21 7 ∧ σ'.1 23 = σ.1 23) ∧ (σ.1 21 7 = 0 → (sm (bT n f (bV n f l) L s) m = 0 → σ'.1 21 7 = 0) ∧ (0 < sm (bT n f (bV n f l) L s) m → σ'.1 21 7 = 1 ∧ ∀ r, r < 6 → σ'.1 23 r = if r < dd - (l + 1) then σ.1 22 r else if r = dd - (l + 1) then nI (lst (bT n f (bV n f l) L s) m) else nI (bL n f l (jn (lst (bT n f (bV n f l) L s) m) L) (s - pop 7 (lst (bT n f (bV n f l) L s) m &&& un n L)) (r - (dd - (l + 1)) - 1))))
theorem wP_0 {n f dd l : Nat} {L : Nat → Nat} {s : Nat} {σ : St} (h : bV n f l L s = 0) : wP n f dd l L s σ σ := ⟨Fr.rf, fun _ _ => rfl, fun _ _ => rfl, fun _ => ⟨rfl, rfl⟩, fun q => ⟨fun _ => q, fun t => absurd t (by omega)⟩⟩
theorem wI_skip {n f dd l m : Nat} {L : Nat → Nat} {s : Nat} {σ σ' : St} (hL : okS n L) (hm : m % 2 = 0) (h0 : bT n f (bV n f l) L s m = 0) (h : wI n f dd l L s m σ σ') : wI n f dd l L s (m + 2) σ σ' ∧ sm (bT n f (bV n f l) L s) (m + 2) = sm (bT n f (bV n f l) L s) m := by
  have o : bT n f (bV n f l) L s (m + 1) = 0 := by
    have := bT_odd (f := f) (g := bV n f l) (s := s) hL (m / 2)
    rw [show 2 * (m / 2) + 1 = m + 1 by omega] at this; exact this
  have e : sm (bT n f (bV n f l) L s) (m + 2) = sm (bT n f (bV n f l) L s) m := by
    show sm _ m + _ + _ = _
    rw [h0, o]; rfl
  refine ⟨⟨h.1, h.2.1, h.2.2.1, h.2.2.2.1, fun q => ⟨fun t => (h.2.2.2.2 q).1 (by rw [← e]; exact t), fun t => ?_⟩⟩, e⟩
  rw [e] at t
  rw [lst_more t (by omega)]
  exact (h.2.2.2.2 q).2 t
theorem tX0_waysOn (n f dd : Nat) (hn : n ≤ 7) (n1 : 1 ≤ n) (hf : f ≤ 6) (hd : dd ≤ 6) : ∀ (l D : Nat) (L : Nat → Nat) (s : Nat) (σ : St), l ≤ dd → 2 * l + 40 ≤ D → okS n L → s ≤ 42 → σ.1 21 2 = nI n → σ.1 21 3 = nI dd → σ.1 21 4 = nI f → Ct yX0_waysOn MX0_waysOn D [.ref 21, .int (nI (pk8 n L)), .int (nI l), .int (nI s)] σ (fun v σ' => v = some (.int (nI (bV n f l L s))) ∧ wP n f dd l L s σ σ') := by
  intro l
  induction l with
  | zero =>
    intro D L s σ hl hD hL hs h2 h3 h4
    obtain ⟨d, rfl⟩ : ∃ d, D = d + 40 := ⟨D - 40, by omega⟩
    have p31 : pk8 n L < 2 ^ 31 := by have := pk8_lt (n := n) (fun i _ => okS8 hn hL i); have := n8 hn; omega
    have z : nI (pk8 n L) = 0 ↔ op n L = 0 := by rw [nI0 (by omega), pk0 hn hL]
    refine Ct.of mX0_waysOn.1 (Nat.le_of_ble_eq_true rfl) (bX0_waysOn_0 _ _ _ σ (fun q _ => ?_) (fun _ q => absurd q (by decide)) (fun q1 q2 => ?_) (fun q1 q2 => ?_))
    · have e : bV n f 0 L s = 0 := bV_0 (fun t => q (z.mpr t)) s
      rw [e]; exact ⟨rfl, wP_0 e⟩
    · have e : bV n f 0 L s = 0 := by rw [bV_z (z.mp q1), if_neg (fun t => q2 (by rw [t]; rfl))]
      rw [e]; exact ⟨rfl, wP_0 e⟩
    · have s0 : s = 0 := (nI0 (by omega)).mp q2
      have e : bV n f 0 L s = 1 := by rw [bV_z (z.mp q1), if_pos s0]
      refine (tX0_found (d + 36) 0 dd (Nat.zero_le _) hd σ h3).mono ?_
      rintro v s1 ⟨hv, a1, a2, a3, a4⟩
      rw [hv]
      refine bX0_waysOn_13 1 s1 ⟨by rw [e]; rfl, a1.mono (by decide) (by decide), a2, fun r _ => by rw [a1.1 22 (by decide) (by decide)], fun q => by rw [a3 q]; exact ⟨rfl, rfl⟩, fun q => ⟨fun t => by omega, fun _ => ⟨(a4 q).1, fun r hr => ?_⟩⟩⟩
      rw [bL_z (z.mp q1)]; exact (a4 q).2 r hr
  | succ l ihl =>
    intro D L s σ hl hD hL hs h2 h3 h4
    obtain ⟨d, rfl⟩ : ∃ d, D = d + 40 := ⟨D - 40, by omega⟩
    have p31 : pk8 n L < 2 ^ 31 := by have := pk8_lt (n := n) (fun i _ => okS8 hn hL i); have := n8 hn; omega
    have z : nI (pk8 n L) = 0 ↔ op n L = 0 := by rw [nI0 (by omega), pk0 hn hL]
    refine Ct.of mX0_waysOn.1 (Nat.le_of_ble_eq_true rfl) (bX0_waysOn_0 _ _ _ σ (fun _ q => absurd q (by rw [le0 (by omega)]; omega)) (fun q1 q2 => ?_) (fun q1 q2 => ?_) (fun q1 q2 => ?_))
    · have zn : ¬ op n L = 0 := fun t => q1 (z.mpr t)
      refine (tX0_longestChain (d + 38) n L hn n1 hL σ h2).mono ?_
      rintro v s1 ⟨hv, hs1⟩
      rw [hv, hs1]
      have l2 : 2 ^ (l + 1) ≤ 2 ^ 6 := Nat.pow_le_pow_right (by decide) (by omega)
      have g8 : gst (ck L) n ≤ 8 := gst_le (fun c hc => by have := ck_le hL (Nat.le_refl c); omega)
      refine bX0_waysOn_27 _ _ _ _ σ (fun u => ?_) (fun u => ?_)
      · -- all ROWS
        have op128 := op_128 (n := n) (L := L) hn
        have ope := op_even hL
        have un128 : un n L < 128 := Nat.lt_pow_two_of_testBit (n := 7) _ (fun i hi => by rw [un_b, decide_eq_false (by omega)]; rfl)
        have loop : ∀ k m s1, op n L < m + 2 * k → m % 2 = 0 → 0 < m → m ≤ 128 → wI n f dd l L s m σ s1 → Run MX0_waysByRows (d + 39) 30 [some (.ref 21), some (.int (nI (pk8 n L))), some (.int (nI (l + 1))), some (.int (nI s)), some (.int (nI (op n L))), some (.int (nI (un n L))), some (.int (nI (sm (bT n f (bV n f l) L s) m))), some (.int (nI m)), none] [] s1 (fun v σ' => v = some (.int (nI (bV n f (l + 1) L s))) ∧ wP n f dd (l + 1) L s σ σ') := by
          intro k
          induction k with
          | zero =>
            intro m s1 hk he hp h128 hw
            have lt : nI (op n L) < nI m := (nI_ltI (by omega) (by omega)).mpr (by omega)
            have nle : ¬ nI m ≤ nI (op n L) := nI_ge (by omega) (by omega)
            have e : sm (bT n f (bV n f l) L s) 128 = sm (bT n f (bV n f l) L s) m := sm_tail (fun c a _ => bT_0 (fun t => by have := vB_le t; omega)) h128
            have eV : bV n f (l + 1) L s = sm (bT n f (bV n f l) L s) m := (bV_s zn s).trans e
            refine bX0_waysByRows_30 _ _ _ _ _ _ _ s1 (fun _ => ⟨by rw [eV], hw.1, hw.2.1, hw.2.2.1, hw.2.2.2.1, fun q => ⟨fun t => (hw.2.2.2.2 q).1 (by rw [← eV]; exact t), fun t => ?_⟩⟩) (fun q => absurd q nle) (fun q => absurd q nle)
            rw [eV] at t
            obtain ⟨c1, c2⟩ := (hw.2.2.2.2 q).2 t
            refine ⟨c1, fun r hr => ?_⟩
            rw [c2 r hr, ← lst_more t h128]
            by_cases r1 : r < dd - (l + 1)
            · rw [if_pos r1, if_pos r1]
            · rw [if_neg r1, if_neg r1]
              have eL : bL n f (l + 1) L s (r - (dd - (l + 1))) = if r - (dd - (l + 1)) = 0 then lst (bT n f (bV n f l) L s) 128 else bL n f l (jn (lst (bT n f (bV n f l) L s) 128) L) (s - pop 7 (lst (bT n f (bV n f l) L s) 128 &&& un n L)) (r - (dd - (l + 1)) - 1) := if_neg zn
              rw [eL]
              by_cases r2 : r = dd - (l + 1)
              · rw [if_pos r2, if_pos (by omega)]
              · rw [if_neg r2, if_neg (by omega)]
          | succ k ihk =>
            intro m s1 hk he hp h128 hw
            by_cases c : op n L < m
            · exact (fun (h : ∀ m s1, op n L < m → m % 2 = 0 → 0 < m → m ≤ 128 → wI n f dd l L s m σ s1 → Run MX0_waysByRows (d + 39) 30 [some (.ref 21), some (.int (nI (pk8 n L))), some (.int (nI (l + 1))), some (.int (nI s)), some (.int (nI (op n L))), some (.int (nI (un n L))), some (.int (nI (sm (bT n f (bV n f l) L s) m))), some (.int (nI m)), none] [] s1 (fun v σ' => v = some (.int (nI (bV n f (l + 1) L s))) ∧ wP n f dd (l + 1) L s σ σ')) => h m s1 c he hp h128 hw) (fun m s1 hk he hp h128 hw => by
                have lt : nI (op n L) < nI m := (nI_ltI (by omega) (by omega)).mpr (by omega)
                have nle : ¬ nI m ≤ nI (op n L) := nI_ge (by omega) (by omega)
                have e : sm (bT n f (bV n f l) L s) 128 = sm (bT n f (bV n f l) L s) m := sm_tail (fun c a _ => bT_0 (fun t => by have := vB_le t; omega)) h128
                have eV : bV n f (l + 1) L s = sm (bT n f (bV n f l) L s) m := (bV_s zn s).trans e
                refine bX0_waysByRows_30 _ _ _ _ _ _ _ s1 (fun _ => ⟨by rw [eV], hw.1, hw.2.1, hw.2.2.1, hw.2.2.2.1, fun q => ⟨fun t => (hw.2.2.2.2 q).1 (by rw [← eV]; exact t), fun t => ?_⟩⟩) (fun q => absurd q nle) (fun q => absurd q nle)
                rw [eV] at t
                obtain ⟨c1, c2⟩ := (hw.2.2.2.2 q).2 t
                refine ⟨c1, fun r hr => ?_⟩
                rw [c2 r hr, ← lst_more t h128]
                by_cases r1 : r < dd - (l + 1)
                · rw [if_pos r1, if_pos r1]
                · rw [if_neg r1, if_neg r1]
                  have eL : bL n f (l + 1) L s (r - (dd - (l + 1))) = if r - (dd - (l + 1)) = 0 then lst (bT n f (bV n f l) L s) 128 else bL n f l (jn (lst (bT n f (bV n f l) L s) 128) L) (s - pop 7 (lst (bT n f (bV n f l) L s) 128 &&& un n L)) (r - (dd - (l + 1)) - 1) := if_neg zn
                  rw [eL]
                  by_cases r2 : r = dd - (l + 1)
                  · rw [if_pos r2, if_pos (by omega)]
                  · rw [if_neg r2, if_neg (by omega)])
            · have nlt : ¬ nI (op n L) < nI m := nI_nlt (by omega) (by omega)
              have s2 : s1.1 21 2 = nI n := by rw [hw.2.1 2 (by decide)]; exact h2
              have s3 : s1.1 21 3 = nI dd := by rw [hw.2.1 3 (by decide)]; exact h3
              have s4 : s1.1 21 4 = nI f := by rw [hw.2.1 4 (by decide)]; exact h4
              have nx2 : nI m + 2 = nI (m + 2) := nI_add m 2
              have skip : bT n f (bV n f l) L s m = 0 → Run MX0_waysByRows (d + 39) 30 [some (.ref 21), some (.int (nI (pk8 n L))), some (.int (nI (l + 1))), some (.int (nI s)), some (.int (nI (op n L))), some (.int (nI (un n L))), some (.int (nI (sm (bT n f (bV n f l) L s) m))), some (.int (nI m + 2)), none] [] s1 (fun v σ' => v = some (.int (nI (bV n f (l + 1) L s))) ∧ wP n f dd (l + 1) L s σ σ') := by
                intro h0
                obtain ⟨w1, w2⟩ := wI_skip hL he h0 hw
                rw [nx2, ← w2]
                exact ihk (m + 2) s1 (by omega) (by omega) (by omega) (by omega) w1
              have mu : m &&& un n L < 128 := Nat.lt_of_le_of_lt Nat.and_le_left (by omega)
              have eB : rJ6_bitCount_0f7a4 (nI m &&& nI (un n L)) s1 = nI (pop 7 (m &&& un n L)) := by
                rw [nx_and, bitsC (by omega), pop_7 mu]
              have p7 := pop_le 7 (m &&& un n L)
              have sub : (nI m &&& (nI (op n L) ^^^ (-1))) = 0 ↔ okR n L m := by
                rw [and_not, nI0 (mk_lt _ (Nat.le_refl _)), ← okR_iff]
                constructor
                · intro q
                  refine Nat.eq_of_testBit_eq (fun i => ?_)
                  have := mk_bit (fun i => m.testBit i && !(op n L).testBit i) 32 i
                  rw [q, Nat.zero_testBit] at this
                  rw [Nat.testBit_and]
                  by_cases i32 : i < 32
                  · rw [decide_eq_true i32] at this
                    cases t1 : m.testBit i <;> cases t2 : (op n L).testBit i <;> simp [t1, t2] at this ⊢
                  · have : m.testBit i = false := Nat.testBit_lt_two_pow (Nat.lt_of_lt_of_le (show m < 2 ^ 7 by omega) (Nat.pow_le_pow_right (by decide) (by omega)))
                    rw [this]; rfl
                · intro q
                  refine Nat.eq_of_testBit_eq (fun i => ?_)
                  rw [mk_bit, Nat.zero_testBit, ← q, Nat.testBit_and]
                  cases m.testBit i <;> cases (op n L).testBit i <;> simp
              have neg : ∀ {a b : Nat}, a < b → b ≤ 7 → a ≤ 42 → nI a - nI b < 0 := fun {a b} h1 h2 h3 => by
                rw [show nI a - nI b = zI ((a : Int) - b) from by (simp only [nI_zI, zl0, zl1, zl2, zl3, zl4, zl5, zl6, zl7, zl8, zl9, zl10, zl11, zl12, zl13, zl14, zl15, zl16, zl24, zl30, zl31, zl32, zl48, zl56, zl57, zl60, zl63, zl99, zl100, zl130, zl199, zl200, zl240, zl999, zl1000, ← zI_add, ← zI_sub, ← zI_mul, ← zI_neg] <;> first | rfl | (congr 1; omega)), show (0 : Int32) = zI 0 from rfl, zI_lt (by omega) (by decide)]; omega
              by_cases ok : okR n L m
              · by_cases le : pop 7 (m &&& un n L) ≤ s
                · have eL : (if (nI m &&& (nI (op n L) ^^^ (-1))) = 0 then (nI s - rJ6_bitCount_0f7a4 (nI m &&& nI (un n L)) s1) else (-4)) = nI (s - pop 7 (m &&& un n L)) := by
                    rw [if_pos (sub.mpr ok), eB, pk_sub le]
                  refine bX0_waysByRows_30 _ _ _ _ _ _ _ s1 (fun q => absurd q nlt) (fun _ q => ?_) (fun _ q => ?_)
                  · rw [eL] at q; exact absurd q (nI_pos (by omega))
                  · rw [eL]
                    refine (tX0_loadsFit (d + 37) n f m L hn n1 hf hL ok s1 s2 s4).mono ?_
                    rintro v5 s5 ⟨hv5, hs5⟩
                    rw [hv5, hs5]
                    refine bX0_waysByRows_76 _ _ _ _ _ _ _ _ _ s1 (fun q5 => ?_) (fun q5 => ?_)
                    · refine skip (bT_0 (fun t => ?_))
                      rw [if_pos (vB_iff.mp t).2.2] at q5; exact absurd q5 (by decide)
                    · have fit : gst (fun p => ld m L n p) n ≤ f := by
                        by_cases c : gst (fun p => ld m L n p) n ≤ f
                        · exact c
                        · rw [if_neg c] at q5; exact absurd rfl q5
                      have v : vB n f L m = true := vB_iff.mpr ⟨by omega, ok, fit⟩
                      have eT : bT n f (bV n f l) L s m = bV n f l (jn m L) (s - pop 7 (m &&& un n L)) := if_pos ⟨v, le⟩
                      rw [s3, pk_sub hl, aP_in ln_22 (show dd - (l + 1) < 6 by omega)]
                      generalize ht1 : sA s1 22 (upd (s1.1 22) (dd - (l + 1)) (nI m)) = t1
                      have k21 : t1.1 21 = s1.1 21 := by rw [← ht1, sA_ne (by decide)]
                      have k23 : t1.1 23 = s1.1 23 := by rw [← ht1, sA_ne (by decide)]
                      have k22 : ∀ r, t1.1 22 r = if r = dd - (l + 1) then nI m else s1.1 22 r := fun r => by rw [← ht1, sA_at, upd_eq]
                      have kF : Fr [21, 22, 23] [] s1 t1 := by rw [← ht1]; exact Fr.A (by decide) (by decide)
                      refine (tX0_joined (d + 37) n m L hn n1 hL ok t1 (by rw [k21]; exact s2)).mono ?_
                      rintro v6 s6 ⟨hv6, hs6⟩
                      rw [hv6, hs6]
                      refine bX0_waysByRows_104 _ _ _ _ _ _ _ _ _ t1 ?_
                      rw [show nI (l + 1) - 1 = nI l from sub1 (by omega)]
                      refine (ihl (d + 38) (jn m L) (s - pop 7 (m &&& un n L)) t1 (by omega) (by omega) (okS_jn hL ok) (by omega) (by rw [k21]; exact s2) (by rw [k21]; exact s3) (by rw [k21]; exact s4)).mono ?_
                      rintro v7 t2 ⟨hv7, w1, w2, w3, w4, w5⟩
                      rw [hv7]
                      refine bX0_waysByRows_112 _ _ _ _ _ _ _ _ t2 ?_
                      have o : bT n f (bV n f l) L s (m + 1) = 0 := by
                        have := bT_odd (f := f) (g := bV n f l) (s := s) hL (m / 2)
                        rw [show 2 * (m / 2) + 1 = m + 1 by omega] at this; exact this
                      have eS : sm (bT n f (bV n f l) L s) (m + 2) = sm (bT n f (bV n f l) L s) m + bV n f l (jn m L) (s - pop 7 (m &&& un n L)) := by
                        show sm _ m + _ + _ = _
                        rw [o, eT]; rfl
                      rw [nI_add, ← eS, nx2]
                      refine ihk (m + 2) t2 (by omega) (by omega) (by omega) (by omega) ⟨(hw.1.tr kF).tr w1, fun j hj => by rw [w2 j hj, k21]; exact hw.2.1 j hj, fun r hr => ?_, fun q6 => ?_, fun q6 => ⟨fun t6 => ?_, fun t6 => ?_⟩⟩
                      · rw [w3 r (by omega), k22, if_neg (by omega)]; exact hw.2.2.1 r hr
                      · obtain ⟨y1, y2⟩ := hw.2.2.2.1 q6
                        obtain ⟨y3, y4⟩ := w4 (by rw [k21, y1]; exact q6)
                        exact ⟨by rw [y3, k21, y1], by rw [y4, k23, y2]⟩
                      · rw [eS] at t6
                        exact (w5 (by rw [k21]; exact (hw.2.2.2.2 q6).1 (by omega))).1 (by omega)
                      · by_cases sp : 0 < sm (bT n f (bV n f l) L s) m
                        · obtain ⟨y1, y2⟩ := (hw.2.2.2.2 q6).2 sp
                          obtain ⟨y3, y4⟩ := w4 (by rw [k21, y1]; decide)
                          refine ⟨by rw [y3, k21, y1], fun r hr => ?_⟩
                          rw [y4, k23, lst_more sp (by omega)]
                          exact y2 r hr
                        · have y1 := (hw.2.2.2.2 q6).1 (by omega)
                          have bp : 0 < bV n f l (jn m L) (s - pop 7 (m &&& un n L)) := by rw [eS] at t6; omega
                          obtain ⟨y3, y4⟩ := (w5 (by rw [k21]; exact y1)).2 bp
                          have el : lst (bT n f (bV n f l) L s) (m + 2) = m := lst_is (by omega) (by rw [eT]; exact bp) (fun j hj => by
                            have : bT n f (bV n f l) L s j ≤ sm (bT n f (bV n f l) L s) m := le_sm hj
                            omega)
                          refine ⟨y3, fun r hr => ?_⟩
                          rw [y4 r hr, el, k22]
                          by_cases r1 : r < dd - (l + 1)
                          · rw [if_pos (by omega), if_neg (by omega), if_pos r1]; exact hw.2.2.1 r r1
                          · by_cases r2 : r = dd - (l + 1)
                            · rw [if_pos (by omega), if_pos r2, if_neg r1, if_pos r2]
                            · rw [if_neg (by omega), if_neg r1, if_neg r2, show r - (dd - l) = r - (dd - (l + 1)) - 1 by omega]
                · have eL : (if (nI m &&& (nI (op n L) ^^^ (-1))) = 0 then (nI s - rJ6_bitCount_0f7a4 (nI m &&& nI (un n L)) s1) else (-4)) < 0 := by
                    rw [if_pos (sub.mpr ok), eB]; exact neg (by omega) p7 hs
                  exact bX0_waysByRows_30 _ _ _ _ _ _ _ s1 (fun q => absurd q nlt) (fun _ _ => skip (if_neg (fun t => le t.2))) (fun _ q => absurd eL (by rw [i32_nlt]; exact q))
              · have eL : (if (nI m &&& (nI (op n L) ^^^ (-1))) = 0 then (nI s - rJ6_bitCount_0f7a4 (nI m &&& nI (un n L)) s1) else (-4)) < 0 := by
                  rw [if_neg (fun t => ok (sub.mp t))]; decide
                exact bX0_waysByRows_30 _ _ _ _ _ _ _ s1 (fun q => absurd q nlt) (fun _ _ => skip (bT_0 (fun t => ok (vB_iff.mp t).2.1))) (fun _ q => absurd eL (by rw [i32_nlt]; exact q))
        have fin : Ct yX0_waysByRows MX0_waysByRows (d + 39) [.ref 21, .int (nI (pk8 n L)), .int (nI (l + 1)), .int (nI s)] σ (fun v σ' => v = some (.int (nI (bV n f (l + 1) L s))) ∧ wP n f dd (l + 1) L s σ σ') := by
          refine Ct.of mX0_waysByRows.1 (Nat.le_of_ble_eq_true rfl) (bX0_waysByRows_0 _ _ _ σ ((tX0_openPlaces (d + 37) n L hn n1 hL σ h2).mono ?_))
          rintro v5 s5 ⟨hv5, hs5⟩
          rw [hv5, hs5]
          refine bX0_waysByRows_5 _ _ _ _ σ ((tX0_unreadyPlaces (d + 37) n L hn n1 hL σ h2).mono ?_)
          rintro v6 s6 ⟨hv6, hs6⟩
          rw [hv6, hs6]
          refine bX0_waysByRows_12 _ _ _ _ _ σ ?_
          have start : ∀ m, sm (bT n f (bV n f l) L s) m = 0 → wI n f dd l L s m σ σ := fun m e => ⟨Fr.rf, fun _ _ => rfl, fun _ _ => rfl, fun _ => ⟨rfl, rfl⟩, fun q => ⟨fun _ => q, fun t => absurd t (by omega)⟩⟩
          by_cases l0 : l = 0
          · subst l0
            have e0 : sm (bT n f (bV n f 0) L s) (op n L) = 0 := sm_0 (fun j hj => by
              by_cases c : 0 < bT n f (bV n f 0) L s j
              · have := bT_last c; omega
              · omega)
            have := loop 1 (op n L) σ (by omega) ope (by omega) (by omega) (start _ e0)
            rw [e0] at this
            rw [if_pos (show nI (0 + 1) = 1 from rfl)]
            exact this
          · have e0 : sm (bT n f (bV n f l) L s) 2 = 0 := sm_0 (fun j hj => by
              by_cases c : j = 0
              · exact bT_0 (fun t => (vB_iff.mp t).1 c)
              · have := bT_odd (f := f) (g := bV n f l) (s := s) hL 0
                rw [show j = 2 * 0 + 1 by omega]; exact this)
            have := loop 64 2 σ (by omega) (by decide) (by decide) (by decide) (start _ e0)
            rw [e0] at this
            rw [if_neg (fun t => by have := (nI_eq (a := l + 1) (b := 1) (by omega) (by decide)).mp t; omega)]
            exact this
        refine fin.mono ?_
        rintro v5 s5 ⟨hv5, hs5⟩
        rw [hv5]
        exact bX0_waysOn_42 _ s5 ⟨rfl, hs5⟩
      · have e : bV n f (l + 1) L s = 0 := by
          by_cases c : 0 < bV n f (l + 1) L s
          · have ch := bV_chain hL c
            have p : 0 < 2 ^ (l + 1) := Nat.pow_pos (by decide)
            have := gst_le (h := ck L) (b := 2 ^ (l + 1) - 1) (n := n) (fun i hi => by have := ch i hi; omega)
            rw [one_sh _ (by omega)] at u
            have := (nI_leI (by omega) (by omega)).mp u
            omega
          · omega
        rw [e]; exact ⟨rfl, wP_0 e⟩
    · have e : bV n f (l + 1) L s = 0 := by rw [bV_z (z.mp q1), if_neg (fun t => q2 (by rw [t]; rfl))]
      rw [e]; exact ⟨rfl, wP_0 e⟩
    · have s0 : s = 0 := (nI0 (by omega)).mp q2
      have e : bV n f (l + 1) L s = 1 := by rw [bV_z (z.mp q1), if_pos s0]
      refine (tX0_found (d + 36) (l + 1) dd hl hd σ h3).mono ?_
      rintro v s1 ⟨hv, a1, a2, a3, a4⟩
      rw [hv]
      refine bX0_waysOn_13 1 s1 ⟨by rw [e]; rfl, a1.mono (by decide) (by decide), a2, fun r _ => by rw [a1.1 22 (by decide) (by decide)], fun q => by rw [a3 q]; exact ⟨rfl, rfl⟩, fun q => ⟨fun t => by omega, fun _ => ⟨(a4 q).1, fun r hr => ?_⟩⟩⟩
      rw [bL_z (z.mp q1)]; exact (a4 q).2 r hr
end BESTS

/-! TEXT: a ROW in the class -/
section ROWC
def fTk (k : Int32) : Nat := if k = -3 then 1 else 2
noncomputable def rowP (B : Nat → Nat) (T n o r : Nat) : Nat → Nat → Nat → (Nat × Nat) ⊕ (Nat × Nat)
  | 0, _, p => .inl (4, tkP B T p)
  | f + 1, c, p =>
    if ¬ tkK B T p = -2 then .inl (fTk (tkK B T p), tkP B T p)
    else if 32 ≤ r then .inl (5, tkP B T p)
    else if n ≤ tkV B T p then .inl (3, tkP B T p)
    else if ¬ (o.testBit (tkV B T p) = true ∧ c.testBit (tkV B T p) = false) then .inl (4, tkP B T p)
    else if tkK B T (tkN B T p) = 59 then .inr (c ||| 2 ^ tkV B T p, tkN B T (tkN B T p))
    else if ¬ tkK B T (tkN B T p) = 44 then .inl (fTk (tkK B T (tkN B T p)), tkP B T (tkN B T p))
    else rowP B T n o r f (c ||| 2 ^ tkV B T p) (tkN B T (tkN B T p))
theorem or_bit (c v i : Nat) : (c ||| 2 ^ v).testBit i = (c.testBit i || decide (v = i)) := by rw [Nat.testBit_or, Nat.testBit_two_pow]
theorem okR_or {n c v : Nat} {L : Nat → Nat} (h : okR n L c) (hv : (op n L).testBit v = true) : okR n L (c ||| 2 ^ v) := fun i q => by
  rw [or_bit] at q
  by_cases e : v = i
  · subst e; exact (op_bit _ _ _).mp hv
  · rw [decide_eq_false e, Bool.or_false] at q; exact h i q
/-- what a good ROW has -/
theorem rowP_good {B : Nat → Nat} {T n r : Nat} {L : Nat → Nat} : ∀ (f c p : Nat) (y : Nat × Nat), okR n L c → rowP B T n (op n L) r f c p = .inr y → okR n L y.1 ∧ y.1 ≠ 0 ∧ r < 32 ∧ y.2 ≤ T
  | 0, c, p, y, _, h => by unfold rowP at h; exact absurd h (by simp)
  | f + 1, c, p, y, hc, h => by
    unfold rowP at h
    by_cases c1 : ¬ tkK B T p = -2
    · rw [if_pos c1] at h; exact absurd h (by simp)
    rw [if_neg c1] at h
    by_cases c2 : 32 ≤ r
    · rw [if_pos c2] at h; exact absurd h (by simp)
    rw [if_neg c2] at h
    by_cases c3 : n ≤ tkV B T p
    · rw [if_pos c3] at h; exact absurd h (by simp)
    rw [if_neg c3] at h
    by_cases c4 : ¬ ((op n L).testBit (tkV B T p) = true ∧ c.testBit (tkV B T p) = false)
    · rw [if_pos c4] at h; exact absurd h (by simp)
    rw [if_neg c4] at h
    have c4' := (Decidable.not_not.mp c4).1
    have o := okR_or hc c4'
    by_cases c5 : tkK B T (tkN B T p) = 59
    · rw [if_pos c5] at h
      have e : y = (c ||| 2 ^ tkV B T p, tkN B T (tkN B T p)) := by injection h with h; exact h.symm
      rw [e]
      refine ⟨o, fun q => ?_, by omega, tkN_le (by rw [c5]; decide)⟩
      have : (c ||| 2 ^ tkV B T p).testBit (tkV B T p) = true := by rw [or_bit, decide_eq_true rfl, Bool.or_true]
      have q : c ||| 2 ^ tkV B T p = 0 := q
      rw [q, Nat.zero_testBit] at this; exact absurd this (by decide)
    rw [if_neg c5] at h
    by_cases c6 : ¬ tkK B T (tkN B T p) = 44
    · rw [if_pos c6] at h; exact absurd h (by simp)
    rw [if_neg c6] at h
    exact rowP_good f _ _ y o h
theorem and_not (o c : Nat) : nI o &&& (nI c ^^^ (-1)) = nI (mk (fun i => o.testBit i && !c.testBit i) 32) := by
  apply Int32.toBitVec_inj.mp
  show BitVec.ofNat 32 o &&& (BitVec.ofNat 32 c ^^^ (-1 : Int32).toBitVec) = BitVec.ofNat 32 _
  rw [show (-1 : Int32).toBitVec = BitVec.allOnes 32 from by decide]
  apply BitVec.eq_of_getLsbD_eq
  intro i hi
  rw [BitVec.getLsbD_and, BitVec.getLsbD_xor, BitVec.getLsbD_ofNat, BitVec.getLsbD_ofNat, BitVec.getLsbD_ofNat, BitVec.getLsbD_allOnes, mk_bit, decide_eq_true hi]
  cases o.testBit i <;> cases c.testBit i <;> rfl
/-- what the class keeps while a text is read -/
def kn (N : Nat) (σ s : St) : Prop := s.1 2 0 = σ.1 2 0 ∧ Fr (2 :: FN N) [] σ s
theorem kn.tr {N : Nat} {σ s t : St} (h : kn N σ s) (h' : kn N s t) : kn N σ t := ⟨h'.1.trans h.1, h.2.tr h'.2⟩
theorem kn.rf {N : Nat} {σ : St} : kn N σ σ := ⟨rfl, Fr.rf⟩
theorem kp.n {N : Nat} {σ s : St} (h : kp σ s) : kn N σ s := ⟨h.1, h.2.2.mono (by simp) (by simp)⟩
theorem tB.kn {B : Nat → Nat} {T N : Nat} {σ s : St} (hN : N < 8) (h : tB B T σ) (k : kn N σ s) : tB B T s := h.keep k.1 (k.2.2.1 10 (by decide)) (k.2.1 95 (by simp [FN]; omega) (by decide)) (k.2.1 3 (by simp [FN]; omega) (by decide))
theorem kn.net {N : Nat} {σ s : St} (hN : N < 8) (h : Fr (FN N) [] σ s) : kn N σ s := ⟨by rw [h.1 2 (by simp [FN]; omega) (by decide)], h.mono (fun i hi => List.mem_cons_of_mem _ hi) (fun i hi => hi)⟩
theorem kp_cN {N n D : Nat} {R : Nat → Nat} {σ s : St} (hN : N < 8) (hc : cN N n D R σ) (k : kp σ s) : cN N n D R s := hc.keep hN (fun i i1 i2 => k.2.2.1 i (by simp; omega) (by omega))
theorem refX {N : Nat} {σ s : St} (x : Int32) (k : kn N σ s) : kn N σ (sX9_refuse x s) ∧ (sX9_refuse x s).1 2 1 = x ∧ (sX9_refuse x s).1 2 5 = s.1 2 5 := by
  unfold sX9_refuse
  refine ⟨⟨?_, k.2.tA (by simp) (by decide)⟩, ?_, ?_⟩
  · rw [sA_at, upd_eq, if_neg (by decide)]; exact k.1
  · rw [sA_at, upd_eq, if_pos rfl]
  · rw [sA_at, upd_eq, if_neg (by decide)]
theorem refT {B : Nat → Nat} {T p N : Nat} {σ s : St} (k : kn N σ s) (ha : atC B T p s) : kn N σ (sX9_refuseToken s) ∧ (sX9_refuseToken s).1 2 1 = nI (fTk (tkK B T p)) ∧ (sX9_refuseToken s).1 2 5 = nI (tkP B T p) := by
  unfold sX9_refuseToken
  obtain ⟨a, b, c⟩ := refX (if (s.1 2 4) = (-3) then (1 : Int32) else 2) k
  refine ⟨a, ?_, c.trans ha.1⟩
  rw [b, ha.2.2.1]
  unfold fTk
  by_cases q : tkK B T p = -3
  · rw [if_pos q, if_pos q]; rfl
  · rw [if_neg q, if_neg q]; rfl
def pR (N n D : Nat) (R : Nat → Nat) (σ : St) (v : Option Value) (s : St) (x : (Nat × Nat) ⊕ (Nat × Nat)) : Prop := kn N σ s ∧ Sum.elim (fun x => v = some (.int 0) ∧ s.1 2 1 = nI x.1 ∧ s.1 2 5 = nI x.2) (fun y => v = some (.int 1) ∧ cN N n (ad n (D, R) y.1).1 (ad n (D, R) y.1).2 s ∧ s.1 2 3 = nI y.2 ∧ s.1 2 1 = σ.1 2 1) x
theorem tX9_readRow (d N n D T p : Nat) (R : Nat → Nat) (B : Nat → Nat) (hN : N < 8) (hok : okN n D R) (σ : St) (h : tB B T σ) (hc : cN N n D R σ) (ha : atC B T p σ) (hp : p ≤ T) : Ct yX9_readRow MX9_readRow (d + 3) [.ref 2, .ref (32 + 6 * N), .int (nI D)] σ (fun v s => pR N n D R σ v s (rowP B T n (op n (lw R D)) D (T + 1) 0 p)) := by
  obtain ⟨g1, g2, g3, g4⟩ := nt_a N hN
  obtain ⟨b0, b1', b2, b3, b4⟩ := nt_b N hN
  have hT := h.1
  have n32 := hok.2.1
  have D32 := hok.2.2.1
  refine Ct.of mX9_readRow.1 (Nat.le_of_ble_eq_true rfl) (bX9_readRow_0 _ (nI D) σ g2 ?_)
  have key : ∀ f c p j s, T + 1 ≤ p + f → p ≤ T → 2 * j ≤ p → okR n (lw R D) c → kp σ s → atC B T p s → Run MX9_readRow (d + 3) 5 [some (.ref 2), some (.ref (32 + 6 * N)), some (.int (nI D)), some (.int (nI c)), some (.int (nI j))] [] s (fun v s => pR N n D R σ v s (rowP B T n (op n (lw R D)) D f c p)) := by
    intro f
    induction f with
    | zero => intro c p j s h1 h2; omega
    | succ f ih =>
      intro c p j s hf hp hj hc1 hk ha
      have hcs := kp_cN hN hc hk
      have hts := h.kp hk
      have hcm := okR_lt n32 hc1
      refine bX9_readRow_5 _ (nI D) (nI c) (nI j) s g2 (fun t => absurd t (nI_ge (b := 240) (by omega) (by decide))) (fun _ t1 t2 t3 => ?_) (fun _ t1 t2 t3 => ?_) (fun _ t1 t2 => ?_) (fun _ t1 => ?_)
      · rw [ha.2.2.1] at t1
        have eV := ha.2.2.2 t1
        have V99 := tkV_le B T p t1
        have hD : D < 32 := (nI_ltI (b := 32) (by omega) (by decide)).mp t2
        rw [eV, hcs.1] at t3
        have hV : tkV B T p < n := (nI_ltI (by omega) (by omega)).mp t3
        rw [g3]
        refine (tX8_openPlaces (d + 1) (33 + 6 * N) n (lw R D) b0 n32 (lw_le R D) s hcs.2.2.1).mono ?_
        rintro v s1 ⟨hv, hs1⟩
        rw [hv, hs1]
        have hbit : ((((nI (op n (lw R D)) &&& (nI c ^^^ (-1))).toUInt32 >>> ((s.1 2 6).toUInt32 &&& Int32.toUInt32 31)).toInt32) &&& 1) = 0 ↔ ¬ ((op n (lw R D)).testBit (tkV B T p) = true ∧ c.testBit (tkV B T p) = false) := by
          rw [eV, and_not, bitC (mk_lt _ (Nat.le_refl _)) (by omega), mk_bit, decide_eq_true (by omega : tkV B T p < 32), Bool.true_and]
          cases (op n (lw R D)).testBit (tkV B T p) <;> cases c.testBit (tkV B T p) <;> simp
        refine bX9_readRow_63 _ (nI D) (nI c) (nI j) (nI (op n (lw R D))) s g2 (fun t => ?_) (fun t => ?_)
        · have t' := Decidable.not_not.mp (fun u => t (hbit.mpr u))
          have hc2 := okR_or hc1 t'.1
          rw [eV, one_sh _ (by omega), fa_or]
          have hN1 := tkN_le (B := B) (T := T) (p := p) (by rw [t1]; decide)
          have hG1 := tkN_gt B T p
          refine (rdTok d (tkN B T p) T B s hts ha.2.1 (by omega)).mono ?_
          rintro v2 s2 ⟨hv2, k2, a2⟩
          rw [hv2]
          have hk2 := hk.tr k2
          have hG2 := tkN_gt B T (tkN B T p)
          refine bX9_readRow_96 _ (nI D) _ (nI j) s2 g2 (fun u1 u2 => ?_) (fun u1 u2 => ?_) (fun u1 => ?_)
          · rw [a2.2.2.1] at u1 u2
            have hN2 := tkN_le (B := B) (T := T) (p := tkN B T p) (by rw [u2]; decide)
            refine (rdTok d _ T B s2 (hts.kp k2) a2.2.1 (by omega)).mono ?_
            rintro v3 s3 ⟨hv3, k3, a3⟩
            rw [hv3]
            have e : rowP B T n (op n (lw R D)) D (f + 1) c p = rowP B T n (op n (lw R D)) D f (c ||| 2 ^ tkV B T p) (tkN B T (tkN B T p)) := by
              show (if _ then _ else _) = _
              rw [if_neg (by rw [t1]; decide), if_neg (by omega), if_neg (by omega), if_neg (Decidable.not_not.mpr t'), if_neg u1, if_neg (Decidable.not_not.mpr u2)]
            rw [e]
            refine bX9_readRow_130 _ (nI D) _ (nI j) s3 g2 ?_
            rw [← nI_succ]
            exact ih _ _ (j + 1) s3 (by omega) hN2 (by omega) hc2 (hk2.tr k3) a3
          · rw [a2.2.2.1] at u1 u2
            have e : rowP B T n (op n (lw R D)) D (f + 1) c p = .inl (fTk (tkK B T (tkN B T p)), tkP B T (tkN B T p)) := by
              show (if _ then _ else _) = _
              rw [if_neg (by rw [t1]; decide), if_neg (by omega), if_neg (by omega), if_neg (Decidable.not_not.mpr t'), if_neg u1, if_pos u2]
            rw [e]
            obtain ⟨x1, x2, x3⟩ := refT (N := N) hk2.n a2
            exact ⟨x1, rfl, x2, x3⟩
          · rw [a2.2.2.1] at u1
            have e : rowP B T n (op n (lw R D)) D (f + 1) c p = .inr (c ||| 2 ^ tkV B T p, tkN B T (tkN B T p)) := by
              show (if _ then _ else _) = _
              rw [if_neg (by rw [t1]; decide), if_neg (by omega), if_neg (by omega), if_neg (Decidable.not_not.mpr t'), if_pos u1]
            rw [e]
            refine (tX6_addRow d N n D R _ hN hok hD s2 (kp_cN hN hc hk2)).mono ?_
            rintro v3 s3 ⟨hv3, c3, F3⟩
            rw [hv3]
            refine bX9_readRow_110 s3 ⟨hk2.n.tr (kn.net hN F3), rfl, c3, ?_, ?_⟩
            · rw [F3.1 2 (by simp [FN]; omega) (by decide)]; exact a2.2.1
            · rw [F3.1 2 (by simp [FN]; omega) (by decide)]; exact hk2.2.1
        · have t' := hbit.mp t
          have e : rowP B T n (op n (lw R D)) D (f + 1) c p = .inl (4, tkP B T p) := by
            show (if _ then _ else _) = _
            rw [if_neg (by rw [t1]; decide), if_neg (by omega), if_neg (by omega), if_pos t']
          rw [e]
          obtain ⟨x1, x2, x3⟩ := refX (N := N) 4 hk.n
          exact ⟨x1, rfl, x2, x3.trans ha.1⟩
      · rw [ha.2.2.1] at t1
        have eV := ha.2.2.2 t1
        have V99 := tkV_le B T p t1
        have hD : D < 32 := (nI_ltI (b := 32) (by omega) (by decide)).mp t2
        rw [eV, hcs.1] at t3
        have hV : n ≤ tkV B T p := (nI_leI (by omega) (by omega)).mp t3
        have e : rowP B T n (op n (lw R D)) D (f + 1) c p = .inl (3, tkP B T p) := by
          show (if _ then _ else _) = _
          rw [if_neg (by rw [t1]; decide), if_neg (by omega), if_pos hV]
        rw [e]
        obtain ⟨x1, x2, x3⟩ := refX (N := N) 3 hk.n
        exact ⟨x1, rfl, x2, x3.trans ha.1⟩
      · rw [ha.2.2.1] at t1
        have hD : 32 ≤ D := (nI_leI (a := 32) (by decide) (by omega)).mp t2
        have e : rowP B T n (op n (lw R D)) D (f + 1) c p = .inl (5, tkP B T p) := by
          show (if _ then _ else _) = _
          rw [if_neg (by rw [t1]; decide), if_pos hD]
        rw [e]
        obtain ⟨x1, x2, x3⟩ := refX (N := N) 5 hk.n
        exact ⟨x1, rfl, x2, x3.trans ha.1⟩
      · rw [ha.2.2.1] at t1
        have e : rowP B T n (op n (lw R D)) D (f + 1) c p = .inl (fTk (tkK B T p), tkP B T p) := by
          show (if _ then _ else _) = _
          rw [if_pos t1]
        rw [e]
        obtain ⟨x1, x2, x3⟩ := refT (N := N) hk.n ha
        exact ⟨x1, rfl, x2, x3⟩
  exact key (T + 1) 0 p 0 σ (by omega) hp (by omega) (fun i q => absurd q (by rw [Nat.zero_testBit]; decide)) kp.rf ha
end ROWC

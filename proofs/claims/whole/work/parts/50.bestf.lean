/-! BEST: the class finds the fewest -/
section BESTF
def ser (n k i : Nat) : Nat := if i < n ∧ k < i then i else 0
theorem ser_ok (n k : Nat) : okS n (ser n k) := fun i => by
  unfold ser
  refine ⟨by split <;> omega, fun q => if_neg (by omega)⟩
theorem ser_0 (n : Nat) : ser n 0 = st n := by
  funext i
  unfold ser st
  by_cases c : i < n
  · by_cases c2 : 0 < i
    · rw [if_pos ⟨c, c2⟩, if_pos c]
    · rw [if_neg (by omega), if_pos c]; omega
  · rw [if_neg (by omega), if_neg c]
theorem ser_jn {n k : Nat} (h : k + 1 < n) : jn (2 ^ (k + 1)) (ser n k) = ser n (k + 1) := by
  funext i
  unfold jn
  rw [Nat.testBit_two_pow]
  by_cases e : k + 1 = i
  · subst e
    have a : ser n k (k + 1) = k + 1 := if_pos ⟨h, by omega⟩
    rw [decide_eq_true rfl, if_pos rfl, a]
    show ser n k k = _
    unfold ser
    rw [if_neg (by omega), if_neg (by omega)]
  · rw [decide_eq_false e, if_neg (by decide)]
    unfold ser
    by_cases c : i < n ∧ k < i
    · rw [if_pos c, if_pos (by omega)]
    · rw [if_neg c, if_neg (by omega)]
theorem ser_v {n f k : Nat} (h : k + 1 < n) (hf : 1 ≤ f) : vB n f (ser n k) (2 ^ (k + 1)) = true := by
  have a : ser n k (k + 1) = k + 1 := if_pos ⟨h, by omega⟩
  refine vB_iff.mpr ⟨Nat.ne_of_gt (Nat.pow_pos (by decide)), fun i q => ?_, gst_le (fun p _ => ?_)⟩
  · rw [Nat.testBit_two_pow] at q
    have : k + 1 = i := by simpa using q
    subst this
    exact ⟨h, by omega⟩
  · have e : ld (2 ^ (k + 1)) (ser n k) n p = sm (fun i => if i = k + 1 then (if ser n k (k + 1) = p + 1 then 1 else 0) else 0) n := by
      unfold ld
      refine sm_cong (fun i _ => ?_)
      rw [Nat.testBit_two_pow]
      by_cases c : i = k + 1
      · subst c; simp
      · rw [if_neg c, if_neg]
        intro t
        have : k + 1 = i := by simpa using t.1
        omega
    rw [e, sm_one]
    split
    · split <;> omega
    · omega
theorem ser_u {n k : Nat} : 2 ^ (k + 1) &&& un n (ser n k) = 0 := by
  refine Nat.eq_of_testBit_eq (fun i => ?_)
  rw [Nat.testBit_and, Nat.testBit_two_pow, un_b, Nat.zero_testBit]
  by_cases c : k + 1 = i
  · subst c
    by_cases h : k + 1 < n
    · have a : ser n k (k + 1) = k + 1 := if_pos ⟨h, by omega⟩
      have b : ser n k k = 0 := if_neg (by omega)
      rw [a]
      show (_ && (_ && (_ && decide (0 < ser n k k)))) = _
      rw [b]; simp
    · simp [h]
  · simp [c]
theorem bV_ser {n f : Nat} (hn : n ≤ 7) (hf : 1 ≤ f) : ∀ {l k : Nat}, n ≤ k + 1 + l → 0 < bV n f l (ser n k) 0
  | l, k, h => by
    by_cases z : op n (ser n k) = 0
    · rw [bV_z z, if_pos rfl]; decide
    · have kn : k + 1 < n := by
        by_cases c : k + 1 < n
        · exact c
        · refine absurd (Nat.eq_of_testBit_eq (fun i => ?_)) z
          rw [op_b, Nat.zero_testBit]
          have : ser n k i = 0 := if_neg (by omega)
          rw [this]; simp
      cases l with
      | zero => omega
      | succ l =>
        rw [bV_s z]
        have e : bT n f (bV n f l) (ser n k) 0 (2 ^ (k + 1)) = bV n f l (ser n (k + 1)) 0 := by
          unfold bT
          rw [ser_u, pop_0, if_pos ⟨ser_v kn hf, Nat.le_refl _⟩, ser_jn kn]
        have p := bV_ser hn hf (l := l) (k := k + 1) (by omega)
        have t : 2 ^ (k + 1) < 128 := Nat.lt_of_le_of_lt (Nat.pow_le_pow_right (by decide) (show k + 1 ≤ 6 by omega)) (by decide)
        have := le_sm (h := bT n f (bV n f l) (ser n k) 0) t
        rw [e] at this
        omega
theorem pop7_0 {x : Nat} (hx : x < 128) (h : pop 7 x = 0) : x = 0 := by
  refine Nat.eq_of_testBit_eq (fun i => ?_)
  rw [Nat.zero_testBit]
  by_cases c : i < 7
  · have a : x / 2 ^ i % 2 ≤ pop 7 x := le_sm (h := fun k => x / 2 ^ k % 2) c
    rw [bit01] at a
    cases t : x.testBit i
    · rfl
    · rw [t] at a; simp at a; omega
  · exact Nat.testBit_lt_two_pow (Nat.lt_of_lt_of_le (show x < 2 ^ 7 by omega) (Nat.pow_le_pow_right (by decide) (by omega)))
theorem bV_first {n f l : Nat} (hn : n ≤ 7) (h2 : 2 ≤ n) : bV n f (l + 1) (st n) 0 ≤ 64 ^ l := by
  have z : ¬ op n (st n) = 0 := fun q => by
    have := op_b n (st n) 1
    rw [q, Nat.zero_testBit, decide_eq_true (by omega), show st n 1 = 1 from if_pos (by omega)] at this
    exact absurd this (by decide)
  rw [bV_s z]
  have e : ∀ m, m < 128 → bT n f (bV n f l) (st n) 0 m = if m = 2 then bT n f (bV n f l) (st n) 0 2 else 0 := by
    intro m hm
    by_cases c : m = 2
    · rw [if_pos c, c]
    · rw [if_neg c]
      by_cases p : 0 < bT n f (bV n f l) (st n) 0 m
      · obtain ⟨p1, p2, _⟩ := bT_pos p
        have ok := (vB_iff.mp p1).2.1
        have m0 := pop7_0 (Nat.lt_of_le_of_lt Nat.and_le_left hm) (Nat.le_zero.mp p2)
        refine absurd (Nat.eq_of_testBit_eq (fun i => ?_)) c
        rw [show (2 : Nat) = 2 ^ 1 from rfl, Nat.testBit_two_pow]
        cases q : m.testBit i
        · by_cases c1 : 1 = i
          · subst c1
            exfalso
            have m1 := (vB_iff.mp p1).1
            refine m1 (Nat.eq_of_testBit_eq (fun j => ?_))
            rw [Nat.zero_testBit]
            cases q2 : m.testBit j
            · rfl
            · obtain ⟨o1, o2⟩ := ok j q2
              have t : (m &&& un n (st n)).testBit j = true := by
                rw [Nat.testBit_and, q2, un_b, decide_eq_true o1, show st n j = j from if_pos o1]
                have j1 : j ≠ 1 := fun e => by rw [e, q] at q2; exact absurd q2 (by decide)
                rw [show st n j = j from if_pos o1] at o2
                rw [show st n (j - 1) = j - 1 from if_pos (by omega)]
                simp; omega
              rw [m0, Nat.zero_testBit] at t; exact absurd t (by decide)
          · simp [c1]
        · obtain ⟨o1, o2⟩ := ok i q
          by_cases c1 : 1 = i
          · simp [c1]
          · exfalso
            have t : (m &&& un n (st n)).testBit i = true := by
              rw [show st n i = i from if_pos o1] at o2
              rw [Nat.testBit_and, q, un_b, decide_eq_true o1, show st n i = i from if_pos o1, show st n (i - 1) = i - 1 from if_pos (by omega)]
              simp; omega
            rw [m0, Nat.zero_testBit] at t; exact absurd t (by decide)
      · omega
  rw [sm_cong e, sm_one, if_pos (by decide)]
  unfold bT
  split
  · rename_i q
    exact bV_most hn (okS_jn (st_ok n) (vB_iff.mp q.1).2.1)
  · exact Nat.zero_le _
theorem tX0_search (d n dd f : Nat) (hn : n ≤ 7) (h2 : 2 ≤ n) (hd : dd ≤ 6) (hd1 : 1 ≤ dd) (hf : f ≤ 6) (hf1 : 1 ≤ f) (σ : St) : Ct yX0_search MX0_search (d + 53) [.ref 21, .int (nI n), .int (nI dd), .int (nI f)] σ (fun v σ' => Fr [21, 22, 23] [] σ σ' ∧ ((v = some (.int 0) ∧ ∀ s, bV n f dd (st n) s = 0) ∨ ∃ s, v = some (.int 1) ∧ s ≤ 42 ∧ 0 < bV n f dd (st n) s ∧ (∀ t, t < s → bV n f dd (st n) t = 0) ∧ bV n f dd (st n) s < 2 ^ 31 ∧ σ'.1 21 0 = nI (n - 1 + s) ∧ σ'.1 21 1 = nI (bV n f dd (st n) s) ∧ σ'.1 21 2 = nI n ∧ ∀ r, r < 6 → σ'.1 23 r = nI (bL n f dd (st n) s r))) := by
  have big : ∀ s, 0 < bV n f dd (st n) s → (∀ t, t < s → bV n f dd (st n) t = 0) → bV n f dd (st n) s < 2 ^ 31 := by
    intro s hp h0
    by_cases c : dd = 6
    · subst c
      have p := bV_ser (f := f) hn hf1 (l := 6) (k := 0) (by omega)
      rw [ser_0] at p
      have s0 : s = 0 := by
        by_cases q : s = 0
        · exact q
        · have := h0 0 (by omega); omega
      subst s0
      have := bV_first (f := f) (l := 5) hn h2
      exact Nat.lt_of_le_of_lt this (by decide)
    · have := bV_most (f := f) hn (l := dd) (L := st n) (s := s) (st_ok n)
      have t : 64 ^ dd ≤ 64 ^ 5 := Nat.pow_le_pow_right (by decide) (by omega)
      exact Nat.lt_of_le_of_lt (Nat.le_trans this t) (by decide)
  refine Ct.of mX0_search.1 (Nat.le_of_ble_eq_true rfl) (bX0_search_0 _ _ _ σ ?_)
  have e0 : sA (sA (sA (sA σ 21 (upd (σ.1 21) 2 (nI n))) 21 (upd (upd (σ.1 21) 2 (nI n)) 3 (nI dd))) 21 (upd (upd (upd (σ.1 21) 2 (nI n)) 3 (nI dd)) 4 (nI f))) 21 (upd (upd (upd (upd (σ.1 21) 2 (nI n)) 3 (nI dd)) 4 (nI f)) 7 0) = sA σ 21 (upd (upd (upd (upd (σ.1 21) 2 (nI n)) 3 (nI dd)) 4 (nI f)) 7 0) := by
    simp only [sA]; congr 1; funext j; split <;> rfl
  rw [e0]
  generalize hW : sA σ 21 (upd (upd (upd (upd (σ.1 21) 2 (nI n)) 3 (nI dd)) 4 (nI f)) 7 0) = W
  have w : ∀ j, W.1 21 j = if j = 7 then 0 else if j = 4 then nI f else if j = 3 then nI dd else if j = 2 then nI n else σ.1 21 j := fun j => by rw [← hW, sA_at, upd_eq, upd_eq, upd_eq, upd_eq]
  have wF : Fr [21, 22, 23] [] σ W := by rw [← hW]; exact Fr.A (by decide) (by decide)
  refine loopI1 (fun x s1 => Run MX0_search (d + 53) 23 [some (.ref 21), some (.int (nI n)), some (.int (nI dd)), none, some (.int x)] [] s1 _) (fun j s1 => Fr [21, 22, 23] [] σ s1 ∧ s1.1 21 2 = nI n ∧ s1.1 21 3 = nI dd ∧ s1.1 21 4 = nI f ∧ s1.1 21 7 = 0 ∧ ∀ t, t < j → bV n f dd (st n) t = 0) 43 ?_ ?_ 0 W (by omega) ⟨wF, by rw [w]; rfl, by rw [w]; rfl, by rw [w]; rfl, by rw [w]; rfl, fun t ht => absurd ht (Nat.not_lt_zero t)⟩
  · rintro s1 ⟨hF, a2, a3, a4, a7, h0⟩
    refine bX0_search_23 (d := d + 12) _ _ (nI 43) s1 (fun _ => ⟨hF, .inl ⟨rfl, fun s => ?_⟩⟩) (fun q => absurd q (by decide))
    by_cases c : 0 < bV n f dd (st n) s
    · have := bV_le c
      have := h0 s (by omega); omega
    · omega
  · rintro j s1 hj ⟨hF, a2, a3, a4, a7, h0⟩ ih
    refine bX0_search_23 (d := d + 12) _ _ (nI j) s1 (fun q => absurd q (nI_nlt (show j ≤ 42 by omega) (by decide))) (fun _ => ?_)
    refine (tX0_startState (d + 52) n hn s1 a2).mono ?_
    rintro v s2 ⟨hv, hs2⟩
    rw [hv, hs2]
    refine bX0_search_36 (d := d + 12) _ _ _ _ s1 ?_
    refine (tX0_waysOn n f dd hn (by omega) hf hd dd (d + 52) (st n) j s1 (Nat.le_refl _) (by omega) (st_ok n) (by omega) a2 a3 a4).mono ?_
    rintro v3 s3 ⟨hv3, w1, w2, w3, w4, w5⟩
    rw [hv3]
    by_cases c : bV n f dd (st n) j = 0
    · refine bX0_search_42 (d := d + 12) _ _ _ _ s3 (fun _ => ?_) (fun q => absurd q (by rw [c]; decide))
      refine ih _ ⟨(hF.tr w1).tA (by decide) (by decide), ?_, ?_, ?_, ?_, fun t ht => ?_⟩
      · rw [sA_at, upd_eq, if_neg (by decide), w2 2 (by decide)]; exact a2
      · rw [sA_at, upd_eq, if_neg (by decide), w2 3 (by decide)]; exact a3
      · rw [sA_at, upd_eq, if_neg (by decide), w2 4 (by decide)]; exact a4
      · rw [sA_at, upd_eq, if_neg (by decide)]; exact (w5 a7).1 c
      · by_cases e : t = j
        · rw [e]; exact c
        · exact h0 t (by omega)
    · have bp : 0 < bV n f dd (st n) j := by omega
      have b31 := big j bp h0
      have ps : (0 : Int32) < nI (bV n f dd (st n) j) := (nI_ltI (a := 0) (by decide) b31).mpr bp
      refine bX0_search_42 (d := d + 12) _ _ _ _ s3 (fun q => absurd ps (by rw [i32_nlt]; exact q)) (fun _ => ?_)
      have e1 : sA (sA s3 21 (upd (s3.1 21) 1 (nI (bV n f dd (st n) j)))) 21 (upd (upd (s3.1 21) 1 (nI (bV n f dd (st n) j))) 0 ((nI n - 1) + nI j)) = sA s3 21 (upd (upd (s3.1 21) 1 (nI (bV n f dd (st n) j))) 0 ((nI n - 1) + nI j)) := by
        simp only [sA]; congr 1; funext j; split <;> rfl
      rw [e1]
      refine ⟨(hF.tr w1).tA (by decide) (by decide), .inr ⟨j, rfl, by omega, bp, h0, b31, ?_, ?_, ?_, fun r hr => ?_⟩⟩
      · rw [sA_at, upd_eq, if_pos rfl, sub1 (by omega), nI_add]
      · rw [sA_at, upd_eq, if_neg (by decide), upd_eq, if_pos rfl]
      · rw [sA_at, upd_eq, if_neg (by decide), upd_eq, if_neg (by decide), w2 2 (by decide)]; exact a2
      · rw [sA_ne (by decide), ((w5 a7).2 bp).2 r hr, if_neg (by omega), show r - (dd - dd) = r by omega]
theorem tX0_fillLeast (d N n : Nat) (g : Nat → Nat) (hN : N < 8) (h2 : 2 ≤ n) (hn : n ≤ 32) (σ : St) (a2 : σ.1 21 2 = nI n) (a3 : ∀ r, r < 6 → σ.1 23 r = nI (g r)) : Ct yX0_fillLeast MX0_fillLeast (d + 3) [.ref 21, .ref (32 + 6 * N)] σ (fun v s => v = none ∧ cN N n (sq n g p0 6).1 (sq n g p0 6).2 s ∧ Fr (FN N) [] σ s) := by
  obtain ⟨g1, g2, g3, g4⟩ := nt_a N hN
  refine Ct.of mX0_fillLeast.1 (Nat.le_of_ble_eq_true rfl) (bX0_fillLeast_0 _ σ g2 ?_)
  rw [a2]
  refine (tX6_begin d N n p0.2 hN hn σ).mono ?_
  rintro v s1 ⟨hv, c1, F1⟩
  rw [hv]
  refine bX0_fillLeast_8 _ s1 g2 ?_
  refine loopI1 (fun x s => Run MX0_fillLeast (d + 3) 19 [none, some (.ref (32 + 6 * N)), some (.ref 23), some (.int 6), some (.int x), none] [] s _) (fun j s => cN N n (sq n g p0 j).1 (sq n g p0 j).2 s ∧ Fr (FN N) [] σ s) 6 ?_ ?_ 0 s1 (by omega) ⟨c1, F1⟩
  · rintro s ⟨hc, hF⟩
    exact bX0_fillLeast_19 _ 6 (nI 6) s g2 (fun q => absurd q (by decide)) (fun _ => ⟨rfl, hc, hF⟩) (fun q => absurd q (by decide))
  · rintro j s hj ⟨hc, hF⟩ ih
    refine bX0_fillLeast_19 _ 6 (nI j) s g2 (fun _ => vp_in_nI hj (by decide)) (fun q => absurd q (nI_ge (b := 6) hj (by decide))) (fun _ => ?_)
    have t := sq_ok (f := g) (p0_ok h2 hn) j (show 0 + j ≤ 32 by omega)
    rw [nI_clamp (by omega), hF.1 23 (by simp [FN]; omega) (by decide), a3 j hj]
    refine (tX6_addRow d N n _ _ (g j) hN t.1 (by have := t.2; have e : p0.1 = 0 := rfl; omega) s hc).mono ?_
    rintro v5 s5 ⟨hv5, c5, F5⟩
    rw [hv5]
    exact bX0_fillLeast_37 _ 6 (nI j) s5 g2 (ih s5 ⟨c5, hF.tr F5⟩)
end BESTF

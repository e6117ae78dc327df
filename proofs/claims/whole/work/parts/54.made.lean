/-! MADE -/
section MADE
theorem ad_zero {n : Nat} (P : Nat × (Nat → Nat)) : ad n P 0 = P := if_pos (Nat.zero_and _)
theorem sq_s {n : Nat} {g : Nat → Nat} {P : Nat × (Nat → Nat)} (k : Nat) : sq n g P (k + 1) = ad n (sq n g P k) (g k) := rfl
theorem sq_front {n : Nat} {g : Nat → Nat} {P : Nat × (Nat → Nat)} : ∀ k, sq n g P (k + 1) = sq n (fun r => g (r + 1)) (ad n P (g 0)) k
  | 0 => rfl
  | k + 1 => by rw [sq_s (k + 1), sq_front k]; rfl
theorem sq_rest {n : Nat} {g : Nat → Nat} {P : Nat × (Nat → Nat)} {k : Nat} : ∀ {j : Nat}, k ≤ j → (∀ r, k ≤ r → g r = 0) → sq n g P j = sq n g P k
  | 0, h, _ => by rw [show k = 0 by omega]
  | j + 1, h, h0 => by
    by_cases e : k = j + 1
    · rw [e]
    · rw [sq_s, h0 j (by omega), ad_zero, sq_rest (j := j) (by omega) h0]
theorem bL_far {n f : Nat} : ∀ {l : Nat} {L : Nat → Nat} {s r : Nat}, l ≤ r → bL n f l L s r = 0
  | 0, L, s, r, _ => rfl
  | l + 1, L, s, r, h => by
    show (if op n L = 0 then 0 else if r = 0 then _ else bL n f l _ _ (r - 1)) = 0
    by_cases z : op n L = 0
    · rw [if_pos z]
    · rw [if_neg z, if_neg (by omega), bL_far (by omega)]
theorem jn_near {n m : Nat} {A C : Nat → Nat} (hC : ∀ i, C i ≤ i) (h : ∀ i, i < n → A i = C i) : ∀ i, i < n → jn m A i = jn m C i := fun i hi => by
  unfold jn
  rw [h i hi]
  have := hC i
  rw [h (C i - 1) (by omega)]
theorem okR_near {n m : Nat} {A C : Nat → Nat} (h : ∀ i, i < n → A i = C i) (hm : okR n C m) : okR n A m := fun i q => ⟨(hm i q).1, by rw [h i (hm i q).1]; exact (hm i q).2⟩
/-- one NET more, whatever else has changed from 88 on -/
theorem RN_more2 {N n D : Nat} {R : Nat → Nat} {σ s t : St} (hN : N < 8) (hk : ∀ k, k < N → ∃ n D R, okN n D R ∧ cN k n D R σ ∧ mN k n D R σ) (hok : okN n D R) (hc : cN N n D R s) (hFc : Fr (0 :: 21 :: 22 :: 23 :: FN N) [] σ s) (hm : mN N n D R t) (h1 : ∀ i, i < 88 → t.1 i = s.1 i) (h2 : ∀ k, k < N → t.1 89 k = s.1 89 k ∧ t.1 90 k = s.1 90 k) (h3 : ∀ j, j < 32 * N → t.2 91 j = s.2 91 j) (s0 : s.1 0 1 = nI (N + 1)) (t0 : t.1 88 0 = nI (N + 1)) : RN t := by
  refine ⟨N + 1, by omega, by rw [h1 0 (by decide)]; exact s0, t0, fun k hk1 => ?_⟩
  by_cases e : k = N
  · subst e
    exact ⟨n, D, R, hok, hc.keep hN (fun i i1 i2 => h1 i (by omega)), hm⟩
  · obtain ⟨n', D', R', a, b, c⟩ := hk k (by omega)
    have D32 := a.2.2.1
    refine ⟨n', D', R', a, b.keep (by omega) (fun i i1 i2 => by rw [h1 i (by omega), hFc.1 i (by simp [FN]; omega) (by omega)]), c.keep ?_ ?_ (fun r hr => ?_)⟩
    · rw [(h2 k (by omega)).1, hFc.1 89 (by simp [FN]; omega) (by decide)]
    · rw [(h2 k (by omega)).2, hFc.1 90 (by simp [FN]; omega) (by decide)]
    · rw [h3 _ (by omega), hFc.2.2 91 (by simp [FN]; omega)]
/-- what the reference changes while a NET is made -/
def kd2 (N : Nat) (σ t : St) : Prop := Fr [90, 91, 93, 101] [] σ t ∧ (∀ k, k ≠ N → t.1 90 k = σ.1 90 k) ∧ ∀ j, j < 32 * N → t.2 91 j = σ.2 91 j
theorem kd2.rf {N : Nat} {σ : St} : kd2 N σ σ := ⟨Fr.rf, fun _ _ => rfl, fun _ _ => rfl⟩
theorem kd2.tr {N : Nat} {σ s t : St} (h : kd2 N σ s) (h' : kd2 N s t) : kd2 N σ t := ⟨h.1.tr h'.1, fun k hk => (h'.2.1 k hk).trans (h.2.1 k hk), fun j hj => (h'.2.2 j hj).trans (h.2.2 j hj)⟩
theorem kd2.of {N : Nat} {σ s : St} (h : Fr [93, 101] [] σ s) : kd2 N σ s := ⟨h.mono (by decide) (by decide), fun k _ => by rw [h.1 90 (by decide) (by decide)], fun j _ => by rw [h.2.2 91 (by decide)]⟩
theorem runMade (d N n f : Nat) (hN : N < 8) (h2 : 2 ≤ n) (hn : n ≤ 7) (hf : f ≤ 6) (σ : St) (h0 : σ.1 88 0 = nI N) (h24 : σ.1 88 24 = nI (fc n)) (tb : ∀ l, l < 7 → tRw n f l σ) {Q : Option Value → St → Prop} : ∀ (l D : Nat) (R L : Nat → Nat) (s : Nat) (t : St), D + l ≤ 6 → okS n L → okN n D R → (∀ i, i < n → lw R D i = L i) → 0 < bV n f l L s → (∀ u, u < s → bV n f l L u = 0) → kd2 N σ t → t.1 89 N = nI n → mN N n D R t → (∀ t', kd2 N σ t' → okN n (sq n (bL n f l L s) (D, R) l).1 (sq n (bL n f l L s) (D, R) l).2 → mN N n (sq n (bL n f l L s) (D, R) l).1 (sq n (bL n f l L s) (D, R) l).2 t' → Q (some (.int (nI N + 1 - 1))) (sA t' 88 (upd (t'.1 88) 0 (nI N + 1)))) → Run MX11_made (d + 3) 82 [some (.ref 88), some (.int (nI n)), none, some (.int (nI f)), some (.int (nI (en n L))), some (.int (nI l)), none, none, none] [] t Q := by
  have F7 := fc_7 n (by omega)
  intro l
  induction l with
  | zero =>
    intro D R L s t hD hL hok near bp mn k t89 hm fin
    have z : op n L = 0 := by
      by_cases z : op n L = 0
      · exact z
      · rw [bV_0 z] at bp; exact absurd bp (Nat.lt_irrefl _)
    have lto : en n L < fc n := en_lt (fun i _ => (hL i).1)
    have e0 : en n L = 0 := (dS_0 lto).mp (by rw [dS_en hL]; exact z)
    have t0 : t.1 88 0 = nI N := by rw [k.1.2.1 0 (by simp)]; exact h0
    rw [e0]
    refine bX11_made_82 _ _ _ _ t (fun _ => ?_) (fun q => absurd q (by decide))
    rw [t0]
    exact fin t k hok hm
  | succ l ih =>
    intro D R L s t hD hL hok near bp mn k t89 hm fin
    have lto : en n L < fc n := en_lt (fun i _ => (hL i).1)
    have e0 : op n L = 0 ↔ en n L = 0 := by rw [← dS_0 lto, dS_en hL]
    have t0 : t.1 88 0 = nI N := by rw [k.1.2.1 0 (by simp)]; exact h0
    by_cases z : op n L = 0
    · rw [e0.mp z]
      refine bX11_made_82 _ _ _ _ t (fun _ => ?_) (fun q => absurd q (by decide))
      rw [t0]
      have e : sq n (bL n f (l + 1) L s) (D, R) (l + 1) = (D, R) := sq_rest (k := 0) (Nat.zero_le _) (fun r _ => bL_z z _ _ _)
      have fin := fin t k
      rw [e] at fin
      exact fin hok hm
    · have en0 : ¬ en n L = 0 := fun q => z (e0.mpr q)
      refine bX11_made_82 _ _ _ _ t (fun q => absurd ((le0 (by omega)).mp q) en0) (fun _ => ?_)
      rw [bV_s z] at bp
      obtain ⟨m1, m2, m3⟩ := lst_lt bp
      generalize hm0 : lst (bT n f (bV n f l) L s) 128 = m0 at *
      obtain ⟨v1, v2, v3⟩ := bT_pos m2
      have ok := (vB_iff.mp v1).2.1
      have m0n : m0 < 2 ^ n := Nat.lt_pow_two_of_testBit _ (fun i hi => by
        cases q : m0.testBit i
        · rfl
        · have := (ok i q).1; omega)
      have bm : bT n f (bV n f l) L s m0 = bV n f l (jn m0 L) (s - pop 7 (m0 &&& un n L)) := if_pos ⟨v1, v2⟩
      have s42 : s ≤ 42 := by have := bV_le v3; have := pop_le 7 (m0 &&& un n L); omega
      -- the table here
      have FL : fc n * (l + 1) ≤ 5040 * 6 := Nat.mul_le_mul F7 (by omega)
      have FL0 : fc n * l ≤ 5040 * 6 := Nat.mul_le_mul F7 (by omega)
      have here : σ.1 99 (fc n * (l + 1) + en n L) = nI (pop 7 (op n L) + s) := by
        have fs := tb (l + 1) (by omega) (en n L) lto
        rw [dS_en hL] at fs
        exact (FS_one fs (by rw [bV_s z]; exact bp) mn).1
      have p7 := pop_le 7 (op n L)
      -- the search for the least ROW
      have find : ∀ k c x7 t3, c < m0 → m0 ≤ c + k → Fr [93, 101] [] t t3 → Run MX11_made (d + 3) 97 [some (.ref 88), some (.int (nI n)), none, some (.int (nI f)), some (.int (nI (en n L))), some (.int (nI (l + 1))), some (.int (nI c)), some (.int x7), some (.int 0)] [] t3 Q := by
        intro k'
        induction k' with
        | zero => intro c x7 t3 h1 h2; omega
        | succ k' ihk =>
          intro c x7 t3 hc hk k3
          have c1n : c + 1 < 2 ^ n := by omega
          have n128 : 2 ^ n ≤ 2 ^ 7 := Nat.pow_le_pow_right (by decide) hn
          refine bX11_made_97 _ _ _ _ _ _ _ t3 (fun q => absurd rfl q) (fun q => absurd rfl q) (fun q => absurd rfl q) (fun _ => ?_)
          refine (tX11_spansOf (d + 2) (en n L) n (by omega) hn t3).mono ?_
          rintro v4 t4 ⟨hv4, F4, l4⟩
          rw [hv4, ← nI_succ]
          rw [dS_en hL] at l4
          refine bX11_made_112 _ _ _ _ _ t4 ?_
          refine (tX11_behind (d + 2) (c + 1) n f L hn hf (fun i _ => (hL i).1) c1n t4 l4).mono ?_
          rintro v5 t5 ⟨hv5, F5⟩
          rw [hv5]
          have k5 : Fr [93, 101] [] t t5 := k3.tr ((F4.mono (by decide) (by decide)).tr (F5.mono (by decide) (by decide)))
          have kk5 : kd2 N σ t5 := k.tr (kd2.of k5)
          have b99 : t5.1 99 = σ.1 99 := kk5.1.1 99 (by decide) (by decide)
          have b24 : t5.1 88 24 = nI (fc n) := by rw [kk5.1.2.1 24 (by simp)]; exact h24
          have nx : ∀ x7, c + 1 < m0 → Run MX11_made (d + 3) 97 [some (.ref 88), some (.int (nI n)), none, some (.int (nI f)), some (.int (nI (en n L))), some (.int (nI (l + 1))), some (.int (nI (c + 1))), some (.int x7), some (.int 0)] [] t5 Q := fun x7 h => ihk (c + 1) x7 t5 h (by omega) k5
          have less : bT n f (bV n f l) L s (c + 1) = 0 → c + 1 < m0 := fun h => by
            by_cases e : c + 1 = m0
            · rw [e] at h; omega
            · omega
          by_cases mb : mB n f L (c + 1) = true
          · rw [if_pos mb]
            have v : vB n f L (c + 1) = true := vB_mB.mpr ⟨by omega, mb⟩
            have ok1 := (vB_iff.mp v).2.1
            have lt1 : en n (jn (c + 1) L) < fc n := en_lt (fun i _ => (okS_jn hL ok1 i).1)
            have n4 : ¬ nI (en n (jn (c + 1) L)) = (-4 : Int32) := m4 (by omega)
            have ei : (t5.1 88 24 * (nI (l + 1) - 1)) + nI (en n (jn (c + 1) L)) = nI (fc n * l + en n (jn (c + 1) L)) := by rw [b24, sub1 (by omega), show l + 1 - 1 = l from rfl, pk_mul, nI_add]
            have ej : (t5.1 88 24 * nI (l + 1)) + nI (en n L) = nI (fc n * (l + 1) + en n L) := by rw [b24, pk_mul, nI_add]
            refine bX11_made_120 _ _ _ _ _ _ t5 (fun _ => by rw [ei]; exact vp_in_nI (by omega) (by decide)) (fun q => absurd q n4) (fun _ => ?_)
            rw [ei, nI_clamp (by omega), nI_wide (by omega), b99]
            refine (tX11_bits (d + 2) (c + 1) (by omega) t5).mono ?_
            rintro v6 t6 ⟨hv6, ht6⟩
            rw [hv6, ht6, pop_7 (by omega)]
            refine bX11_made_152 _ _ _ _ _ _ _ _ t5 (by rw [ej]; exact vp_in_nI (by omega) (by decide)) ?_
            rw [ej, nI_clamp (by omega), b99, here]
            have fs := tb l (by omega) (en n (jn (c + 1) L)) lt1
            rw [dS_en (okS_jn hL ok1)] at fs
            have pp := pops ok1
            have q1 := pop_le 7 (c + 1)
            have q2 := pop_le 7 (c + 1 &&& un n L)
            have eT : bT n f (bV n f l) L s (c + 1) = if pop 7 (c + 1 &&& un n L) ≤ s then bV n f l (jn (c + 1) L) (s - pop 7 (c + 1 &&& un n L)) else 0 := by
              unfold bT
              simp only [v, true_and]
            rcases fs with ⟨f1, _, f3⟩ | ⟨s', f1, f2, f3, _⟩
            · -- none goes on
              have ne : ¬ (σ.1 99 (fc n * l + en n (jn (c + 1) L)) + nI (pop 7 (c + 1))) = nI (pop 7 (op n L) + s) := fun q => by
                rw [f1, show (1000 : Int32) = nI 1000 from rfl, nI_add] at q
                have := (nI_eq (by omega) (by omega)).mp q
                omega
              have zz : bI ((σ.1 99 (fc n * l + en n (jn (c + 1) L)) + nI (pop 7 (c + 1))) = nI (pop 7 (op n L) + s)) = 0 := if_neg ne
              rw [zz]
              exact nx _ (less (by rw [eT, f3]; exact ite_self _))
            · have s'42 : s' ≤ 42 := by have := bV_le f2; omega
              have eq : (σ.1 99 (fc n * l + en n (jn (c + 1) L)) + nI (pop 7 (c + 1))) = nI (pop 7 (op n L) + s) ↔ pop 7 (c + 1 &&& un n L) + s' = s := by
                rw [f1, nI_add, nI_eq (by omega) (by omega)]; omega
              by_cases es : pop 7 (c + 1 &&& un n L) + s' = s
              · have zz : bI ((σ.1 99 (fc n * l + en n (jn (c + 1) L)) + nI (pop 7 (c + 1))) = nI (pop 7 (op n L) + s)) = 1 := if_pos (eq.mpr es)
                rw [zz]
                have bp1 : 0 < bT n f (bV n f l) L s (c + 1) := by
                  rw [eT, if_pos (by omega), show s - pop 7 (c + 1 &&& un n L) = s' by omega]; exact f2
                have em : c + 1 = m0 := by
                  by_cases c2 : c + 1 = m0
                  · exact c2
                  · have := m3 (c + 1) (by omega); omega
                subst em
                -- found
                have t50 : t5.1 88 0 = nI N := by rw [kk5.1.2.1 0 (by simp)]; exact h0
                have t590 : t5.1 90 N = nI D := by rw [k5.1 90 (by decide) (by decide)]; exact hm.2.1
                have t591 : t5.2 91 = t.2 91 := k5.2.2 91 (by decide)
                have Nc : (t5.1 88 0).toNatClampNeg = N := by rw [t50]; exact nI_clamp (by omega)
                have ew : (32 : Int32) * t5.1 88 0 + t5.1 90 (t5.1 88 0).toNatClampNeg = nI (32 * N + D) := by rw [Nc, t590, t50]; exact cellsOf_nI hN (by omega)
                refine bX11_made_97 _ _ _ _ _ _ _ t5 (fun _ => by rw [t50]; exact vp_in_nI hN (by decide)) (fun _ => by rw [ew]; exact vp_in_nI (by omega) (by decide)) (fun _ => ?_) (fun q => absurd q (by decide))
                rw [ew, Nc, t590, nI_clamp (by omega), nI_wide (by omega), ← nI_succ, show nI (l + 1) + (-1) = nI l from by (simp only [nI_zI, zl0, zl1, zl2, zl3, zl4, zl5, zl6, zl7, zl8, zl9, zl10, zl11, zl12, zl13, zl14, zl15, zl16, zl24, zl30, zl31, zl32, zl48, zl56, zl57, zl60, zl63, zl99, zl100, zl130, zl199, zl200, zl240, zl999, zl1000, ← zI_add, ← zI_sub, ← zI_mul, ← zI_neg] <;> first | rfl | (congr 1; omega))]
                generalize hY : sA (sJ t5 91 (vp_updL (t5.2 91) (32 * N + D) (lN (c + 1)))) 90 (upd (t5.1 90) N (nI (D + 1))) = Y
                have y90 : Y.1 90 = upd (t5.1 90) N (nI (D + 1)) := by rw [← hY, sA_at]
                have y91 : Y.2 91 = vp_updL (t5.2 91) (32 * N + D) (lN (c + 1)) := by rw [← hY, sA2, sJ_at]
                have kY : kd2 N t5 Y := ⟨by rw [← hY]; exact (Fr.J (by decide)).tA (by decide) (by decide), fun k hk => by rw [y90, upd_eq, if_neg hk], fun j hj => by rw [y91, updL_eq, if_neg (by omega)]⟩
                have okw : okR n (lw R D) (c + 1) := okR_near near ok
                have ea := ad_good okw (by omega : c + 1 ≠ 0)
                have ao := (ad_ok (R := R) (c + 1) hok (by omega)).1
                rw [ea] at ao
                have el0 : bL n f (l + 1) L s 0 = c + 1 := by
                  show (if op n L = 0 then 0 else if 0 = 0 then lst (bT n f (bV n f l) L s) 128 else _) = _
                  rw [if_neg z, if_pos rfl, hm0]
                have elr : (fun r => bL n f (l + 1) L s (r + 1)) = bL n f l (jn (c + 1) L) (s - pop 7 (c + 1 &&& un n L)) := by
                  funext r
                  show (if op n L = 0 then 0 else if r + 1 = 0 then _ else bL n f l (jn (lst (bT n f (bV n f l) L s) 128) L) (s - pop 7 (lst (bT n f (bV n f l) L s) 128 &&& un n L)) (r + 1 - 1)) = _
                  rw [if_neg z, if_neg (by omega), hm0]; rfl
                have esq : sq n (bL n f (l + 1) L s) (D, R) (l + 1) = sq n (bL n f l (jn (c + 1) L) (s - pop 7 (c + 1 &&& un n L))) (D + 1, fun r => if r = D then c + 1 else R r) l := by
                  rw [sq_front, el0, elr, ea]
                refine ih (D + 1) (fun r => if r = D then c + 1 else R r) (jn (c + 1) L) (s - pop 7 (c + 1 &&& un n L)) Y (by omega) (okS_jn hL ok) ao (fun i hi => ?_) v3 (fun u hu => ?_) (kk5.tr kY) ?_ ⟨?_, ?_, fun r hr => ?_⟩ (fun t' k' => ?_)
                · rw [lw_put]; exact jn_near (fun i => (hL i).1) near i hi
                · by_cases b0 : 0 < bV n f l (jn (c + 1) L) u
                  · have b9 : 0 < bT n f (bV n f l) L (pop 7 (c + 1 &&& un n L) + u) (c + 1) := by
                      unfold bT
                      rw [if_pos ⟨v, by omega⟩, show pop 7 (c + 1 &&& un n L) + u - pop 7 (c + 1 &&& un n L) = u by omega]
                      exact b0
                    have h9 := mn (pop 7 (c + 1 &&& un n L) + u) (by omega)
                    rw [bV_s z] at h9
                    have : bT n f (bV n f l) L (pop 7 (c + 1 &&& un n L) + u) (c + 1) ≤ sm (bT n f (bV n f l) L (pop 7 (c + 1 &&& un n L) + u)) 128 := le_sm (by omega)
                    omega
                  · omega
                · rw [kY.1.1 89 (by decide) (by decide), k5.1 89 (by decide) (by decide)]; exact t89
                · rw [kY.1.1 89 (by decide) (by decide), k5.1 89 (by decide) (by decide)]; exact t89
                · rw [y90, upd_eq, if_pos rfl]
                · rw [y91, updL_eq]
                  show _ = lN (if r = D then _ else _)
                  by_cases er : r = D
                  · rw [if_pos (by omega), if_pos er]
                  · rw [if_neg (by omega), if_neg er, t591]; exact hm.2.2 r (by have : r < D + 1 := hr; omega)
                · rw [← esq]; exact fin t' k'
              · have ne : ¬ (σ.1 99 (fc n * l + en n (jn (c + 1) L)) + nI (pop 7 (c + 1))) = nI (pop 7 (op n L) + s) := fun q => es (eq.mp q)
                have zz : bI ((σ.1 99 (fc n * l + en n (jn (c + 1) L)) + nI (pop 7 (c + 1))) = nI (pop 7 (op n L) + s)) = 0 := if_neg ne
                rw [zz]
                refine nx _ (less ?_)
                rw [eT]
                by_cases us : pop 7 (c + 1 &&& un n L) ≤ s
                · rw [if_pos us]
                  by_cases b0 : 0 < bV n f l (jn (c + 1) L) (s - pop 7 (c + 1 &&& un n L))
                  · have lt : pop 7 (c + 1 &&& un n L) + s' < s := by
                      by_cases c2 : s - pop 7 (c + 1 &&& un n L) < s'
                      · have := f3 _ c2; omega
                      · omega
                    have : 0 < bT n f (bV n f l) L (pop 7 (c + 1 &&& un n L) + s') (c + 1) := by
                      unfold bT
                      rw [if_pos ⟨v, by omega⟩, show pop 7 (c + 1 &&& un n L) + s' - pop 7 (c + 1 &&& un n L) = s' by omega]
                      exact f2
                    have h9 := mn _ lt
                    rw [bV_s z] at h9
                    have : bT n f (bV n f l) L (pop 7 (c + 1 &&& un n L) + s') (c + 1) ≤ sm (bT n f (bV n f l) L (pop 7 (c + 1 &&& un n L) + s')) 128 := le_sm (by omega)
                    omega
                  · omega
                · rw [if_neg us]
          · rw [if_neg mb]
            exact bX11_made_120 _ _ _ _ _ _ t5 (fun q => absurd rfl q) (fun _ => nx _ (less (bT_0 (fun t => mb (vB_mB.mp t).2)))) (fun q => absurd rfl q)
      have m00 : 0 < m0 := by have := (vB_iff.mp v1).1; omega
      exact find m0 0 (-4) t m00 (by omega) Fr.rf
end MADE

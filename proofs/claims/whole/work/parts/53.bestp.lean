/-! BEST: class and reference -/
section BESTP
def RB (σ : St) : Prop := ∀ n f, 2 ≤ n → n ≤ 7 → 1 ≤ f → f ≤ 6 → σ.1 88 20 = nI n → σ.1 88 21 = nI f → σ.1 88 24 = nI (fc n) ∧ ∀ l, l < 7 → tRw n f l σ
theorem tRw.keep {n f l : Nat} {σ t : St} (h : tRw n f l σ) (e1 : t.1 99 = σ.1 99) (e2 : t.1 100 = σ.1 100) : tRw n f l t := fun s hs => by rw [e1, e2]; exact h s hs
theorem RB.keep {S F : List Nat} {σ t : St} (hF : Fr S F σ t) (h1 : 99 ∉ S) (h2 : 100 ∉ S) (h3 : 20 ∉ F) (h4 : 21 ∉ F) (h5 : 24 ∉ F) (h : RB σ) : RB t := by
  intro n f a b c d e1 e2
  rw [hF.2.1 20 h3] at e1
  rw [hF.2.1 21 h4] at e2
  obtain ⟨u, v⟩ := h n f a b c d e1 e2
  exact ⟨by rw [hF.2.1 24 h5]; exact u, fun l hl => (v l hl).keep (hF.1 99 h1 (by decide)) (hF.1 100 h2 (by decide))⟩
def BF : List Nat := [93, 99, 100, 101]
theorem tX11_fills (d n f : Nat) (hn : n ≤ 7) (h2 : 2 ≤ n) (hf : f ≤ 6) (hf1 : 1 ≤ f) (σ : St) (hB : RB σ) : Ct yX11_fills MX11_fills (d + 2) [.ref 88, .int (nI n), .int (nI f)] σ (fun v t => v = none ∧ Fr BF [20, 21, 24] σ t ∧ t.1 88 24 = nI (fc n) ∧ (∀ l, l < 7 → tRw n f l t) ∧ RB t) := by
  have F7 := fc_7 n (by omega)
  have go : Run MX11_fills (d + 2) 34 [some (.ref 88), some (.int (nI n)), some (.int (nI f)), some (.int 1)] [] (sA (sA (sA σ 88 (upd (σ.1 88) 20 (nI n))) 88 (upd (upd (σ.1 88) 20 (nI n)) 21 (nI f))) 88 (upd (upd (upd (σ.1 88) 20 (nI n)) 21 (nI f)) 24 1)) (fun v t => v = none ∧ Fr BF [20, 21, 24] σ t ∧ t.1 88 24 = nI (fc n) ∧ (∀ l, l < 7 → tRw n f l t) ∧ RB t) := by
    have e0 : sA (sA (sA σ 88 (upd (σ.1 88) 20 (nI n))) 88 (upd (upd (σ.1 88) 20 (nI n)) 21 (nI f))) 88 (upd (upd (upd (σ.1 88) 20 (nI n)) 21 (nI f)) 24 1) = sA σ 88 (upd (upd (upd (σ.1 88) 20 (nI n)) 21 (nI f)) 24 1) := by
      simp only [sA]; congr 1; funext j; split <;> rfl
    rw [e0]
    generalize hW : sA σ 88 (upd (upd (upd (σ.1 88) 20 (nI n)) 21 (nI f)) 24 1) = W
    have w : ∀ j, W.1 88 j = if j = 24 then 1 else if j = 21 then nI f else if j = 20 then nI n else σ.1 88 j := fun j => by rw [← hW, sA_at, upd_eq, upd_eq, upd_eq]
    have wF : Fr BF [20, 21, 24] σ W := ⟨fun j _ h8 => by rw [← hW, sA_ne h8], fun j hj => by
      rw [w, if_neg (fun e => hj (by rw [e]; decide)), if_neg (fun e => hj (by rw [e]; decide)), if_neg (fun e => hj (by rw [e]; decide))], fun j _ => by rw [← hW, sA2]⟩
    refine loopI1 (fun x t => Run MX11_fills (d + 2) 34 [some (.ref 88), some (.int (nI n)), some (.int (nI f)), some (.int x)] [] t _) (fun i t => 1 ≤ i ∧ Fr BF [20, 21, 24] σ t ∧ t.1 88 24 = nI (fc (i - 1)) ∧ t.1 88 20 = nI n ∧ t.1 88 21 = nI f) (n + 1) ?_ ?_ 1 W (by omega) ⟨Nat.le_refl _, wF, by rw [w]; rfl, by rw [w]; rfl, by rw [w]; rfl⟩
    · rintro t ⟨_, hF, t24, t20, t21⟩
      refine bX11_fills_34 _ _ (nI (n + 1)) t (fun _ => ?_) (fun q => absurd q (nI_ge (by omega) (by omega)))
      have t24 : t.1 88 24 = nI (fc n) := t24
      refine loopI1 (fun x t => Run MX11_fills (d + 2) 57 [some (.ref 88), some (.int (nI n)), some (.int (nI f)), some (.int x)] [] t _) (fun l t => Fr BF [20, 21, 24] σ t ∧ t.1 88 24 = nI (fc n) ∧ t.1 88 20 = nI n ∧ t.1 88 21 = nI f ∧ ∀ k, k < l → tRw n f k t) 7 ?_ ?_ 0 t (by omega) ⟨hF, t24, t20, t21, fun k hk => absurd hk (Nat.not_lt_zero k)⟩
      · rintro t ⟨hF, t24, t20, t21, hr⟩
        refine bX11_fills_57 _ _ (nI 7) t (fun _ => ⟨rfl, hF, t24, hr, fun n' f' a1 a2 a3 a4 a5 a6 => ?_⟩) (fun q => absurd q (by decide))
        rw [t20] at a5
        rw [t21] at a6
        have en' := (nI_eq (by omega) (by omega)).mp a5
        have ef' := (nI_eq (by omega) (by omega)).mp a6
        rw [← en', ← ef']
        exact ⟨t24, hr⟩
      · rintro l t hl ⟨hF, t24, t20, t21, hr⟩ ih
        refine bX11_fills_57 _ _ (nI l) t (fun q => absurd q (nI_ge (b := 7) hl (by decide))) (fun _ => ?_)
        refine (tX11_fillsRow d n f l hn hf (by omega) t t24 (fun q => hr (l - 1) (by omega))).mono ?_
        rintro v t2 ⟨hv, F2, o2, r2⟩
        rw [hv]
        refine bX11_fills_70 _ _ (nI l) t2 (ih t2 ⟨hF.tr (F2.mono (by decide) (by decide)), by rw [F2.2.1 24 (by simp)]; exact t24, by rw [F2.2.1 20 (by simp)]; exact t20, by rw [F2.2.1 21 (by simp)]; exact t21, fun k hk => ?_⟩)
        by_cases e : k = l
        · rw [e]; exact r2
        · intro s hs
          have : fc n * k + fc n ≤ fc n * l := by rw [← Nat.mul_succ]; exact Nat.mul_le_mul_left _ (by omega)
          obtain ⟨u1, u2⟩ := o2 (fc n * k + s) (by omega)
          rw [u1, u2]
          exact hr k (by omega) s hs
    · rintro i t hi ⟨i1, hF, t24, t20, t21⟩ ih
      refine bX11_fills_34 _ _ (nI i) t (fun q => absurd q (nI_nlt (by omega) (by omega))) (fun _ => ih _ ⟨by omega, hF.tF (by decide), ?_, ?_, ?_⟩)
      · rw [sU, if_pos rfl, t24, pk_mul]
        have : i = (i - 1) + 1 := by omega
        show nI (fc (i - 1) * i) = nI (fc i)
        congr 1
        rw [this]; rfl
      · rw [sU, if_neg (by decide)]; exact t20
      · rw [sU, if_neg (by decide)]; exact t21
  refine Ct.of mX11_fills.1 (Nat.le_of_ble_eq_true rfl) (bX11_fills_0 _ _ σ (fun _ => go) (fun _ _ => go) (fun q1 q2 => ?_))
  obtain ⟨u, v⟩ := hB n f h2 hn hf1 hf q1 q2
  exact ⟨rfl, Fr.rf, u, v, hB⟩
theorem tX11_firstState (d n : Nat) (hn : n ≤ 7) (σ : St) : Ct yX11_firstState MX11_firstState (d + 1) [.ref 88, .int (nI n)] σ (fun v t => v = some (.int (nI (en n (st n)))) ∧ Fr [93, 101] [] σ t) := by
  refine Ct.of mX11_firstState.1 (Nat.le_of_ble_eq_true rfl) (bX11_firstState_0 _ σ ((tX11_begins d σ).mono ?_))
  rintro v s1 ⟨hv, l1, F1⟩
  rw [hv]
  refine bX11_firstState_4 _ s1 ?_
  refine (tX11_behind d 0 n 1 (fun i => i) hn (by decide) (fun i _ => Nat.le_refl _) (Nat.pow_pos (by decide)) s1 (fun i hi => l1 i (by omega))).mono ?_
  rintro v2 s2 ⟨hv2, F2⟩
  rw [hv2]
  have mb : mB n 1 (fun i => i) 0 = true := mB_iff.mpr ⟨fun i q => absurd q (by rw [Nat.zero_testBit]; decide), gst_le (fun p _ => by
    have : ld 0 (fun i => i) n p = 0 := sm_0 (fun i _ => by rw [Nat.zero_testBit, if_neg (by simp)])
    show ld 0 (fun i => i) n p ≤ 1
    rw [this]; decide)⟩
  rw [if_pos mb]
  have e : en n (jn 0 (fun i => i)) = en n (st n) := en_cong (fun i hi => by
    unfold jn st
    rw [Nat.zero_testBit, if_neg (by decide), if_pos hi])
  rw [e]
  exact bX11_firstState_11 _ s2 ⟨rfl, (F1.mono (by decide) (by decide)).tr (F2.mono (by decide) (by decide))⟩
theorem pop_st : ∀ n, n < 8 → 2 ≤ n → pop 7 (op n (st n)) = n - 1 := by decide +kernel
theorem FS_one {g : Nat → Nat} {b s : Nat} {x w : Int32} (F : FS g b x w) (h : 0 < g s) (h0 : ∀ t, t < s → g t = 0) : x = nI (b + s) ∧ w = nI (g s) := by
  rcases F with ⟨_, _, f⟩ | ⟨s', f1, f2, f3, f4⟩
  · have := f s; omega
  · have : s' = s := by
      by_cases c : s' < s
      · have := h0 _ c; omega
      · by_cases c2 : s < s'
        · have := f3 _ c2; omega
        · omega
    subst this
    exact ⟨f1, f4⟩
theorem FS_no {g : Nat → Nat} {b : Nat} {x w : Int32} (F : FS g b x w) (h : ∀ s, g s = 0) : x = 1000 := by
  rcases F with ⟨f, _, _⟩ | ⟨s', _, f2, _, _⟩
  · exact f
  · have := h s'; omega
theorem isB (x1 x2 x3 : Int32) : (((2 : Int64) ≤ x1.toInt64 ∧ x1.toInt64 ≤ (7 : Int64)) ∧ (((1 : Int64) ≤ x2.toInt64 ∧ x2.toInt64 ≤ (6 : Int64)) ∧ ((1 : Int64) ≤ x3.toInt64 ∧ x3.toInt64 ≤ (6 : Int64)))) ↔ ((2 : Int32) ≤ x1 ∧ (x1 ≤ 7 ∧ ((1 : Int32) ≤ x2 ∧ (x2 ≤ 6 ∧ ((1 : Int32) ≤ x3 ∧ x3 ≤ 6))))) := by
  have d1 : ((2 : Int64) ≤ x1.toInt64 ∧ x1.toInt64 ≤ (7 : Int64)) ↔ (2 : Int32) ≤ x1 ∧ x1 ≤ 7 := in_i x1 2 7
  have d2 : ((1 : Int64) ≤ x2.toInt64 ∧ x2.toInt64 ≤ (6 : Int64)) ↔ (1 : Int32) ≤ x2 ∧ x2 ≤ 6 := in_i x2 1 6
  have d3 : ((1 : Int64) ≤ x3.toInt64 ∧ x3.toInt64 ≤ (6 : Int64)) ↔ (1 : Int32) ≤ x3 ∧ x3 ≤ 6 := in_i x3 1 6
  rw [d1, d2, d3]
  exact ⟨fun ⟨⟨a, b⟩, ⟨c, d⟩, e, f⟩ => ⟨a, b, c, d, e, f⟩, fun ⟨a, b, c, d, e, f⟩ => ⟨⟨a, b⟩, ⟨c, d⟩, e, f⟩⟩
theorem toldB {x1 x2 x3 : Int32} (h : (2 : Int32) ≤ x1 ∧ (x1 ≤ 7 ∧ ((1 : Int32) ≤ x2 ∧ (x2 ≤ 6 ∧ ((1 : Int32) ≤ x3 ∧ x3 ≤ 6))))) : ∃ n dd f, (2 ≤ n ∧ n ≤ 7) ∧ (1 ≤ dd ∧ dd ≤ 6) ∧ (1 ≤ f ∧ f ≤ 6) ∧ x1 = nI n ∧ x2 = nI dd ∧ x3 = nI f := by
  obtain ⟨a1, a2, a3, a4, a5, a6⟩ := h
  simp only [Int32.lt_iff_toInt_lt, Int32.le_iff_toInt_le, Int64.lt_iff_toInt_lt, Int64.le_iff_toInt_le, ← Int32.toInt_inj, ← Int64.toInt_inj, Int32.toInt_toInt64, tim20, tim13, tim12, tim11, tim10, tim4, tim3, tim2, tim1, ti0, ti1, ti2, ti3, ti4, ti5, ti6, ti7, ti8, ti9, ti10, ti11, ti12, ti13, ti14, ti15, ti16, ti24, ti30, ti31, ti32, ti48, ti56, ti57, ti60, ti63, ti99, ti100, ti130, ti199, ti200, ti240, ti999, ti1000, ti20, ti21, ti22, ti23, ti65535, ti32767, ti144, tjm20, tjm13, tjm12, tjm11, tjm10, tjm4, tjm3, tjm2, tjm1, tj0, tj1, tj2, tj3, tj4, tj5, tj6, tj7, tj8, tj9, tj10, tj11, tj12, tj13, tj14, tj15, tj16, tj24, tj30, tj31, tj32, tj48, tj56, tj57, tj60, tj63, tj99, tj100, tj130, tj199, tj200, tj240, tj999, tj1000, tj20, tj21, tj22, tj23, tj65535, tj32767, tj144] at a1 a2 a3 a4 a5 a6
  obtain ⟨n, n1, e1⟩ := ofI (x := x1) (n := 8) (by omega) (by omega) (by decide)
  obtain ⟨dd, d1, e2⟩ := ofI (x := x2) (n := 7) (by omega) (by omega) (by decide)
  obtain ⟨f, f1, e3⟩ := ofI (x := x3) (n := 7) (by omega) (by omega) (by decide)
  rw [e1, nI_toInt (by omega)] at a1
  rw [e2, nI_toInt (by omega)] at a3
  rw [e3, nI_toInt (by omega)] at a5
  exact ⟨n, dd, f, ⟨by omega, by omega⟩, ⟨by omega, by omega⟩, ⟨by omega, by omega⟩, e1, e2, e3⟩
def BS : List Nat := [21, 22, 23, 93, 99, 100, 101]
theorem pub_best (d : Nat) (x1 x2 x3 x4 : Int32) (σ : St) (hB : RB σ) : PB yX10_best MX10_best (d + 54) yX11_best MX11_best (d + 3) [.int x1, .int x2, .int x3, .int x4] σ BS [20, 21, 24] RB := by
  have d4 : ((0 : Int64) ≤ x4.toInt64 ∧ x4.toInt64 ≤ (1 : Int64)) ↔ (0 : Int32) ≤ x4 ∧ x4 ≤ 1 := in_i x4 0 1
  have bad : (¬ (((2 : Int32) ≤ x1 ∧ (x1 ≤ 7 ∧ ((1 : Int32) ≤ x2 ∧ (x2 ≤ 6 ∧ ((1 : Int32) ≤ x3 ∧ x3 ≤ 6))))) ∧ (0 : Int32) ≤ x4 ∧ x4 ≤ 1)) → ∃ r, some (Value.int (-1)) = some r ∧ Ct yX11_best MX11_best (d + 3) [.ref 88, .int x1, .int x2, .int x3, .int x4] σ (fun v2 σ2 => v2 = some r ∧ Fr BS [20, 21, 24] σ σ2 ∧ RB σ2) := by
    intro hb
    exact ⟨_, rfl, Ct.of mX11_best.1 (Nat.le_of_ble_eq_true rfl) (bX11_best_0 x1 x2 x3 x4 σ (fun _ => ⟨rfl, Fr.rf, hB⟩) (fun p q => absurd ⟨(isB _ _ _).mp p, d4.mp q⟩ hb) (fun _ _ => ⟨rfl, Fr.rf, hB⟩))⟩
  refine Ct.of mX10_best.1 (Nat.le_of_ble_eq_true rfl) (bX10_best_0 (d := d + 12) x1 x2 x3 x4 σ (fun q => bad (fun h => q h.1)) (fun _ q => bad (fun h => ?_)) (fun p q1 q2 => ?_) (fun _ _ q => bad (fun h => ?_)))
  · have := h.2.1; exact absurd q (by rw [i32_nlt]; exact this)
  · obtain ⟨n, dd, f, ⟨n2, n7⟩, ⟨d1, d6⟩, ⟨f1, f6⟩, e1, e2, e3⟩ := toldB p
    subst e1 e2 e3
    refine (tX0_search d n dd f n7 n2 d6 d1 f6 f1 σ).mono ?_
    rintro v s ⟨F1, hs⟩
    have hBs : RB s := hB.keep F1 (by decide) (by decide) (by decide) (by decide) (by decide)
    have ref : ∀ r, (∀ (t : St) (x w : Int32), t.1 99 (fc n * dd + en n (st n)) = x → t.1 100 (fc n * dd + en n (st n)) = w → FS (bV n f dd (st n)) (n - 1) x w → some (Value.int (if x < 1000 then (if x4 = 0 then x else w) else (-4))) = some r) → Ct yX11_best MX11_best (d + 3) [.ref 88, .int (nI n), .int (nI dd), .int (nI f), .int x4] s (fun v2 σ2 => v2 = some r ∧ Fr BS [20, 21, 24] σ σ2 ∧ RB σ2) := by
      intro r hr
      refine Ct.of mX11_best.1 (Nat.le_of_ble_eq_true rfl) (bX11_best_0 _ _ _ x4 s (fun t => absurd ((isB _ _ _).mpr p) t) (fun _ _ => ?_) (fun _ t => absurd (d4.mpr ⟨q1, q2⟩) t))
      refine (tX11_fills d n f n7 n2 f6 f1 s hBs).mono ?_
      rintro v2 s2 ⟨hv2, F2, s24, tb, hB2⟩
      rw [hv2]
      refine bX11_best_28 _ _ _ s2 ?_
      rw [s24, pk_mul]
      refine (tX11_firstState (d + 1) n n7 s2).mono ?_
      rintro v3 s3 ⟨hv3, F3⟩
      rw [hv3]
      have F7 := fc_7 n (by omega)
      have lto : en n (st n) < fc n := en_lt (fun i _ => (st_ok n i).1)
      have FL : fc n * dd ≤ 5040 * 6 := Nat.mul_le_mul F7 d6
      have ei : nI (fc n * dd) + nI (en n (st n)) = nI (fc n * dd + en n (st n)) := nI_add _ _
      refine bX11_best_39 _ _ _ s3 (by rw [ei]; exact vp_in_nI (by omega) (by decide)) ?_
      rw [ei, nI_clamp (by omega)]
      have fs := tb dd (by omega) (en n (st n)) lto
      rw [dS_en (st_ok n), pop_st n (by omega) n2] at fs
      have b99 : s3.1 99 = s2.1 99 := F3.1 99 (by decide) (by decide)
      have b100 : s3.1 100 = s2.1 100 := F3.1 100 (by decide) (by decide)
      refine ⟨hr s3 _ _ rfl rfl (by rw [b99, b100]; exact fs), ((F1.mono (by decide) (by decide)).tr (F2.mono (by decide) (by decide))).tr (F3.mono (by decide) (by decide)), hB2.keep F3 (by decide) (by decide) (by decide) (by decide) (by decide)⟩
    rcases hs with ⟨hv, h0⟩ | ⟨s', hv, s42, sp, s0, s31, c0, c1, _, _⟩
    · rw [hv]
      refine bX10_best_32 (d := d + 12) _ 0 s (fun t => absurd rfl t) (fun _ => ⟨_, rfl, ref _ (fun t x w _ _ fs => ?_)⟩)
      rw [FS_no fs h0, if_neg (by decide)]
    · rw [hv]
      refine bX10_best_32 (d := d + 12) _ 1 s (fun _ => ⟨_, rfl, ref _ (fun t x w _ _ fs => ?_)⟩) (fun t => absurd t (by decide))
      obtain ⟨y1, y2⟩ := FS_one fs sp s0
      have lt : nI (n - 1 + s') < (1000 : Int32) := (nI_ltI (b := 1000) (by omega) (by decide)).mpr (by omega)
      rw [y1, y2, c0, c1, if_pos lt]
  · have := h.2.2; exact absurd q (by rw [i32_nlt]; exact this)
end BESTP

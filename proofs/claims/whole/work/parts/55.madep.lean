/-! MADE: class and reference -/
section MADEP
def MSl : List Nat := 21 :: 22 :: 23 :: 99 :: 100 :: 101 :: SN
theorem MS_FN {N : Nat} (hN : N < 8) : ∀ i, i ∈ (0 :: 21 :: 22 :: 23 :: FN N) → i ∈ MSl := fun i hi => by
  have h0 : ∀ i, i ∈ [0, 21, 22, 23] → i ∈ MSl := by decide
  rcases List.mem_cons.mp hi with rfl | hi
  · decide
  rcases List.mem_cons.mp hi with rfl | hi
  · decide
  rcases List.mem_cons.mp hi with rfl | hi
  · decide
  rcases List.mem_cons.mp hi with rfl | hi
  · decide
  have := FN_SN N hN i hi
  unfold MSl
  simp only [List.mem_cons]
  exact .inr (.inr (.inr (.inr (.inr (.inr this)))))
theorem pub_made (d : Nat) (x1 x2 x3 : Int32) (σ : St) (hR : RN σ) (hB : RB σ) : PB yX10_made MX10_made (d + 54) yX11_made MX11_made (d + 3) [.int x1, .int x2, .int x3] σ MSl [0, 20, 21, 24] (fun s => RN s ∧ RB s) := by
  have hR0 := hR
  obtain ⟨N, hN, e1, e2, hk⟩ := hR
  refine Ct.of mX10_made.1 (Nat.le_of_ble_eq_true rfl) (bX10_made_0 (d := d + 12) x1 x2 x3 σ (fun p => ?_) (fun q => ⟨_, rfl, Ct.of mX11_made.1 (Nat.le_of_ble_eq_true rfl) (bX11_made_0 x1 x2 x3 σ (fun t => absurd ((isB _ _ _).mp t) q) (fun _ => ⟨rfl, Fr.rf, hR0, hB⟩))⟩))
  obtain ⟨n, dd, f, ⟨n2, n7⟩, ⟨d1, d6⟩, ⟨f1, f6⟩, a1, a2, a3⟩ := toldB p
  subst a1 a2 a3
  have F7 := fc_7 n (by omega)
  have lto : en n (st n) < fc n := en_lt (fun i _ => (st_ok n i).1)
  have FL : fc n * dd ≤ 5040 * 6 := Nat.mul_le_mul F7 d6
  refine (tX0_search d n dd f n7 n2 d6 d1 f6 f1 σ).mono ?_
  rintro v s ⟨F1, hs⟩
  -- the reference up to its first state
  have ref : ∀ (u : St) (Q : Option Value → St → Prop), RB u → (∀ t, Fr [93, 99, 100, 101] [20, 21, 24] u t → RB t → t.1 88 24 = nI (fc n) → (∀ l, l < 7 → tRw n f l t) → FS (bV n f dd (st n)) (n - 1) (t.1 99 (fc n * dd + en n (st n))) (t.1 100 (fc n * dd + en n (st n))) → Run MX11_made (d + 3) 22 [some (.ref 88), some (.int (nI n)), some (.int (nI dd)), some (.int (nI f)), none, none, none, none, none] [.int (nI (en n (st n)))] t Q) → Ct yX11_made MX11_made (d + 3) [.ref 88, .int (nI n), .int (nI dd), .int (nI f)] u Q := by
    intro u Q hBu hQ
    refine Ct.of mX11_made.1 (Nat.le_of_ble_eq_true rfl) (bX11_made_0 _ _ _ u (fun _ => ?_) (fun t => absurd ((isB _ _ _).mpr p) t))
    refine (tX11_fills d n f n7 n2 f6 f1 u hBu).mono ?_
    rintro v2 s2 ⟨hv2, F2, s24, tb, hB2⟩
    rw [hv2]
    refine bX11_made_17 _ _ _ s2 ((tX11_firstState (d + 1) n n7 s2).mono ?_)
    rintro v3 s3 ⟨hv3, F3⟩
    rw [hv3]
    have b99 : s3.1 99 = s2.1 99 := F3.1 99 (by decide) (by decide)
    have b100 : s3.1 100 = s2.1 100 := F3.1 100 (by decide) (by decide)
    have fs := tb dd (by omega) (en n (st n)) lto
    rw [dS_en (st_ok n), pop_st n (by omega) n2, ← b99, ← b100] at fs
    exact hQ s3 ((F2.mono (by decide) (by decide)).tr (F3.mono (by decide) (by decide))) (hB2.keep F3 (by decide) (by decide) (by decide) (by decide) (by decide)) (by rw [F3.2.1 24 (by simp)]; exact s24) (fun l hl => (tb l hl).keep b99 b100) fs
  have idx : ∀ t : St, t.1 88 24 = nI (fc n) → (t.1 88 24 * nI dd) + nI (en n (st n)) = nI (fc n * dd + en n (st n)) := fun t h => by rw [h, pk_mul, nI_add]
  have vix : vp_in (nI (fc n * dd + en n (st n))) 35280 := vp_in_nI (by omega) (by decide)
  have icl : (nI (fc n * dd + en n (st n))).toNatClampNeg = fc n * dd + en n (st n) := nI_clamp (by omega)
  rcases hs with ⟨hv, h0⟩ | ⟨s', hv, s42, sp, s0, s31, c0, c1, c2, c3⟩
  · -- NONE
    rw [hv]
    refine bX10_made_21 (d := d + 12) 0 s (fun t => absurd rfl t) (fun t => absurd rfl t) (fun _ => ⟨_, rfl, ?_⟩)
    refine ref s _ (hB.keep F1 (by decide) (by decide) (by decide) (by decide) (by decide)) (fun t Ft hBt t24 tb fs => ?_)
    have ge : (1000 : Int32) ≤ t.1 99 (fc n * dd + en n (st n)) := by rw [FS_no fs h0]; decide
    have hF : Fr MSl [0, 20, 21, 24] σ t := (F1.mono (by decide) (by decide)).tr (Ft.mono (by decide) (by decide))
    have hF2 : Fr [21, 22, 23, 93, 99, 100, 101] [20, 21, 24] σ t := (F1.mono (by decide) (by decide)).tr (Ft.mono (by decide) (by decide))
    have nlt : ¬ t.1 99 (fc n * dd + en n (st n)) < 1000 := by rw [i32_nlt]; exact ge
    refine bX11_made_22 _ _ _ _ t (by rw [idx t t24]; exact vix) (fun q => ?_) (fun q => ?_) (fun q => ?_) (fun _ => ⟨rfl, hF, hR0.keep hF2 (by decide) (by decide), hBt⟩)
    · rw [idx t t24, icl] at q; exact absurd q nlt
    · rw [idx t t24, icl] at q; exact absurd q nlt
    · rw [idx t t24, icl] at q; exact absurd q nlt
  · rw [hv]
    have fsx : ∀ t : St, FS (bV n f dd (st n)) (n - 1) (t.1 99 (fc n * dd + en n (st n))) (t.1 100 (fc n * dd + en n (st n))) → t.1 99 (fc n * dd + en n (st n)) < 1000 := fun t fs => by
      rw [(FS_one fs sp s0).1]; exact (nI_ltI (b := 1000) (by omega) (by decide)).mpr (by omega)
    have es1 : s.1 0 1 = nI N := by rw [F1.1 0 (by decide) (by decide)]; exact e1
    refine bX10_made_21 (d := d + 12) 1 s (fun _ q => ?_) (fun _ q => ?_) (fun t => absurd t (by decide))
    · -- a NET more
      rw [es1] at q
      have hN8 : N < 8 := (nI_ltI (b := 8) (by omega) (by decide)).mp q.2
      rw [es1, nI_clamp (by omega), (nt_a N hN8).1]
      refine (tX0_fillLeast (d + 50) N n (bL n f dd (st n) s') hN8 n2 (by omega) s c2 c3).mono ?_
      rintro v5 s5 ⟨hv5, hc5, F5⟩
      rw [hv5]
      refine bX10_made_50 (d := d + 12) s5 ?_
      have e6 : sq n (bL n f dd (st n) s') p0 6 = sq n (bL n f dd (st n) s') p0 dd := sq_rest d6 (fun r hr => bL_far hr)
      rw [e6] at hc5
      have es5 : s5.1 0 1 = nI N := by rw [F5.1 0 (by simp [FN]; omega) (by decide)]; exact es1
      have ek : sX10_keepNet s5 = sA s5 0 (upd (s5.1 0) 1 (nI (N + 1))) := by unfold sX10_keepNet; rw [es5, nI_succ]
      rw [ek, es5]
      generalize hu : sA s5 0 (upd (s5.1 0) 1 (nI (N + 1))) = u
      have hFu : Fr (0 :: 21 :: 22 :: 23 :: FN N) [] σ u := by
        rw [← hu]
        refine Fr.tA ((F1.mono (fun i hi => ?_) (fun i hi => hi)).tr (F5.mono (fun i hi => ?_) (fun i hi => hi))) (by simp) (by decide)
        · simp at hi ⊢; omega
        · simp only [List.mem_cons]; exact .inr (.inr (.inr (.inr hi)))
      have u88 : u.1 88 0 = nI N := by rw [hFu.2.1 0 (by simp)]; exact e2
      have u0 : u.1 0 1 = nI (N + 1) := by rw [← hu, sA_at, upd_eq, if_pos rfl]
      have hcu := hc5.keep (σ' := u) hN8 (fun i i1 i2 => by rw [← hu, sA_ne (by omega)])
      have hBu : RB u := hB.keep hFu (by simp [FN]; omega) (by simp [FN]; omega) (by simp) (by simp) (by simp)
      refine ⟨_, rfl, ref u _ hBu (fun t Ft hBt t24 tb fs => ?_)⟩
      have lt := fsx t fs
      have t880 : t.1 88 0 = nI N := by rw [Ft.2.1 0 (by decide)]; exact u88
      have n8 : ¬ t.1 88 0 = 8 := fun h => by
        rw [t880] at h
        have := (nI_eq (a := N) (b := 8) (by omega) (by decide)).mp h; omega
      have Nc : (t.1 88 0).toNatClampNeg = N := by rw [t880]; exact nI_clamp (by omega)
      refine bX11_made_22 _ _ _ _ t (by rw [idx t t24]; exact vix) (fun _ _ => by rw [t880]; exact vp_in_nI hN8 (by decide)) (fun _ _ => ?_) (fun _ q => absurd q n8) (fun q => ?_)
      · rw [Nc]
        generalize hW : sA (sA t 89 (upd (t.1 89) N (nI n))) 90 (upd (t.1 90) N 0) = W
        have w1 : ∀ i, i ≠ 89 → i ≠ 90 → W.1 i = t.1 i := fun i a b => by rw [← hW, sA_ne b, sA_ne a]
        have w89 : W.1 89 = upd (t.1 89) N (nI n) := by rw [← hW, sA_ne (by decide), sA_at]
        have w90 : W.1 90 = upd (t.1 90) N 0 := by rw [← hW, sA_at]
        have w2 : W.2 = t.2 := by rw [← hW]; rfl
        have mnW : mN N n 0 p0.2 W := ⟨by rw [w89, upd_eq, if_pos rfl], by rw [w90, upd_eq, if_pos rfl]; rfl, fun r hr => absurd hr (Nat.not_lt_zero r)⟩
        refine runMade d N n f hN8 n2 n7 f6 W (by rw [w1 88 (by decide) (by decide)]; exact t880) (by rw [w1 88 (by decide) (by decide)]; exact t24) (fun l hl => (tb l hl).keep (w1 99 (by decide) (by decide)) (w1 100 (by decide) (by decide))) dd 0 p0.2 (st n) s' W (by omega) (st_ok n) (p0_ok n2 (by omega)) (fun i hi => (if_pos hi).symm) sp s0 kd2.rf mnW.1 mnW (fun t' k' ok' mn' => ?_)
        generalize hZ : sA t' 88 (upd (t'.1 88) 0 (nI N + 1)) = Z
        have z1 : ∀ i, i ≠ 88 → Z.1 i = t'.1 i := fun i h => by rw [← hZ, sA_ne h]
        have z88 : ∀ j, Z.1 88 j = if j = 0 then nI N + 1 else t'.1 88 j := fun j => by rw [← hZ, sU]
        have z2 : Z.2 = t'.2 := by rw [← hZ, sA2]
        have FtZ : Fr [89, 90, 91, 93, 101] [0] t Z := by
          refine ⟨fun i hi h8 => ?_, fun j hj => ?_, fun i hi => ?_⟩
          · simp at hi
            rw [z1 i h8, k'.1.1 i (by simp; omega) h8, w1 i (by omega) (by omega)]
          · simp at hj
            rw [z88, if_neg hj, k'.1.2.1 j (by simp), w1 88 (by decide) (by decide)]
          · simp at hi
            rw [z2, k'.1.2.2 i (by simp; omega), w2]
        have mnZ := mn'.keep (σ' := Z) (by rw [z1 89 (by decide)]) (by rw [z1 90 (by decide)]) (fun r _ => by rw [z2])
        refine ⟨rfl, ?_, RN_more2 (s := u) hN8 hk ok' hcu hFu mnZ (fun i hi => ?_) (fun k hk1 => ⟨?_, ?_⟩) (fun j hj => ?_) u0 ?_, ?_⟩
        · exact ((hFu.mono (F' := [0, 20, 21, 24]) (MS_FN hN8) (fun i hi => absurd hi (by simp))).tr (Ft.mono (by decide) (by decide))).tr (FtZ.mono (by decide) (by decide))
        · rw [FtZ.1 i (by simp; omega) (by omega), Ft.1 i (by simp; omega) (by omega)]
        · rw [z1 89 (by decide), k'.1.1 89 (by decide) (by decide), w89, upd_eq, if_neg (by omega), Ft.1 89 (by decide) (by decide)]
        · rw [z1 90 (by decide), k'.2.1 k (by omega), w90, upd_eq, if_neg (by omega), Ft.1 90 (by decide) (by decide)]
        · rw [z2, k'.2.2 j hj, w2, Ft.2.2 91 (by decide)]
        · rw [z88, if_pos rfl, nI_succ]
        · exact hBt.keep FtZ (by decide) (by decide) (by decide) (by decide) (by decide)
      · rw [idx t t24, icl] at q; exact absurd lt (by rw [i32_nlt]; exact q)
    · -- FULL
      have hN8 : N = 8 := by
        rw [es1] at q
        have : ¬ N < 8 := fun h => q ⟨(nI_leI (a := 0) (by omega) (by omega)).mpr (Nat.zero_le _), (nI_ltI (b := 8) (by omega) (by decide)).mpr h⟩
        omega
      refine ⟨_, rfl, ref s _ (hB.keep F1 (by decide) (by decide) (by decide) (by decide) (by decide)) (fun t Ft hBt t24 tb fs => ?_)⟩
      have lt := fsx t fs
      have h8 : t.1 88 0 = 8 := by rw [Ft.2.1 0 (by decide), F1.2.1 0 (by decide), e2, hN8]; rfl
      have hF : Fr MSl [0, 20, 21, 24] σ t := (F1.mono (by decide) (by decide)).tr (Ft.mono (by decide) (by decide))
      have hF2 : Fr [21, 22, 23, 93, 99, 100, 101] [20, 21, 24] σ t := (F1.mono (by decide) (by decide)).tr (Ft.mono (by decide) (by decide))
      refine bX11_made_22 _ _ _ _ t (by rw [idx t t24]; exact vix) (fun _ q => absurd h8 q) (fun _ q => absurd h8 q) (fun _ _ => ⟨rfl, hF, hR0.keep hF2 (by decide) (by decide), hBt⟩) (fun q => ?_)
      rw [idx t t24, icl] at q; exact absurd lt (by rw [i32_nlt]; exact q)
end MADEP

section SIZESC
theorem mx_zI {a b : Int} (ha : -100000 ≤ a ∧ a ≤ 100000) (hb : -100000 ≤ b ∧ b ≤ 100000) : mxI (zI a) (zI b) = zI (max a b) := by
  unfold mxI
  by_cases h : a < b
  · rw [if_pos ((zI_lt (by omega) (by omega)).mpr h), Int.max_eq_right (by omega)]
  · rw [if_neg (fun q => h ((zI_lt (by omega) (by omega)).mp q)), Int.max_eq_left (by omega)]
theorem mn_zI {a b : Int} (ha : -100000 ≤ a ∧ a ≤ 100000) (hb : -100000 ≤ b ∧ b ≤ 100000) : mnI (zI a) (zI b) = zI (min a b) := by
  unfold mnI
  by_cases h : b < a
  · rw [if_pos ((zI_lt (by omega) (by omega)).mpr h), Int.min_eq_right (by omega)]
  · rw [if_neg (fun q => h ((zI_lt (by omega) (by omega)).mp q)), Int.min_eq_left (by omega)]
theorem agz_bd {W s : Nat} {A : Nat → Int} {t : Nat} (hW : W ≤ 100) : ∀ r, -1000 ≤ agz W s A t r ∧ agz W s A t r ≤ 1000
  | 0 => by show -1000 ≤ (-1000 : Int) ∧ (-1000 : Int) ≤ 1000; omega
  | r + 1 => by
    have ih := agz_bd (W := W) (s := s) (A := A) (t := t) hW r
    have e : agz W s A t (r + 1) = (if A (t - (r + 1)) < (r + 1 : Nat) then agz W s A t r else max (agz W s A t r) (min ((W : Int) + 1 - (r + 1 : Nat)) (A (t - (r + 1)) - s))) := rfl
    rw [e]
    split <;> omega
theorem skA_bd {W s : Nat} (hW : W ≤ 100) : ∀ b t, -1000 ≤ skA W s b t ∧ skA W s b t ≤ 1000
  | 0, t => by show -1000 ≤ (if t = 0 then (1000 : Int) else -1000) ∧ (if t = 0 then (1000 : Int) else -1000) ≤ 1000; split <;> omega
  | b + 1, t => agz_bd hW _
theorem tX1_allowNoBlocks (d n W s : Nat) (hn : n ≤ 32) (σ : St) : Ct yX1_allowNoBlocks MX1_allowNoBlocks (d + 1) [.ref 24, .int (nI n)] σ (fun v σ' => v = none ∧ Fr [25] [] σ σ' ∧ ∀ t, t ≤ n → σ'.1 25 t = zI (skA W s 0 t)) := by
  refine Ct.of mX1_allowNoBlocks.1 (Nat.le_of_ble_eq_true rfl) (bX1_allowNoBlocks_0 (nI n) σ ?_)
  refine loopI1 (fun x z => Run MX1_allowNoBlocks (d + 1) 2 [some (.ref 24), some (.int (nI n)), some (.int x)] [] z _) (fun k z => Fr [25] [] σ z ∧ ∀ t, t < k → z.1 25 t = zI (skA W s 0 t)) (n + 1) ?_ ?_ 0 σ (by omega) ⟨Fr.rf, fun t h => absurd h (Nat.not_lt_zero t)⟩
  · intro z hz
    exact bX1_allowNoBlocks_2 (nI n) (nI (n + 1)) z (fun _ => ⟨rfl, hz.1, fun t ht => hz.2 t (by omega)⟩) (fun q => absurd q (nI_ge (by omega) (by omega)))
  · intro k z hk hz ih
    refine bX1_allowNoBlocks_2 (nI n) (nI k) z (fun q => absurd q (nI_nlt (by omega) (by omega))) (fun _ => ih _ ?_)
    rw [aP_in ln_25 (by omega)]
    refine ⟨hz.1.tA (by decide) (by decide), fun t ht => ?_⟩
    rw [sA_at, upd_eq]
    by_cases e : t = k
    · subst e
      rw [if_pos rfl]
      show _ = zI (if t = 0 then 1000 else -1000)
      by_cases e0 : t = 0
      · rw [if_pos e0, if_pos (show nI t = 0 by rw [e0]; rfl)]; rfl
      · rw [if_neg e0, if_neg (show ¬ nI t = 0 from fun q => e0 ((nI_eq (b := 0) (by omega) (by decide)).mp q))]; rfl
    · rw [if_neg e]; exact hz.2 t (by omega)
theorem tX1_allowBlocks (d n W s b : Nat) (hn : n ≤ 32) (hW : W ≤ 32) (hs : s ≤ 9) (hb : b < 12) (σ : St) (h1 : σ.1 24 1 = nI s) (h2 : σ.1 24 2 = nI W) (hp : ∀ t, t ≤ n → σ.1 25 (b * 33 + t) = zI (skA W s b t)) : Ct yX1_allowBlocks MX1_allowBlocks (d + 2) [.ref 24, .int (nI (b + 1)), .int (nI n)] σ (fun v σ' => v = none ∧ Fr [25] [] σ σ' ∧ (∀ i, i < (b + 1) * 33 → σ'.1 25 i = σ.1 25 i) ∧ ∀ t, t ≤ n → σ'.1 25 ((b + 1) * 33 + t) = zI (skA W s (b + 1) t)) := by
  refine Ct.of mX1_allowBlocks.1 (Nat.le_of_ble_eq_true rfl) (bX1_allowBlocks_0 (nI (b + 1)) (nI n) σ ?_)
  refine loopI1 (fun x z => Run MX1_allowBlocks (d + 2) 2 [some (.ref 24), some (.int (nI (b + 1))), some (.int (nI n)), some (.int x), none, none, none, none] [] z _) (fun k z => Fr [25] [] σ z ∧ (∀ i, i < (b + 1) * 33 → z.1 25 i = σ.1 25 i) ∧ ∀ t, t < k → z.1 25 ((b + 1) * 33 + t) = zI (skA W s (b + 1) t)) (n + 1) ?_ ?_ 0 σ (by omega) ⟨Fr.rf, fun _ _ => rfl, fun t h => absurd h (Nat.not_lt_zero t)⟩
  · intro z hz
    exact bX1_allowBlocks_2 (nI (b + 1)) (nI n) (nI (n + 1)) z (fun _ => ⟨rfl, hz.1, hz.2.1, fun t ht => hz.2.2 t (by omega)⟩) (fun q => absurd q (nI_ge (by omega) (by omega)))
  · intro t z ht hz ih
    have z1 : z.1 24 1 = nI s := by rw [hz.1.1 24 (by decide) (by decide), h1]
    have z2 : z.1 24 2 = nI W := by rw [hz.1.1 24 (by decide) (by decide), h2]
    refine bX1_allowBlocks_2 (nI (b + 1)) (nI n) (nI t) z (fun q => absurd q (nI_nlt (by omega) (by omega))) (fun _ => ?_)
    have em : mnI (nI t) (mnI (z.1 24 2) 15) = nI (min t (min W 15)) := by
      rw [z2, show (15 : Int32) = nI 15 from rfl, mn_nI (by omega) (by decide), mn_nI (by omega) (by omega)]
    rw [em]
    generalize hr : min t (min W 15) = R
    have key : ∀ m r, r + m = R → Run MX1_allowBlocks (d + 2) 22 [some (.ref 24), some (.int (nI (b + 1))), some (.int (nI n)), some (.int (nI t)), some (.int (zI (agz W s (skA W s b) t r))), some (.int (nI R)), some (.int (nI (r + 1))), none] [] z (fun v σ' => v = none ∧ Fr [25] [] σ σ' ∧ (∀ i, i < (b + 1) * 33 → σ'.1 25 i = σ.1 25 i) ∧ ∀ t, t ≤ n → σ'.1 25 ((b + 1) * 33 + t) = zI (skA W s (b + 1) t)) := by
      intro m
      induction m with
      | zero =>
        intro r hrm
        have : r = R := by omega
        subst this
        refine bX1_allowBlocks_22 (nI (b + 1)) (nI n) (nI t) _ (nI r) (nI (r + 1)) z (fun _ => ih _ ?_) (fun q => absurd q (nI_ge (by omega) (by omega)))
        have ei : nI (b + 1) * 33 + nI t = nI ((b + 1) * 33 + t) := by rw [show (33 : Int32) = nI 33 from rfl, pk_mul, nI_add]
        rw [ei, aP_in ln_25 (by omega)]
        refine ⟨hz.1.tA (by decide) (by decide), fun i hi => ?_, fun t' ht' => ?_⟩
        · rw [sA_at, upd_eq, if_neg (by omega)]; exact hz.2.1 i hi
        · rw [sA_at, upd_eq]
          by_cases e : t' = t
          · subst e
            rw [if_pos rfl]
            show _ = zI (agz W s (skA W s b) t' (min t' (min W 15)))
            rw [hr]
          · rw [if_neg (by omega)]; exact hz.2.2 t' (by omega)
      | succ m ihm =>
        intro r hrm
        have hb1 := agz_bd (W := W) (s := s) (A := skA W s b) (t := t) (by omega) r
        have hb2 := skA_bd (W := W) (s := s) (by omega) b (t - (r + 1))
        have eg : aG 25 ((nI (b + 1) - 1) * 33 + (nI t - nI (r + 1))) z = zI (skA W s b (t - (r + 1))) := by
          rw [nI_pred, show (33 : Int32) = nI 33 from rfl, pk_mul, pk_sub (by omega), nI_add, aG_in ln_25 (by omega), hz.2.1 _ (by omega), hp _ (by omega)]
        refine bX1_allowBlocks_22 (nI (b + 1)) (nI n) (nI t) _ (nI R) (nI (r + 1)) z (fun q => absurd q (nI_nlt (by omega) (by omega))) (fun _ => ?_)
        rw [eg, z1, z2]
        have eu : (if zI (skA W s b (t - (r + 1))) < nI (r + 1) then zI (agz W s (skA W s b) t r) else mxI (zI (agz W s (skA W s b) t r)) (mnI (nI W + 1 - nI (r + 1)) (zI (skA W s b (t - (r + 1))) - nI s))) = zI (agz W s (skA W s b) t (r + 1)) := by
          show _ = zI (if skA W s b (t - (r + 1)) < (r + 1 : Nat) then agz W s (skA W s b) t r else max (agz W s (skA W s b) t r) (min ((W : Int) + 1 - (r + 1 : Nat)) (skA W s b (t - (r + 1)) - s)))
          by_cases c : skA W s b (t - (r + 1)) < (r + 1 : Nat)
          · rw [if_pos c, if_pos (by rw [nI_zI]; exact (zI_lt (by omega) (by omega)).mpr c)]
          · rw [if_neg c, if_neg (by rw [nI_zI]; exact fun q => c ((zI_lt (by omega) (by omega)).mp q))]
            rw [show nI W + 1 - nI (r + 1) = zI ((W : Int) + 1 - (r + 1 : Nat)) by (simp only [nI_zI, zl0, zl1, zl2, zl3, zl4, zl5, zl6, zl7, zl8, zl9, zl10, zl11, zl12, zl13, zl14, zl15, zl16, zl24, zl30, zl31, zl32, zl48, zl56, zl57, zl60, zl63, zl99, zl100, zl130, zl199, zl200, zl240, zl999, zl1000, ← zI_add, ← zI_sub, ← zI_mul, ← zI_neg] <;> first | rfl | (congr 1; omega)), show zI (skA W s b (t - (r + 1))) - nI s = zI (skA W s b (t - (r + 1)) - s) by rw [zI_sub, nI_zI], mn_zI (by omega) (by omega), mx_zI (by omega) (by omega)]
        rw [eu, nI_1]
        exact ihm (r + 1) (by omega)
    exact key R 0 (by omega)
/-- the table stands up to b -/
def skTab (W s n b : Nat) (σ : St) : Prop := σ.1 24 1 = nI s ∧ σ.1 24 2 = nI W ∧ ∀ b', b' ≤ b → ∀ t, t ≤ n → σ.1 25 (b' * 33 + t) = zI (skA W s b' t)
theorem tX1_fewestSkipBlocks (d n W s : Nat) (hn : 1 ≤ n ∧ n ≤ 32) (hW : 1 ≤ W ∧ W ≤ 32) (hs : 1 ≤ s ∧ s ≤ 9) (σ : St) (h1 : σ.1 24 1 = nI s) : Ct yX1_fewestSkipBlocks MX1_fewestSkipBlocks (d + 3) [.ref 24, .int (nI n), .int (nI W)] σ (fun v σ' => Fr [24, 25] [] σ σ' ∧ σ'.1 24 1 = nI s ∧ ((v = some (.int 0) ∧ ∀ b, 1 ≤ b → b ≤ 12 → ¬ skG W s b n (-(s : Int))) ∨ ∃ b, 1 ≤ b ∧ b ≤ 12 ∧ v = some (.int (nI b)) ∧ skG W s b n (-(s : Int)) ∧ (∀ b', 1 ≤ b' → b' < b → ¬ skG W s b' n (-(s : Int))) ∧ skTab W s n b σ')) := by
  refine Ct.of mX1_fewestSkipBlocks.1 (Nat.le_of_ble_eq_true rfl) (bX1_fewestSkipBlocks_0 (nI n) (nI W) σ ((tX1_allowNoBlocks (d + 1) n W s hn.2 _).mono ?_))
  rintro v1 s1 ⟨hv, hF1, ht1⟩
  rw [hv]
  refine bX1_fewestSkipBlocks_10 (nI n) (nI W) s1 ?_
  have hF : Fr [24, 25] [] σ s1 := (Fr.A (by decide) (by decide)).tr (hF1.mono (by decide) (by decide))
  have e1 : s1.1 24 1 = nI s := by rw [hF1.1 24 (by decide) (by decide)]; exact h1
  have e2 : s1.1 24 2 = nI W := by rw [hF1.1 24 (by decide) (by decide)]; rfl
  have key : ∀ m b z, b + m = 12 → Fr [24, 25] [] σ z → skTab W s n b z → (∀ b', 1 ≤ b' → b' ≤ b → ¬ skG W s b' n (-(s : Int))) → Run MX1_fewestSkipBlocks (d + 3) 12 [some (.ref 24), some (.int (nI n)), some (.int (nI W)), some (.int (nI (b + 1)))] [] z (fun v σ' => Fr [24, 25] [] σ σ' ∧ σ'.1 24 1 = nI s ∧ ((v = some (.int 0) ∧ ∀ b, 1 ≤ b → b ≤ 12 → ¬ skG W s b n (-(s : Int))) ∨ ∃ b, 1 ≤ b ∧ b ≤ 12 ∧ v = some (.int (nI b)) ∧ skG W s b n (-(s : Int)) ∧ (∀ b', 1 ≤ b' → b' < b → ¬ skG W s b' n (-(s : Int))) ∧ skTab W s n b σ')) := by
    intro m
    induction m with
    | zero =>
      intro b z hb hFz ht hno
      have hb12 : b = 12 := by omega
      subst hb12
      exact bX1_fewestSkipBlocks_12 (nI n) (nI W) (nI (12 + 1)) z (fun _ => ⟨hFz, ht.1, Or.inl ⟨rfl, fun b h1 h2 => hno b h1 h2⟩⟩) (fun q => absurd q (by decide)) (fun q => absurd q (by decide))
    | succ m ih =>
      intro b z hb hFz ht hno
      obtain ⟨t1, t2, t3⟩ := ht
      have ec : (1 : Int32) + z.1 24 1 * (nI (b + 1) - 2) = zI (1 + (s : Int) * ((b : Int) - 1)) := by
        rw [t1, show nI (b + 1) - 2 = zI ((b : Int) - 1) by (simp only [nI_zI, zl0, zl1, zl2, zl3, zl4, zl5, zl6, zl7, zl8, zl9, zl10, zl11, zl12, zl13, zl14, zl15, zl16, zl24, zl30, zl31, zl32, zl48, zl56, zl57, zl60, zl63, zl99, zl100, zl130, zl199, zl200, zl240, zl999, zl1000, ← zI_add, ← zI_sub, ← zI_mul, ← zI_neg] <;> first | rfl | (congr 1; omega)), nI_zI, ← zI_mul, show (1 : Int32) = zI 1 from rfl, ← zI_add]
      have hsb : (s : Int) * ((b : Int) - 1) ≤ 9 * 11 ∧ -9 ≤ (s : Int) * ((b : Int) - 1) := by
        rcases (show b = 0 ∨ 1 ≤ b by omega) with e | e
        · subst e; constructor <;> simp <;> omega
        · obtain ⟨c, rfl⟩ : ∃ c, b = c + 1 := ⟨b - 1, by omega⟩
          have h3 : s * c ≤ 9 * 11 := Nat.mul_le_mul hs.2 (by omega)
          have e3 : (s : Int) * (((c + 1 : Nat) : Int) - 1) = ((s * c : Nat) : Int) := by rw [Int.natCast_mul]; congr 1; omega
          rw [e3]; omega
      refine bX1_fewestSkipBlocks_12 (nI n) (nI W) (nI (b + 1)) z (fun q => absurd q (nI_nlt (b := b + 1) (a := 12) (by omega) (by decide))) (fun _ q => ⟨hFz, t1, Or.inl ⟨rfl, fun b' hb1 hb2 hg => ?_⟩⟩) (fun _ q => ?_)
      · rw [ec, nI_zI] at q
        have q := (zI_lt (by omega) (by omega)).mp q
        rcases (show b' ≤ b ∨ b < b' by omega) with e | e
        · exact hno b' hb1 e hg
        · -- too many BLOCKS
          have hb2' : 2 ≤ b' := by
            rcases (show b = 0 ∨ 1 ≤ b by omega) with e0 | e0
            · exfalso; subst e0
              have : (s : Int) * (((0 : Nat) : Int) - 1) = -s := by simp
              omega
            · omega
          have hc := skG_cut2 hb2' hg
          have hle : (s : Int) * ((b : Int) - 1) ≤ (s : Int) * ((b' - 2 : Nat) : Int) := Int.mul_le_mul_of_nonneg_left (by omega) (by omega)
          omega
      · refine (tX1_allowBlocks d n W s b hn.2 hW.2 hs.2 (by omega) z t1 t2 (fun t ht => t3 b (Nat.le_refl _) t ht)).mono ?_
        rintro v2 s2 ⟨hv2, hF2, k1, k2⟩
        rw [hv2]
        have hFz2 : Fr [24, 25] [] σ s2 := hFz.tr (hF2.mono (by decide) (by decide))
        have t1' : s2.1 24 1 = nI s := by rw [hF2.1 24 (by decide) (by decide)]; exact t1
        have t2' : s2.1 24 2 = nI W := by rw [hF2.1 24 (by decide) (by decide)]; exact t2
        have tab : skTab W s n (b + 1) s2 := ⟨t1', t2', fun b' hb' t ht => by
          by_cases e : b' = b + 1
          · subst e; exact k2 t ht
          · rw [k1 _ (by omega)]; exact t3 b' (by omega) t ht⟩
        have eg : aG 25 (nI (b + 1) * 33 + nI n) s2 = zI (skA W s (b + 1) n) := by
          rw [show (33 : Int32) = nI 33 from rfl, pk_mul, nI_add, aG_in ln_25 (by omega)]; exact k2 n (Nat.le_refl _)
        have hbd := skA_bd (W := W) (s := s) (by omega) (b + 1) n
        have en : -(s2.1 24 1) = zI (-(s : Int)) := by rw [t1', nI_zI, zI_neg]
        have hiff := skA_iff W s hs.2 (b + 1) (by omega) n (-(s : Int)) (by omega) (by omega)
        refine bX1_fewestSkipBlocks_38 (nI n) (nI W) (nI (b + 1)) s2 (fun q => ?_) (fun q => ⟨hFz2, t1', Or.inr ⟨b + 1, by omega, by omega, rfl, ?_, fun b' h1 h2 => hno b' h1 (by omega), tab⟩⟩)
        · rw [eg, en] at q
          have q := (zI_lt (by omega) (by omega)).mp q
          rw [nI_1]
          exact ih (b + 1) s2 (by omega) hFz2 tab (fun b' h1 h2 => by
            by_cases e : b' = b + 1
            · rw [e, hiff]; omega
            · exact hno b' h1 (by omega))
        · rw [eg, en] at q
          exact hiff.mpr ((zI_le (by omega) (by omega)).mp q)
  exact key 12 0 s1 (by omega) hF ⟨e1, e2, fun b' hb' t ht => by
    have : b' = 0 := by omega
    subst this; rw [Nat.zero_mul, Nat.zero_add]; exact ht1 t ht⟩ (fun b' h1 h2 => by omega)
theorem tX1_leastSkipSize (d n W s b left : Nat) (y : Int) (hn : n ≤ 32) (hW : 1 ≤ W ∧ W ≤ 32) (hs : 1 ≤ s ∧ s ≤ 9) (hl : left ≤ n) (hb : b < 12) (hy : -9 ≤ y ∧ y ≤ 200) (σ : St) (ht : skTab W s n (b + 1) σ) (hg : skG W s (b + 1) left y) : Ct yX1_leastSkipSize MX1_leastSkipSize (d + 2) [.ref 24, .int (nI (b + 1)), .int (nI left), .int (zI y)] σ (fun v σ' => (∃ z, v = some (.int (nI z)) ∧ (1 ≤ z ∧ z ≤ left ∧ z ≤ W ∧ z ≤ 15 ∧ y + z - 1 ≤ (W : Int) ∧ skG W s b (left - z) (max (y + s) z)) ∧ (∀ z', 1 ≤ z' → z' < z → ¬ (z' ≤ left ∧ z' ≤ W ∧ z' ≤ 15 ∧ y + z' - 1 ≤ (W : Int) ∧ skG W s b (left - z') (max (y + s) z')))) ∧ σ' = σ) := by
  obtain ⟨t1, t2, t3⟩ := ht
  obtain ⟨z0, g1, g2, g3, g4, g5, g6⟩ := hg
  refine Ct.of mX1_leastSkipSize.1 (Nat.le_of_ble_eq_true rfl) (bX1_leastSkipSize_0 (nI (b + 1)) (nI left) (zI y) σ ?_)
  have em : mnI (nI left) (mnI (σ.1 24 2) 15) = nI (min left (min W 15)) := by
    rw [t2, show (15 : Int32) = nI 15 from rfl, mn_nI (by omega) (by decide), mn_nI (by omega) (by omega)]
  have key : ∀ m z, z + m = z0 → 1 ≤ z → (∀ z', 1 ≤ z' → z' < z → ¬ (z' ≤ left ∧ z' ≤ W ∧ z' ≤ 15 ∧ y + z' - 1 ≤ (W : Int) ∧ skG W s b (left - z') (max (y + s) z'))) → Run MX1_leastSkipSize (d + 2) 3 [some (.ref 24), some (.int (nI (b + 1))), some (.int (nI left)), some (.int (zI y)), some (.int (nI z)), none] [] σ (fun v σ' => (∃ z, v = some (.int (nI z)) ∧ (1 ≤ z ∧ z ≤ left ∧ z ≤ W ∧ z ≤ 15 ∧ y + z - 1 ≤ (W : Int) ∧ skG W s b (left - z) (max (y + s) z)) ∧ (∀ z', 1 ≤ z' → z' < z → ¬ (z' ≤ left ∧ z' ≤ W ∧ z' ≤ 15 ∧ y + z' - 1 ≤ (W : Int) ∧ skG W s b (left - z') (max (y + s) z')))) ∧ σ' = σ) := by
    intro m
    induction m with
    | zero =>
      intro z hz hz1 hno
      have : z = z0 := by omega
      subst this
      have hbd := skA_bd (W := W) (s := s) (by omega) b (left - z)
      have hiff := skA_iff W s hs.2 b (by omega) (left - z) (max (y + s) z) (by omega) (by omega)
      have eg : aG 25 ((nI (b + 1) - 1) * 33 + (nI left - nI z)) σ = zI (skA W s b (left - z)) := by
        rw [nI_pred, show (33 : Int32) = nI 33 from rfl, pk_mul, pk_sub (by omega), nI_add, aG_in ln_25 (by omega), t3 b (by omega) _ (by omega)]
      have ew : nI z + zI y - 1 = zI (y + z - 1) := by (simp only [nI_zI, zl0, zl1, zl2, zl3, zl4, zl5, zl6, zl7, zl8, zl9, zl10, zl11, zl12, zl13, zl14, zl15, zl16, zl24, zl30, zl31, zl32, zl48, zl56, zl57, zl60, zl63, zl99, zl100, zl130, zl199, zl200, zl240, zl999, zl1000, ← zI_add, ← zI_sub, ← zI_mul, ← zI_neg] <;> first | rfl | (congr 1; omega))
      have ex : mxI (zI y + σ.1 24 1) (nI z) = zI (max (y + s) z) := by rw [t1, nI_zI, nI_zI, ← zI_add, mx_zI (by omega) (by omega)]
      refine bX1_leastSkipSize_3 (nI (b + 1)) (nI left) (zI y) (nI z) σ (fun q => ?_) (fun _ q => ?_) (fun _ _ q => ?_) (fun _ _ _ => ⟨⟨z, rfl, ⟨g1, g2, g3, g4, g5, g6⟩, hno⟩, rfl⟩)
      · rw [em] at q; exact absurd ((nI_ltI (by omega) (by omega)).mp q) (by omega)
      · rw [ew, t2, nI_zI] at q; exact absurd ((zI_le (by omega) (by omega)).mpr (by omega)) q
      · rw [eg, ex] at q
        have q := (zI_lt (by omega) (by omega)).mp q
        have := hiff.mp g6
        omega
    | succ m ih =>
      intro z hz hz1 hno
      have hbd := skA_bd (W := W) (s := s) (by omega) b (left - z)
      have hiff := skA_iff W s hs.2 b (by omega) (left - z) (max (y + s) z) (by omega) (by omega)
      have eg : aG 25 ((nI (b + 1) - 1) * 33 + (nI left - nI z)) σ = zI (skA W s b (left - z)) := by
        rw [nI_pred, show (33 : Int32) = nI 33 from rfl, pk_mul, pk_sub (by omega), nI_add, aG_in ln_25 (by omega), t3 b (by omega) _ (by omega)]
      have ew : nI z + zI y - 1 = zI (y + z - 1) := by (simp only [nI_zI, zl0, zl1, zl2, zl3, zl4, zl5, zl6, zl7, zl8, zl9, zl10, zl11, zl12, zl13, zl14, zl15, zl16, zl24, zl30, zl31, zl32, zl48, zl56, zl57, zl60, zl63, zl99, zl100, zl130, zl199, zl200, zl240, zl999, zl1000, ← zI_add, ← zI_sub, ← zI_mul, ← zI_neg] <;> first | rfl | (congr 1; omega))
      have ex : mxI (zI y + σ.1 24 1) (nI z) = zI (max (y + s) z) := by rw [t1, nI_zI, nI_zI, ← zI_add, mx_zI (by omega) (by omega)]
      have nx : ¬ (z ≤ left ∧ z ≤ W ∧ z ≤ 15 ∧ y + z - 1 ≤ (W : Int) ∧ skG W s b (left - z) (max (y + s) z)) → Run MX1_leastSkipSize (d + 2) 3 [some (.ref 24), some (.int (nI (b + 1))), some (.int (nI left)), some (.int (zI y)), some (.int (nI z + 1)), none] [] σ _ := fun hn => by
        rw [nI_1]
        exact ih (z + 1) (by omega) (by omega) (fun z' h1 h2 => by
          by_cases e : z' = z
          · rw [e]; exact hn
          · exact hno z' h1 (by omega))
      refine bX1_leastSkipSize_3 (nI (b + 1)) (nI left) (zI y) (nI z) σ (fun q => ?_) (fun _ q => nx ?_) (fun _ _ q => nx ?_) (fun _ q1 q2 => ⟨⟨z, rfl, ⟨hz1, by omega, by omega, by omega, ?_, ?_⟩, hno⟩, rfl⟩)
      · rw [em] at q; exact absurd ((nI_ltI (by omega) (by omega)).mp q) (by omega)
      · rw [ew, t2, nI_zI] at q
        exact fun h => q ((zI_le (by omega) (by omega)).mpr h.2.2.2.1)
      · rw [eg, ex] at q
        have q := (zI_lt (by omega) (by omega)).mp q
        exact fun h => by have := hiff.mp h.2.2.2.2; omega
      · rw [ew, t2, nI_zI] at q1; exact (zI_le (by omega) (by omega)).mp q1
      · rw [eg, ex] at q2; exact hiff.mpr ((zI_le (by omega) (by omega)).mp q2)
  exact key (z0 - 1) 1 (by omega) (Nat.le_refl _) (fun z' h1 h2 => by omega)
theorem push4 {a z k : Nat} (ha : a < 16 ^ k) (hk : k ≤ 12) (hz : z ≤ 15) : (lN a <<< ((4 : Int32).toInt64 &&& 63)) ||| (nI z).toInt64 = lN (16 * a + z) := by
  have hp : (16 : Nat) ^ k ≤ 16 ^ 12 := Nat.pow_le_pow_right (by decide) hk
  have h1 : lN a <<< ((4 : Int32).toInt64 &&& 63) = lN (a * 2 ^ 4) := wb_shl a (k := 4) (by decide)
  rw [h1, nI_l (by omega), g_or (k := 4) rfl (by omega) (by omega)]
  congr 1; omega
theorem tX1_leastSkipFigures (d n W s b : Nat) (hn : n ≤ 32) (hW : 1 ≤ W ∧ W ≤ 32) (hs : 1 ≤ s ∧ s ≤ 9) (hb : b ≤ 12) (σ : St) (ht : skTab W s n b σ) (hg : skG W s b n (-(s : Int))) : Ct yX1_leastSkipFigures MX1_leastSkipFigures (d + 3) [.ref 24, .int (nI b), .int (nI n)] σ (fun v σ' => (∃ l, v = some (.long (lN (fgV l))) ∧ skLst W s b n (-(s : Int)) l) ∧ σ' = σ) := by
  refine Ct.of mX1_leastSkipFigures.1 (Nat.le_of_ble_eq_true rfl) (bX1_leastSkipFigures_0 (nI b) (nI n) σ ?_)
  have e0 : -(σ.1 24 1) = zI (-(s : Int)) := by rw [ht.1, nI_zI, zI_neg]
  rw [e0]
  have key : ∀ k left (y : Int) a (K : List Nat → Prop), k ≤ b → left ≤ n → -9 ≤ y → y ≤ 15 + 9 * (b - k : Nat) → a < 16 ^ (b - k) → skG W s k left y → (∀ l, skLst W s k left y l → K l) → Run MX1_leastSkipFigures (d + 3) 15 [some (.ref 24), none, none, some (.long (lN a)), none, some (.int (nI left)), some (.int (zI y)), some (.int (nI k)), none] [] σ (fun v σ' => (∃ l, v = some (.long (lN (l.foldl (fun a z => 16 * a + z) a))) ∧ K l) ∧ σ' = σ) := by
    intro k
    induction k with
    | zero =>
      intro left y a K _ _ _ _ _ hg hK
      refine bX1_leastSkipFigures_15 (lN a) (nI left) (zI y) (nI 0) σ (fun _ => ⟨⟨[], rfl, hK [] rfl⟩, rfl⟩) (fun q => absurd q (by decide))
    | succ k ih =>
      intro left y a K hk hl hy1 hy2 ha hg hK
      refine bX1_leastSkipFigures_15 (lN a) (nI left) (zI y) (nI (k + 1)) σ (fun q => absurd q (nI_nle (by omega) (by omega))) (fun _ => ?_)
      have ht' : skTab W s n (k + 1) σ := ⟨ht.1, ht.2.1, fun b' hb' => ht.2.2 b' (by omega)⟩
      refine (tX1_leastSkipSize d n W s k left y hn hW hs hl (by omega) ⟨hy1, by omega⟩ σ ht' hg).mono ?_
      rintro v1 s1 ⟨⟨z, hv, hz, hmin⟩, hs1⟩
      rw [hv, hs1]
      refine bX1_leastSkipFigures_30 (lN a) (nI left) (zI y) (nI (k + 1)) (nI z) σ ?_
      have ex : mxI (zI y + σ.1 24 1) (nI z) = zI (max (y + s) z) := by rw [ht.1, nI_zI, nI_zI, ← zI_add, mx_zI (by omega) (by omega)]
      rw [ex, push4 ha (by omega) hz.2.2.2.1, pk_sub hz.2.1, pk_m1]
      have h16 : 16 * a + z < 16 ^ (b - k) := by
        rw [show b - k = (b - (k + 1)) + 1 by omega, Nat.pow_succ]; have := hz.2.2.2.1; omega
      have := ih (left - z) (max (y + s) z) (16 * a + z) (fun r => K (z :: r)) (by omega) (by omega) (by omega) (by omega) h16 hz.2.2.2.2.2 (fun r hr => hK _ ⟨z, r, rfl, hz, hmin, hr⟩)
      refine this.mono ?_
      rintro v2 s2 ⟨⟨l, e1, e2⟩, e3⟩
      exact ⟨⟨z :: l, e1, e2⟩, e3⟩
  have := key b n (-(s : Int)) 0 (fun l => skLst W s b n (-(s : Int)) l) (Nat.le_refl _) (Nat.le_refl _) (by omega) (by omega) (Nat.pow_pos (by decide)) hg (fun l h => h)
  exact this
theorem skG_top {n s : Nat} (hn : 1 ≤ n ∧ n ≤ 32) (hs : s ≤ 9) : ∃ b, 1 ≤ b ∧ b ≤ 12 ∧ skG n s b n (-(s : Int)) := by
  rcases (show n ≤ 15 ∨ (15 < n ∧ n ≤ 30) ∨ 30 < n by omega) with h | h | h
  · exact ⟨1, by omega, by omega, n, by omega, by omega, by omega, by omega, by omega, by show n - n = 0; omega⟩
  · exact ⟨2, by omega, by omega, 15, by omega, by omega, by omega, by omega, by omega, n - 15, by omega, by omega, by omega, by omega, by omega, by show n - 15 - (n - 15) = 0; omega⟩
  · exact ⟨3, by omega, by omega, n - 30, by omega, by omega, by omega, by omega, by omega, 15, by omega, by omega, by omega, by omega, by omega, 15, by omega, by omega, by omega, by omega, by omega, by show n - (n - 30) - 15 - 15 = 0; omega⟩
/-- what SKIP sizes are due: the least WORST, the fewest BLOCKS, the least figures -/
def skBest (n s W b : Nat) (l : List Nat) : Prop := (1 ≤ W ∧ W ≤ 32) ∧ (1 ≤ b ∧ b ≤ 12) ∧ skG W s b n (-(s : Int)) ∧ (∀ W', 1 ≤ W' → W' < W → ∀ b', 1 ≤ b' → b' ≤ 12 → ¬ skG W' s b' n (-(s : Int))) ∧ (∀ b', 1 ≤ b' → b' < b → ¬ skG W s b' n (-(s : Int))) ∧ skLst W s b n (-(s : Int)) l
theorem tX1_skipFigures (d n s : Nat) (hn : 1 ≤ n ∧ n ≤ 32) (hs : 1 ≤ s ∧ s ≤ 9) (σ : St) : Ct yX1_skipFigures MX1_skipFigures (d + 4) [.ref 24, .int (nI n), .int (nI s)] σ (fun v σ' => (∃ W b l, skBest n s W b l ∧ v = some (.long (lN (fgV l)))) ∧ Fr [24, 25] [] σ σ') := by
  refine Ct.of mX1_skipFigures.1 (Nat.le_of_ble_eq_true rfl) (bX1_skipFigures_0 (nI n) (nI s) σ ?_)
  have hF0 : Fr [24, 25] [] σ (sA σ 24 (upd (σ.1 24) 1 (nI s))) := Fr.A (by decide) (by decide)
  have e0 : (sA σ 24 (upd (σ.1 24) 1 (nI s))).1 24 1 = nI s := rfl
  generalize sA σ 24 (upd (σ.1 24) 1 (nI s)) = s0 at hF0 e0
  refine loopM4 (fun (lo hi h : Nat) (z : St) => Run MX1_skipFigures (d + 4) 13 [some (.ref 24), some (.int (nI n)), none, some (.int (nI lo)), some (.int (nI hi)), some (.int (nI h)), none] [] z (fun v σ' => (∃ W b l, skBest n s W b l ∧ v = some (.long (lN (fgV l)))) ∧ Fr [24, 25] [] σ σ')) (fun lo hi h z => 1 ≤ lo ∧ lo ≤ hi ∧ hi ≤ n ∧ h + (hi - lo) ≤ 31 ∧ (∀ W', 1 ≤ W' → W' < lo → ∀ b', 1 ≤ b' → b' ≤ 12 → ¬ skG W' s b' n (-(s : Int))) ∧ (∃ b, 1 ≤ b ∧ b ≤ 12 ∧ skG hi s b n (-(s : Int))) ∧ Fr [24, 25] [] σ z ∧ z.1 24 1 = nI s) (fun lo hi _ _ => hi - lo) ?_ 1 n 0 s0 ⟨Nat.le_refl _, hn.1, Nat.le_refl _, by omega, fun W' h1 h2 => by omega, skG_top hn hs.2, hF0, e0⟩
  intro lo hi h z ⟨i1, i2, i3, i4, i5, i6, i7, i8⟩ ih
  refine bX1_skipFigures_13 (nI n) (nI lo) (nI hi) (nI h) z (fun q => absurd q (nI_ge (b := 32) (by omega) (by decide))) (fun _ q => ?_) (fun _ q => ?_)
  · have q := (nI_leI (by omega) (by omega)).mp q
    have e : hi = lo := by omega
    subst e
    refine (tX1_fewestSkipBlocks d n hi s hn (by omega) hs z i8).mono ?_
    rintro v1 s1 ⟨f1, f2, f3⟩
    rcases f3 with ⟨_, hno⟩ | ⟨b, b1, b2, hv, hg, hmin, tab⟩
    · obtain ⟨b, c1, c2, c3⟩ := i6
      exact absurd c3 (hno b c1 c2)
    · rw [hv]
      refine bX1_skipFigures_69 (nI n) (nI b) s1 ((tX1_leastSkipFigures d n hi s b hn.2 (by omega) hs b2 s1 tab hg).mono ?_)
      rintro v2 s2 ⟨⟨l, hv2, hl⟩, hs2⟩
      rw [hv2, hs2]
      exact bX1_skipFigures_73 _ s1 ⟨⟨hi, b, l, ⟨⟨i1, by omega⟩, ⟨b1, b2⟩, hg, i5, hmin, hl⟩, rfl⟩, i7.tr f1⟩
  · have q := (nI_ltI (by omega) (by omega)).mp q
    have em : (nI lo + nI hi) / 2 = nI ((lo + hi) / 2) := by rw [nI_add, i2d (by omega)]
    rw [em]
    refine (tX1_fewestSkipBlocks d n ((lo + hi) / 2) s hn (by omega) hs z i8).mono ?_
    rintro v1 s1 ⟨f1, f2, f3⟩
    rcases f3 with ⟨hv, hno⟩ | ⟨b, b1, b2, hv, hg, _, _⟩
    · rw [hv]
      refine bX1_skipFigures_41 (nI n) (nI lo) (nI hi) (nI h) (nI ((lo + hi) / 2)) 0 s1 ?_
      rw [if_pos (by decide), if_pos (by decide), nI_1, nI_1]
      refine ih ((lo + hi) / 2 + 1) hi (h + 1) s1 ⟨by omega, by omega, i3, by omega, fun W' h1 h2 b' c1 c2 hg => ?_, i6, i7.tr f1, f2⟩ (by omega)
      exact hno b' c1 c2 (skG_mono (by omega) hg)
    · rw [hv]
      have hb0 : ¬ nI b ≤ 0 := nI_nle (by omega) (by omega)
      refine bX1_skipFigures_41 (nI n) (nI lo) (nI hi) (nI h) (nI ((lo + hi) / 2)) (nI b) s1 ?_
      rw [if_neg hb0, if_neg hb0, nI_1]
      exact ih lo ((lo + hi) / 2) (h + 1) s1 ⟨i1, by omega, by omega, by omega, i5, ⟨b, b1, b2, hg⟩, i7.tr f1, f2⟩ (by omega)
theorem skBest_one {n s W b W' b' : Nat} {l l' : List Nat} (h : skBest n s W b l) (h' : skBest n s W' b' l') : W = W' ∧ b = b' ∧ l = l' := by
  obtain ⟨h1, h2, h3, h4, h5, h6⟩ := h
  obtain ⟨g1, g2, g3, g4, g5, g6⟩ := h'
  have eW : W = W' := by
    rcases Nat.lt_trichotomy W W' with q | q | q
    · exact absurd h3 (g4 W h1.1 q b h2.1 h2.2)
    · exact q
    · exact absurd g3 (h4 W' g1.1 q b' g2.1 g2.2)
  subst eW
  have eb : b = b' := by
    rcases Nat.lt_trichotomy b b' with q | q | q
    · exact absurd h3 (g5 b h2.1 q)
    · exact q
    · exact absurd g3 (h5 b' g2.1 q)
  subst eb
  exact ⟨rfl, rfl, skLst_one h6 g6⟩
end SIZESC

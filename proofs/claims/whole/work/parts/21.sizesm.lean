section SIZESM
theorem mxz_bd {f : Nat → Int} : ∀ r, (∀ z, 1 ≤ z → z ≤ r → f z ≤ 5000) → mxz f r ≤ 5000
  | 0, _ => by show (-1000 : Int) ≤ 5000; omega
  | r + 1, h => by
    have h1 := mxz_bd r (fun z a b => h z a (by omega))
    have h2 := h (r + 1) (by omega) (by omega)
    show max _ _ ≤ 5000; omega
/-- the reference's table, of either kind -/
theorem tX11_fillsBelow (d W many M : Nat) (x2 x3 : Int32) (T : Nat → Nat → Int) (rmm : Nat → Nat → Int) (ab : Nat → Nat → Nat → Nat) (hM : (if x2 = 1 then (1 : Int32) else 130) = nI M) (hM1 : 1 ≤ M ∧ M ≤ 130) (hmany : many ≤ 12)
    (hr : ∀ a m σ, a < many → m < M → rX11_roomOf (nI a) (nI m) (nI W) x2 x3 (nI many) σ = zI (rmm a m)) (hr2 : ∀ a m, a < many → m < M → -3000 ≤ rmm a m ∧ rmm a m ≤ 15)
    (ha : ∀ a m z σ, a < many → m < M → 1 ≤ z → z ≤ 15 → rX11_aboveThen (nI m) (nI a) (nI z) x2 x3 σ = nI (ab m a z) ∧ ab m a z < M)
    (hT0 : ∀ m, T 0 m = 0) (hTs : ∀ a m, T (a + 1) m = mxz (fun z => z + T a (ab m a z)) (rmm a m).toNat) (hTb : ∀ a m, a ≤ many → -4000 ≤ T a m ∧ T a m ≤ 4000) (σ : St) :
    Ct yX11_fillsBelow MX11_fillsBelow (d + 2) [.ref 88, .int (nI W), .int x2, .int x3, .int (nI many)] σ (fun v σ' => v = none ∧ Fr [103] [] σ σ' ∧ ∀ a, a ≤ many → ∀ m, m < M → σ'.1 103 (130 * a + m) = zI (T a m)) := by
  refine Ct.of mX11_fillsBelow.1 (Nat.le_of_ble_eq_true rfl) (bX11_fillsBelow_0 (nI W) x2 x3 (nI many) σ ?_)
  refine loopI1 (fun x z => Run MX11_fillsBelow (d + 2) 3 [some (.ref 88), some (.int (nI W)), some (.int x2), some (.int x3), some (.int (nI many)), some (.int x), none, none, none, none, none] [] z _) (fun k z => Fr [103] [] σ z ∧ ∀ m, m < k → z.1 103 m = 0) 130 ?_ ?_ 0 σ (by decide) ⟨Fr.rf, fun m h => absurd h (Nat.not_lt_zero m)⟩
  · intro z hz
    refine bX11_fillsBelow_3 (nI W) x2 x3 (nI many) (nI 130) z (fun q => absurd q (by decide)) (fun _ => ?_) (fun q => absurd q (by decide))
    -- rows up to a stand
    have rows : ∀ n a z, a + n = many → Fr [103] [] σ z → (∀ a', a' ≤ a → ∀ m, m < M → z.1 103 (130 * a' + m) = zI (T a' m)) → Run MX11_fillsBelow (d + 2) 28 [some (.ref 88), some (.int (nI W)), some (.int x2), some (.int x3), some (.int (nI many)), some (.int (nI (a + 1))), none, none, none, none, none] [] z (fun v σ' => v = none ∧ Fr [103] [] σ σ' ∧ ∀ a, a ≤ many → ∀ m, m < M → σ'.1 103 (130 * a + m) = zI (T a m)) := by
      intro n
      induction n with
      | zero =>
        intro a z hn hF ht
        have : a = many := by omega
        subst this
        exact bX11_fillsBelow_28 (nI W) x2 x3 (nI a) (nI (a + 1)) z (fun _ => ⟨rfl, hF, ht⟩) (fun q => absurd q (nI_ge (by omega) (by omega)))
      | succ n ih =>
        intro a z hn hF ht
        refine bX11_fillsBelow_28 (nI W) x2 x3 (nI many) (nI (a + 1)) z (fun q => absurd q (nI_nlt (by omega) (by omega))) (fun _ => ?_)
        refine loopI1 (fun x z => Run MX11_fillsBelow (d + 2) 38 [some (.ref 88), some (.int (nI W)), some (.int x2), some (.int x3), some (.int (nI many)), some (.int (nI (a + 1))), some (.int x), none, none, none, none] [] z _) (fun k z => Fr [103] [] σ z ∧ (∀ a', a' ≤ a → ∀ m, m < M → z.1 103 (130 * a' + m) = zI (T a' m)) ∧ ∀ m, m < k → z.1 103 (130 * (a + 1) + m) = zI (T (a + 1) m)) M ?_ ?_ 0 z (by omega) ⟨hF, ht, fun m h => absurd h (Nat.not_lt_zero m)⟩
        · intro z ⟨g1, g2, g3⟩
          refine bX11_fillsBelow_38 (nI W) x2 x3 (nI many) (nI (a + 1)) (nI M) z (fun _ => ?_) (fun q => absurd q (by rw [hM]; exact nI_nlt (Nat.le_refl _) (by omega)))
          rw [nI_1]
          refine ih (a + 1) z (by omega) g1 (fun a' ha' m hm => ?_)
          by_cases e : a' = a + 1
          · subst e; exact g3 m hm
          · exact g2 a' (by omega) m hm
        · intro m z hm ⟨g1, g2, g3⟩ ih2
          refine bX11_fillsBelow_38 (nI W) x2 x3 (nI many) (nI (a + 1)) (nI m) z (fun q => absurd q (by rw [hM]; exact nI_ge hm (by omega))) (fun _ => ?_)
          rw [nI_pred, hr a m z (by omega) hm]
          have hrb := hr2 a m (by omega) hm
          -- sizes
          have key : ∀ (q r : Nat), (r : Int) + q = max (rmm a m) 0 → Run MX11_fillsBelow (d + 2) 79 [some (.ref 88), some (.int (nI W)), some (.int x2), some (.int x3), some (.int (nI many)), some (.int (nI (a + 1))), some (.int (nI m)), some (.int (zI (mxz (fun z => z + T a (ab m a z)) r))), some (.int (zI (rmm a m))), some (.int (nI (r + 1))), none] [] z (fun v σ' => v = none ∧ Fr [103] [] σ σ' ∧ ∀ a, a ≤ many → ∀ m, m < M → σ'.1 103 (130 * a + m) = zI (T a m)) := by
            intro q
            induction q with
            | zero =>
              intro r hq
              have ei : (130 : Int32) * nI (a + 1) + nI m = nI (130 * (a + 1) + m) := by rw [show (130 : Int32) = nI 130 from rfl, pk_mul, nI_add]
              refine bX11_fillsBelow_79 (nI W) x2 x3 (nI many) (nI (a + 1)) (nI m) _ _ (nI (r + 1)) z (fun _ => by rw [ei]; exact vp_in_nI (by omega) (by decide)) (fun q => ?_) (fun _ => ih2 _ ?_) (fun q => ?_)
              · rw [nI_zI] at q; exact absurd ((zI_le (by omega) (by omega)).mp q) (by omega)
              · rw [ei, nI_clamp (by omega)]
                refine ⟨g1.tA (by decide) (by decide), fun a' ha' m' hm' => ?_, fun m' hm' => ?_⟩
                · rw [sA_at, upd_eq, if_neg (by omega)]; exact g2 a' ha' m' hm'
                · rw [sA_at, upd_eq]
                  by_cases e : m' = m
                  · subst e
                    rw [if_pos rfl, hTs, show (rmm a m').toNat = r by omega]
                  · rw [if_neg (by omega)]; exact g3 m' (by omega)
              · rw [nI_zI] at q; exact absurd ((zI_le (by omega) (by omega)).mp q) (by omega)
            | succ q ihq =>
              intro r hq
              obtain ⟨ea, hab⟩ := ha a m (r + 1) z (by omega) hm (by omega) (by omega)
              have hTa := hTb a (ab m a (r + 1)) (by omega)
              have ei : (130 : Int32) * (nI (a + 1) - 1) + rX11_aboveThen (nI m) (nI (a + 1) - 1) (nI (r + 1)) x2 x3 z = nI (130 * a + ab m a (r + 1)) := by
                rw [nI_pred, ea, show (130 : Int32) = nI 130 from rfl, pk_mul, nI_add]
              have hml := mxz_bd (f := fun z => z + T a (ab m a z)) r (fun z h1 h2 => by have := hTb a (ab m a z) (by omega); show (z : Int) + _ ≤ 5000; omega)
              have hmg := mxz_ge (fun z => z + T a (ab m a z)) r
              refine bX11_fillsBelow_79 (nI W) x2 x3 (nI many) (nI (a + 1)) (nI m) _ _ (nI (r + 1)) z (fun q => ?_) (fun _ => by rw [ei]; exact vp_in_nI (by omega) (by decide)) (fun q => ?_) (fun _ => ?_)
              · rw [nI_zI] at q; exact absurd ((zI_lt (by omega) (by omega)).mp q) (by omega)
              · rw [nI_zI] at q; exact absurd ((zI_lt (by omega) (by omega)).mp q) (by omega)
              · rw [ei, nI_clamp (by omega), g2 a (Nat.le_refl _) _ hab, nI_1]
                have eu : (if nI (r + 1) + zI (T a (ab m a (r + 1))) ≤ zI (mxz (fun z => z + T a (ab m a z)) r) then zI (mxz (fun z => z + T a (ab m a z)) r) else nI (r + 1) + zI (T a (ab m a (r + 1)))) = zI (mxz (fun z => z + T a (ab m a z)) (r + 1)) := by
                  rw [nI_zI, ← zI_add]
                  show _ = zI (max (mxz (fun z => z + T a (ab m a z)) r) (((r + 1 : Nat) : Int) + T a (ab m a (r + 1))))
                  by_cases c : ((r + 1 : Nat) : Int) + T a (ab m a (r + 1)) ≤ mxz (fun z => z + T a (ab m a z)) r
                  · rw [if_pos ((zI_le (by omega) (by omega)).mpr c), Int.max_eq_left c]
                  · rw [if_neg (fun q => c ((zI_le (by omega) (by omega)).mp q)), Int.max_eq_right (by omega)]
                rw [eu]
                exact ihq (r + 1) (by omega)
          exact key (max (rmm a m) 0).toNat 0 (by omega)
    refine rows many 0 z (by omega) hz.1 (fun a' ha' m hm => ?_)
    have : a' = 0 := by omega
    subst this
    rw [hT0, Nat.mul_zero, Nat.zero_add, hz.2 m (by omega)]; rfl
  · intro k z hk hz ih
    refine bX11_fillsBelow_3 (nI W) x2 x3 (nI many) (nI k) z (fun _ => vp_in_nI (by omega) (by decide)) (fun q => absurd q (nI_ge hk (by decide))) (fun _ => ih _ ⟨hz.1.tA (by decide) (by decide), fun m hm => ?_⟩)
    rw [sA_at, nI_clamp (by omega), upd_eq]
    by_cases e : m = k
    · rw [if_pos e]
    · rw [if_neg e]; exact hz.2 m (by omega)
/-! SKIP in the reference -/
theorem roomS {W s a m : Nat} (hW : W ≤ 32) (hs : s ≤ 9) (ha : a < 12) (hm : m < 130) (σ : St) (many : Int32) : rX11_roomOf (nI a) (nI m) (nI W) 0 (nI s) many σ = zI (skR W s a m) := by
  unfold rX11_roomOf
  rw [if_neg (by decide)]
  have h99 : s * a ≤ 9 * 12 := Nat.mul_le_mul hs (by omega)
  have e2 : ((s * a : Nat) : Int) = (s : Int) * a := Int.natCast_mul s a
  have ei : (if nI m = 0 then (15 : Int32) else nI W + 1 + nI s + nI s * nI a - nI m) = zI (if m = 0 then 15 else (W : Int) + 1 + s + s * a - m) := by
    by_cases h0 : m = 0
    · rw [if_pos h0, if_pos (show nI m = 0 by rw [h0]; rfl)]; rfl
    · rw [if_neg h0, if_neg (show ¬ nI m = 0 from fun q => h0 ((nI_eq (b := 0) (by omega) (by decide)).mp q)), pk_mul]
      simp only [nI_zI, zl1, ← zI_add, ← zI_sub]
      congr 1 <;> omega
  have ej : (if nI W ≤ (15 : Int32) then nI W else (15 : Int32)) = zI (min 15 (W : Int)) := by
    by_cases c : W ≤ 15
    · rw [if_pos (show nI W ≤ 15 from (nI_leI (b := 15) (by omega) (by decide)).mpr c), nI_zI]; congr 1; omega
    · rw [if_neg (show ¬ nI W ≤ 15 from fun q => c ((nI_leI (b := 15) (by omega) (by decide)).mp q)), show (15 : Int32) = zI 15 from rfl]; congr 1; omega
  rw [ei, ej]
  unfold skR
  generalize hg : (if m = 0 then (15 : Int) else (W : Int) + 1 + s + s * a - m) = g
  have hgb : -1000 ≤ g ∧ g ≤ 1000 := by rw [← hg]; split <;> omega
  by_cases c : g ≤ min 15 (W : Int)
  · rw [if_pos ((zI_le (by omega) (by omega)).mpr c), show min (min 15 (W : Int)) g = g by omega]
  · rw [if_neg (fun q => c ((zI_le (by omega) (by omega)).mp q)), show min (min 15 (W : Int)) g = min 15 (W : Int) by omega]
theorem abvS {s a m z : Nat} (hs : s ≤ 9) (ha : a < 12) (hm : m < 130) (hz : z ≤ 15) (σ : St) : rX11_aboveThen (nI m) (nI a) (nI z) 0 (nI s) σ = nI (max m (z + s * a)) ∧ max m (z + s * a) < 130 := by
  have h99 : s * a ≤ 9 * 11 := Nat.mul_le_mul hs (by omega)
  refine ⟨?_, by omega⟩
  unfold rX11_aboveThen
  rw [if_neg (by decide), pk_mul, nI_add, mxI2 (by omega) (by omega)]
theorem skR_bd {W s a m : Nat} (hs : s ≤ 9) (ha : a < 12) (hm : m < 130) : -3000 ≤ skR W s a m ∧ skR W s a m ≤ 15 := by
  have h99 : s * a ≤ 9 * 11 := Nat.mul_le_mul hs (by omega)
  have e2 : ((s * a : Nat) : Int) = (s : Int) * a := Int.natCast_mul s a
  unfold skR; split <;> omega
theorem skB_bd {W s : Nat} : ∀ {a : Nat} (m : Nat), a ≤ 12 → -4000 ≤ skB W s a m ∧ skB W s a m ≤ 4000 := by
  intro a m h
  have h1 := skB_le W s a m
  have h2 : -1000 ≤ skB W s a m ∨ a = 0 := by
    cases a with
    | zero => right; rfl
    | succ a => left; exact mxz_ge _ _
  rcases h2 with q | q
  · omega
  · subst q; show -4000 ≤ (0 : Int) ∧ (0 : Int) ≤ 4000; omega
def tabS (W s : Nat) (z : St) : Prop := ∀ a, a ≤ 12 → ∀ m, m < 130 → z.1 103 (130 * a + m) = zI (skB W s a m)
theorem fillsS (d W s : Nat) (hW : W ≤ 32) (hs : s ≤ 9) (σ : St) : Ct yX11_fillsBelow MX11_fillsBelow (d + 2) [.ref 88, .int (nI W), .int 0, .int (nI s), .int 12] σ (fun v σ' => v = none ∧ Fr [103] [] σ σ' ∧ tabS W s σ') :=
  tX11_fillsBelow d W 12 130 0 (nI s) (skB W s) (skR W s) (fun m a z => max m (z + s * a)) rfl (by decide) (by decide) (fun a m z h1 h2 => roomS hW hs h1 h2 z _) (fun a m h1 h2 => skR_bd hs h1 h2) (fun a m z z' h1 h2 h3 h4 => abvS hs h1 h2 h4 z') (fun _ => rfl) (fun _ _ => rfl) (fun a m h => skB_bd m h) σ
/-- the reference's figures -/
theorem figsS (d W s n b : Nat) (l : List Nat) (hW : 1 ≤ W ∧ W ≤ 32) (hs : 1 ≤ s ∧ s ≤ 9) (hn : n ≤ 32) (hb : b ≤ 12) (z : St) (ht : tabS W s z) (Q : Option Value → St → Prop) (hg : skG W s b n (-(s : Int))) (hl : skLst W s b n (-(s : Int)) l) (hQ : Q (some (.long (lN (fgV l)))) z) :
    Run MX11_sizes (d + 3) 172 [some (.ref 88), none, some (.int 0), some (.int (nI s)), none, none, none, none, some (.long 0), none, some (.int (nI n)), some (.int 0), some (.int (nI b - 1)), none] [] z Q := by
  have key : ∀ k left m a (l : List Nat), k ≤ b → left ≤ n → m ≤ 15 + 9 * 11 → a < 16 ^ (b - k) → skG W s k left (yOf s k m) → skLst W s k left (yOf s k m) l → Q (some (.long (lN (l.foldl (fun a z => 16 * a + z) a)))) z → Run MX11_sizes (d + 3) 172 [some (.ref 88), none, some (.int 0), some (.int (nI s)), none, none, none, none, some (.long (lN a)), none, some (.int (nI left)), some (.int (nI m)), some (.int (nI k + (-1))), none] [] z Q := by
    intro k
    induction k with
    | zero =>
      intro left m a l _ _ _ _ _ hl hQ
      have hl : l = [] := hl
      subst hl
      exact bX11_sizes_172 0 (nI s) (lN a) (nI left) (nI m) (nI 0 + (-1)) z (fun _ => hQ) (fun q => absurd q (by decide))
    | succ k ih =>
      intro left m a l hk hlf hm ha hg hl hQ
      obtain ⟨zz, r, el, hz, hmin, hrest⟩ := hl
      subst el
      have h99 : s * k ≤ 9 * 11 := Nat.mul_le_mul hs.2 (by omega)
      rw [pk_m1]
      refine bX11_sizes_172 0 (nI s) (lN a) (nI left) (nI m) (nI k) z (fun q => absurd q (nI_pos (by omega))) (fun _ => ?_)
      have inner : ∀ q y, y + q = zz → 1 ≤ y → Run MX11_sizes (d + 3) 180 [some (.ref 88), none, some (.int 0), some (.int (nI s)), none, none, none, none, some (.long (lN a)), none, some (.int (nI left)), some (.int (nI m)), some (.int (nI k)), some (.int (nI y))] [] z Q := by
        intro q
        induction q with
        | zero =>
          intro y hy hy1
          have : y = zz := by omega
          subst this
          have hG := hz.2.2.2.2.2
          rw [yOf_next hz.1] at hG
          obtain ⟨c1, c2⟩ := (skB_iff W s (by omega)).mp hG
          obtain ⟨eab, hab⟩ := abvS hs.2 (show k < 12 by omega) (show m < 130 by omega) hz.2.2.2.1 z
          have ei : (130 : Int32) * nI k + rX11_aboveThen (nI m) (nI k) (nI y) 0 (nI s) z = nI (130 * k + max m (y + s * k)) := by
            rw [eab, show (130 : Int32) = nI 130 from rfl, pk_mul, nI_add]
          have hbd := skB_bd (W := W) (s := s) (a := k) (max m (y + s * k)) (by omega)
          have hsub : nI left - nI y = nI (left - y) := pk_sub hz.2.1
          refine bX11_sizes_180 0 (nI s) (lN a) (nI left) (nI m) (nI k) (nI y) z (fun _ => by rw [ei]; exact vp_in_nI (by omega) (by decide)) (fun q => ?_) (fun _ _ => ?_) (fun _ q => ?_)
          · rw [hsub] at q; exact absurd ((nI_ltI (by omega) (by omega)).mp q) (by omega)
          · rw [hsub, eab, push4 ha (by omega) hz.2.2.2.1]
            have h16 : 16 * a + y < 16 ^ (b - k) := by
              rw [show b - k = (b - (k + 1)) + 1 by omega, Nat.pow_succ]; have := hz.2.2.2.1; omega
            rw [yOf_next hz.1] at hrest
            exact ih (left - y) (max m (y + s * k)) (16 * a + y) r (by omega) (by omega) (by have := hz.2.2.2.1; omega) h16 hG hrest hQ
          · rw [ei, hsub, nI_clamp (by omega), ht k (by omega) _ hab, nI_zI] at q
            exact absurd ((zI_lt (by omega) (by omega)).mp q) (by omega)
        | succ q ihq =>
          intro y hy hy1
          have hz15 := hz.2.2.2.1
          have hzl := hz.2.1
          obtain ⟨eab, hab⟩ := abvS hs.2 (show k < 12 by omega) (show m < 130 by omega) (show y ≤ 15 by omega) z
          have ei : (130 : Int32) * nI k + rX11_aboveThen (nI m) (nI k) (nI y) 0 (nI s) z = nI (130 * k + max m (y + s * k)) := by
            rw [eab, show (130 : Int32) = nI 130 from rfl, pk_mul, nI_add]
          have hbd := skB_bd (W := W) (s := s) (a := k) (max m (y + s * k)) (by omega)
          have hsub : nI left - nI y = nI (left - y) := pk_sub (by omega)
          have nx : Run MX11_sizes (d + 3) 180 [some (.ref 88), none, some (.int 0), some (.int (nI s)), none, none, none, none, some (.long (lN a)), none, some (.int (nI left)), some (.int (nI m)), some (.int (nI k)), some (.int (nI y + 1))] [] z Q := by
            rw [nI_1]; exact ihq (y + 1) (by omega) (by omega)
          refine bX11_sizes_180 0 (nI s) (lN a) (nI left) (nI m) (nI k) (nI y) z (fun _ => by rw [ei]; exact vp_in_nI (by omega) (by decide)) (fun _ => nx) (fun q1 q2 => ?_) (fun _ _ => nx)
          exfalso
          rw [hsub] at q1
          have q1 := (nI_leI (by omega) (by omega)).mp q1
          rw [ei, hsub, nI_clamp (by omega), ht k (by omega) _ hab, nI_zI] at q2
          have q2 := (zI_le (by omega) (by omega)).mp q2
          refine hmin y hy1 (by omega) ⟨by omega, by have := hz.2.2.1; omega, by omega, by have := hz.2.2.2.2.1; omega, ?_⟩
          rw [yOf_next hy1]
          exact (skB_iff W s (by omega)).mpr ⟨q1, q2⟩
      exact inner (zz - 1) 1 (by have := hz.1; omega) (Nat.le_refl _)
  have e1 : nI b - 1 = nI b + (-1) := by
    show nI b - 1 = nI b + (-1)
    (simp only [nI_zI, zl0, zl1, zl2, zl3, zl4, zl5, zl6, zl7, zl8, zl9, zl10, zl11, zl12, zl13, zl14, zl15, zl16, zl24, zl30, zl31, zl32, zl48, zl56, zl57, zl60, zl63, zl99, zl100, zl130, zl199, zl200, zl240, zl999, zl1000, ← zI_add, ← zI_sub, ← zI_mul, ← zI_neg] <;> first | rfl | (congr 1; omega))
  rw [e1]
  exact key b n 0 0 l (Nat.le_refl _) (Nat.le_refl _) (by omega) (Nat.pow_pos (by decide)) (by unfold yOf; rw [if_pos rfl]; exact hg) (by unfold yOf; rw [if_pos rfl]; exact hl) hQ
/-- the reference's answer for SKIP -/
theorem refSkip (d n s W b : Nat) (l : List Nat) (hn : 1 ≤ n ∧ n ≤ 32) (hs : 1 ≤ s ∧ s ≤ 9) (hB : skBest n s W b l) (x4 : Int32) (σ : St) : Run MX11_sizes (d + 3) 62 [some (.ref 88), some (.int (nI n)), some (.int 0), some (.int (nI s)), some (.int x4), some (.int 0), some (.int 0), some (.int 0), none, none, none, none, none, none] [] σ (fun v2 σ2 => v2 = some (.long (if x4 = 0 then (nI W).toInt64 else lN (fgV l))) ∧ Fr [103] [] σ σ2) := by
  obtain ⟨hW, hb, hg, hWmin, hbmin, hl⟩ := hB
  have hbn : b ≤ n := skG_len hg
  have hL : (if nI n ≤ (12 : Int32) then nI n else (12 : Int32)) = nI (min n 12) := by
    rw [show (12 : Int32) = nI 12 from rfl]
    by_cases c : n ≤ 12
    · rw [if_pos ((nI_leI (by omega) (by decide)).mpr c), Nat.min_eq_left c]
    · rw [if_neg (fun q => c ((nI_leI (by omega) (by decide)).mp q)), Nat.min_eq_right (by omega)]
  have iff : ∀ W' b', 1 ≤ b' → b' ≤ min n 12 → (skG W' s b' n (-(s : Int)) ↔ (n : Int) ≤ skB W' s b' 0) := fun W' b' h1 h2 => by
    have := skB_iff W' s (a := b') (t := n) (m := 0) (by omega)
    rw [show yOf s b' 0 = -(s : Int) from if_pos rfl] at this
    rw [this]; exact ⟨fun h => h.2, fun h => ⟨by omega, h⟩⟩
  -- one WORST
  have scan : ∀ w z, 1 ≤ w → w ≤ W → Fr [103] [] σ z → (w < W → ∀ z', Fr [103] [] σ z' → Run MX11_sizes (d + 3) 62 [some (.ref 88), some (.int (nI n)), some (.int 0), some (.int (nI s)), some (.int x4), some (.int (nI w)), some (.int (nI (min n 12))), some (.int 0), none, none, none, none, none, none] [] z' (fun v2 σ2 => v2 = some (.long (if x4 = 0 then (nI W).toInt64 else lN (fgV l))) ∧ Fr [103] [] σ σ2)) → Run MX11_sizes (d + 3) 73 [some (.ref 88), some (.int (nI n)), some (.int 0), some (.int (nI s)), some (.int x4), some (.int (nI w)), some (.int 0), some (.int 0), none, none, none, none, none, none] [] z (fun v2 σ2 => v2 = some (.long (if x4 = 0 then (nI W).toInt64 else lN (fgV l))) ∧ Fr [103] [] σ σ2) := by
    intro w z hw1 hwW hF hnext
    -- behind many BLOCKS tried
    have go : ∀ q k z, k + q = min n 12 → 1 ≤ k → Fr [103] [] σ z → tabS w s z → (∀ b', 1 ≤ b' → b' < k → ¬ skG w s b' n (-(s : Int))) → Run MX11_sizes (d + 3) 73 [some (.ref 88), some (.int (nI n)), some (.int 0), some (.int (nI s)), some (.int x4), some (.int (nI w)), some (.int (nI k)), some (.int (bI (nI n ≤ z.1 103 ((130 : Int32) * nI k).toNatClampNeg))), none, none, none, none, none, none] [] z (fun v2 σ2 => v2 = some (.long (if x4 = 0 then (nI W).toInt64 else lN (fgV l))) ∧ Fr [103] [] σ σ2) := by
      intro q
      induction q with
      | zero =>
        intro k z hk hk1 hFz ht hno
        have hbd := skB_bd (W := w) (s := s) (a := k) 0 (by omega)
        have ev : z.1 103 ((130 : Int32) * nI k).toNatClampNeg = zI (skB w s k 0) := by
          rw [show (130 : Int32) * nI k = nI (130 * k) from pk_mul 130 k, nI_clamp (by omega)]; exact ht k (by omega) 0 (by decide)
        have ec : (nI n ≤ z.1 103 ((130 : Int32) * nI k).toNatClampNeg) ↔ skG w s k n (-(s : Int)) := by
          rw [ev, iff w k hk1 (by omega), nI_zI]; exact zI_le (by omega) (by omega)
        by_cases c : skG w s k n (-(s : Int))
        · rw [bI_pos (ec.mpr c)]
          refine bX11_sizes_73 (nI n) 0 (nI s) x4 (nI w) (nI k) 1 z (fun q => absurd q (by decide)) (fun _ => ?_) (fun q => absurd q (by decide)) (fun q => absurd q (by decide)) (fun q => absurd q (by decide)) (fun q => absurd q (by decide))
          have ewW : w = W := by
            rcases (show w < W ∨ w = W by omega) with h | h
            · exact absurd c (hWmin w hw1 h k hk1 (by omega))
            · exact h
          subst ewW
          have ekb : k = b := by
            rcases Nat.lt_trichotomy k b with h | h | h
            · exact absurd c (hbmin k hk1 h)
            · exact h
            · exact absurd hg (hno b hb.1 h)
          subst ekb
          refine bX11_sizes_62 (nI n) 0 (nI s) x4 (nI w) (nI k) 1 z (fun _ q => ?_) (fun _ q => ⟨by rw [if_pos q], hFz⟩) (fun q => absurd q (by decide))
          exact figsS d w s n k l hW hs hn.2 (by omega) z ht _ hg hl ⟨by rw [if_neg q], hFz⟩
        · rw [bI_neg (fun h => c (ec.mp h))]
          refine bX11_sizes_73 (nI n) 0 (nI s) x4 (nI w) (nI k) 0 z (fun _ q => absurd q (by rw [hL]; exact nI_nlt (by omega) (by omega))) (fun q => absurd rfl q) (fun _ _ => ?_) (fun _ q => absurd q (by rw [hL]; exact nI_nlt (by omega) (by omega))) (fun _ q => absurd q (by rw [hL]; exact nI_nlt (by omega) (by omega))) (fun _ q => absurd q (by rw [hL]; exact nI_nlt (by omega) (by omega)))
          have hlt : w < W := by
            rcases (show w < W ∨ w = W by omega) with h | h
            · exact h
            · subst h
              rcases (show b < k ∨ b = k by omega) with h2 | h2
              · exact absurd hg (hno b hb.1 h2)
              · subst h2; exact absurd hg c
          rw [show k = min n 12 by omega]
          exact hnext hlt z hFz
      | succ q ihq =>
        intro k z hk hk1 hFz ht hno
        have hbd := skB_bd (W := w) (s := s) (a := k) 0 (by omega)
        have ev : z.1 103 ((130 : Int32) * nI k).toNatClampNeg = zI (skB w s k 0) := by
          rw [show (130 : Int32) * nI k = nI (130 * k) from pk_mul 130 k, nI_clamp (by omega)]; exact ht k (by omega) 0 (by decide)
        have ec : (nI n ≤ z.1 103 ((130 : Int32) * nI k).toNatClampNeg) ↔ skG w s k n (-(s : Int)) := by
          rw [ev, iff w k hk1 (by omega), nI_zI]; exact zI_le (by omega) (by omega)
        by_cases c : skG w s k n (-(s : Int))
        · rw [bI_pos (ec.mpr c)]
          refine bX11_sizes_73 (nI n) 0 (nI s) x4 (nI w) (nI k) 1 z (fun q => absurd q (by decide)) (fun _ => ?_) (fun q => absurd q (by decide)) (fun q => absurd q (by decide)) (fun q => absurd q (by decide)) (fun q => absurd q (by decide))
          have ewW : w = W := by
            rcases (show w < W ∨ w = W by omega) with h | h
            · exact absurd c (hWmin w hw1 h k hk1 (by omega))
            · exact h
          subst ewW
          have ekb : k = b := by
            rcases Nat.lt_trichotomy k b with h | h | h
            · exact absurd c (hbmin k hk1 h)
            · exact h
            · exact absurd hg (hno b hb.1 h)
          subst ekb
          refine bX11_sizes_62 (nI n) 0 (nI s) x4 (nI w) (nI k) 1 z (fun _ q => ?_) (fun _ q => ⟨by rw [if_pos q], hFz⟩) (fun q => absurd q (by decide))
          exact figsS d w s n k l hW hs hn.2 (by omega) z ht _ hg hl ⟨by rw [if_neg q], hFz⟩
        · rw [bI_neg (fun h => c (ec.mp h))]
          have hk12 : ¬ nI (k + 1) = 1 := fun q => by have := (nI_eq (b := 1) (by omega) (by decide)).mp q; omega
          refine bX11_sizes_73 (nI n) 0 (nI s) x4 (nI w) (nI k) 0 z (fun _ _ _ _ => by rw [nI_1, show (130 : Int32) * nI (k + 1) = nI (130 * (k + 1)) from pk_mul 130 _]; exact vp_in_nI (by omega) (by decide)) (fun q => absurd rfl q) (fun _ q => absurd q (by rw [hL]; exact nI_ge (by omega) (by omega))) (fun _ _ q => absurd q (by decide)) (fun _ _ _ _ => ?_) (fun _ _ _ q => absurd q (by rw [nI_1]; exact hk12))
          rw [nI_1]
          exact ihq (k + 1) z (by omega) (by omega) hFz ht (fun b' h1 h2 => by
            by_cases e : b' = k
            · rw [e]; exact c
            · exact hno b' h1 (by omega))
    refine bX11_sizes_73 (nI n) 0 (nI s) x4 (nI w) 0 0 z (fun _ _ _ q => absurd (by decide) q) (fun q => absurd rfl q) (fun _ q => absurd q (by rw [hL]; exact nI_ge (a := 0) (by omega) (by omega))) (fun _ _ q => absurd q (by decide)) (fun _ _ _ q => absurd (by decide) q) (fun _ _ _ _ => ?_)
    rw [if_neg (by decide)]
    refine (fillsS d w s (by omega) hs.2 z).mono ?_
    rintro v1 s1 ⟨hv, hF1, ht⟩
    rw [hv]
    refine bX11_sizes_123 (nI n) 0 (nI s) x4 (nI w) (0 + 1) s1 (by exact vp_lit rfl rfl) ?_
    exact go (min n 12 - 1) 1 s1 (by omega) (Nat.le_refl _) (hF.tr hF1) ht (fun b' h1 h2 => by omega)
  have outer : ∀ q w x6 z, w + q = W → w < W → Fr [103] [] σ z → Run MX11_sizes (d + 3) 62 [some (.ref 88), some (.int (nI n)), some (.int 0), some (.int (nI s)), some (.int x4), some (.int (nI w)), some (.int x6), some (.int 0), none, none, none, none, none, none] [] z (fun v2 σ2 => v2 = some (.long (if x4 = 0 then (nI W).toInt64 else lN (fgV l))) ∧ Fr [103] [] σ σ2) := by
    intro q
    induction q with
    | zero => intro w x6 z h1 h2; omega
    | succ q ih =>
      intro w x6 z h1 h2 hF
      refine bX11_sizes_62 (nI n) 0 (nI s) x4 (nI w) x6 0 z (fun q => absurd rfl q) (fun q => absurd rfl q) (fun _ => ?_)
      rw [nI_1]
      exact scan (w + 1) z (by omega) (by omega) hF (fun hlt z' hF' => ih (w + 1) _ z' (by omega) hlt hF')
  exact outer W 0 0 σ (by omega) (by omega) Fr.rf
end SIZESM

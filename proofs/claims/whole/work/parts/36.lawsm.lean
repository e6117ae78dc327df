/-! LAWS in the reference -/
section LAWSM
def pf (kind r i : Nat) : Bool := match kind with
  | 0 => true
  | 1 => decide (i / 2 ^ r % 2 = 1)
  | 2 => decide (i % 2 = 1)
  | _ => decide (i % 2 = 0)
theorem pf_a : ∀ r, r < 5 → ∀ i, i < 32 → (((nI i >>> (nI r &&& 31)) &&& 1) = 1 ↔ pf 1 r i = true) := by decide +kernel
theorem pf_b : ∀ i, i < 32 → ((nI i - nI i / 2 * 2) = 1 ↔ decide (i % 2 = 1) = true) := by decide +kernel
theorem pf_c : ∀ i, i < 32 → ((nI i - nI i / 2 * 2) = 0 ↔ decide (i % 2 = 0) = true) := by decide +kernel
theorem pf_iff : ∀ kind, kind < 4 → ∀ r, r < 5 → ∀ i, i < 32 → (nI kind = 0 ∨ ((nI kind = 1 ∧ (((nI i >>> (nI r &&& 31)) &&& 1) = 1 ∨ ((nI kind = 2 ∧ ((nI i - nI i / 2 * 2) = 1 ∨ (nI kind = 3 ∧ (nI i - nI i / 2 * 2) = 0))) ∨ ((¬ nI kind = 2) ∧ (nI kind = 3 ∧ (nI i - nI i / 2 * 2) = 0))))) ∨ ((¬ nI kind = 1) ∧ ((nI kind = 2 ∧ ((nI i - nI i / 2 * 2) = 1 ∨ (nI kind = 3 ∧ (nI i - nI i / 2 * 2) = 0))) ∨ ((¬ nI kind = 2) ∧ (nI kind = 3 ∧ (nI i - nI i / 2 * 2) = 0))))) ↔ pf kind r i = true) := by
  intro kind hk r hr i hi
  have a1 := pf_a r hr i hi
  have a2 := pf_b i hi
  have a3 := pf_c i hi
  have : kind = 0 ∨ kind = 1 ∨ kind = 2 ∨ kind = 3 := by omega
  rcases this with rfl | rfl | rfl | rfl
  · exact ⟨fun _ => rfl, fun _ => .inl rfl⟩
  · constructor
    · rintro (q | ⟨_, (q | ⟨q, _⟩ | ⟨_, q, _⟩)⟩ | ⟨q, _⟩)
      · exact absurd q (by decide)
      · exact a1.mp q
      · exact absurd q (by decide)
      · exact absurd q (by decide)
      · exact absurd rfl q
    · exact fun q => .inr (.inl ⟨rfl, .inl (a1.mpr q)⟩)
  · constructor
    · rintro (q | ⟨q, _⟩ | ⟨_, (⟨_, (q | ⟨q, _⟩)⟩ | ⟨q, _⟩)⟩)
      · exact absurd q (by decide)
      · exact absurd q (by decide)
      · exact a2.mp q
      · exact absurd q (by decide)
      · exact absurd rfl q
    · exact fun q => .inr (.inr ⟨by decide, .inl ⟨rfl, .inl (a2.mpr q)⟩⟩)
  · constructor
    · rintro (q | ⟨q, _⟩ | ⟨_, (⟨q, _⟩ | ⟨_, _, q⟩)⟩)
      · exact absurd q (by decide)
      · exact absurd q (by decide)
      · exact absurd q (by decide)
      · exact a3.mp q
    · exact fun q => .inr (.inr ⟨by decide, .inr ⟨by decide, rfl, a3.mpr q⟩⟩)
theorem mk_zero {f : Nat → Bool} : ∀ {j : Nat}, (∀ i, i < j → f i = false) → mk f j = 0
  | 0, _ => rfl
  | j + 1, h => by show (if f j = true then _ else mk f j) = 0; rw [if_neg (by rw [h j (by omega)]; decide), mk_zero (fun i hi => h i (by omega))]
theorem or_if {A i : Nat} {c : Prop} [Decidable c] {b : Bool} (hi : i < 32) (h : c ↔ b = true) : lN A ||| (if c then ((1 : Int64) <<< ((nI i).toInt64 &&& 63)) else 0) = lN (if b = true then A ||| 2 ^ i else A) := by
  by_cases q : c
  · rw [if_pos q, if_pos (h.mp q), shl1 (by omega), fb_orL]
  · rw [if_neg q, if_neg (fun t => q (h.mpr t))]
    exact (fb_orL _ 0).trans (by rw [Nat.or_zero])
theorem tX11_placesFrom (d N n least kind r : Nat) (hN : N < 8) (hn : n ≤ 32) (hl : least ≤ n) (hk : kind < 4) (hr : r < 5) (σ : St) (h0 : σ.1 88 0 = nI N) (hw : σ.1 89 N = nI n) : Ct yX11_placesFrom MX11_placesFrom d [.ref 88, .int (nI least), .int (nI kind), .int (nI r)] σ (fun v σ' => v = some (.long (lN (mk (fun i => decide (least ≤ i) && pf kind r i) n))) ∧ σ' = σ) := by
  have w89 : σ.1 89 (σ.1 88 0).toNatClampNeg = nI n := by rw [h0, nI_clamp (by omega)]; exact hw
  refine Ct.of mX11_placesFrom.1 (Nat.le_of_ble_eq_true rfl) (bX11_placesFrom_0 (nI least) (nI kind) (nI r) σ ?_)
  refine loopI1 (fun x a => Run MX11_placesFrom d 6 [some (.ref 88), none, some (.int (nI kind)), some (.int (nI r)), some (.long a), none, some (.int x), none] [] σ _) (fun j a => least ≤ j ∧ a = lN (mk (fun i => decide (least ≤ i) && pf kind r i) j)) n ?_ ?_ least 0 hl ⟨Nat.le_refl _, ?_⟩
  · rintro a ⟨_, ha⟩
    exact bX11_placesFrom_6 _ _ a (nI n) σ (by rw [h0]; exact vp_in_nI hN (by decide)) (fun _ => ⟨by rw [ha], rfl⟩) (fun q => absurd q (by rw [w89]; exact nI_nlt (Nat.le_refl _) (by omega)))
  · rintro j a hj ⟨hlj, ha⟩ ih
    refine bX11_placesFrom_6 _ _ a (nI j) σ (by rw [h0]; exact vp_in_nI hN (by decide)) (fun q => absurd q (by rw [w89]; exact nI_ge hj (by omega))) (fun _ => ih _ ⟨by omega, ?_⟩)
    rw [ha, or_if (show j < 32 by omega) (pf_iff kind hk r hr j (by omega))]
    show lN _ = lN (if (decide (least ≤ j) && pf kind r j) = true then _ else _)
    rw [decide_eq_true hlj, Bool.true_and]
  · rw [mk_zero (fun i hi => by rw [decide_eq_false (by omega)]; rfl)]; rfl
/-- the NET under way in the reference -/
def nMS (N n : Nat) (σ : St) (p : Nat × (Nat → Nat)) (s : St) : Prop := mN N n p.1 p.2 s ∧ rL s (lw p.2 p.1) ∧ Fm N σ s
theorem nMS.comes {N n : Nat} {σ : St} {p : Nat × (Nat → Nat)} {s : St} (d c : Nat) (hN : N < 8) (hc : c < 2 ^ 32) (hok : okN n p.1 p.2) (hp : p.1 < 32) (h0 : σ.1 88 0 = nI N) (h : nMS N n σ p s) : Ct yX11_comes MX11_comes (d + 1) [.ref 88, .long (lN c)] s (fun v σ' => v = none ∧ nMS N n σ (ad n p c) σ') := by
  refine (tX11_comes d N n p.1 p.2 c hN hc hok hp s (by rw [h.2.2.1.2.1 0 (by decide)]; exact h0) h.1 h.2.1).mono ?_
  rintro v s2 ⟨hv, a, b, c⟩
  exact ⟨hv, a, b, h.2.2.tr c⟩
theorem up_iff : ∀ r, r < 5 → ∀ i, i < 32 → (((nI i + 1) - (nI i + 1) / ((1 : Int32) <<< ((nI r + 1) &&& 31)) * ((1 : Int32) <<< ((nI r + 1) &&& 31))) = 0 ↔ hb 3 r i = true) := by decide +kernel
theorem dn_iff : ∀ r, r < 5 → ∀ i, i < 32 → ((((nI i + 1) - (nI i + 1) / ((1 : Int32) <<< (nI r &&& 31)) * ((1 : Int32) <<< (nI r &&& 31))) = 0 ∧ (((nI i + 1) >>> (nI r &&& 31)) - ((nI i + 1) >>> (nI r &&& 31)) / 2 * 2) = 1) ↔ (i + 1) % 2 ^ (r + 1) = 2 ^ r) := by decide +kernel
theorem sh_ne : ∀ r, r < 7 → ¬ ((1 : Int32) <<< (nI r &&& 31)) = 0 := by decide +kernel
theorem sh_s : ∀ r, r < 6 → ((1 : Int32) <<< ((nI r + 1) &&& 31)) = nI (2 ^ (r + 1)) := by decide +kernel
theorem if_if {c e : Prop} [Decidable c] [Decidable e] {x : Int64} : (if c then (if e then x else 0) else 0) = if c ∧ e then x else 0 := by
  by_cases h : c
  · by_cases h2 : e
    · rw [if_pos h, if_pos h2, if_pos ⟨h, h2⟩]
    · rw [if_pos h, if_neg h2, if_neg (fun q => h2 q.2)]
  · rw [if_neg h, if_neg (fun q => h q.1)]
theorem tX11_upAndDown (d N n : Nat) (σ : St) (p : Nat × (Nat → Nat)) (s0 : St) (hN : N < 8) (hok : okN n p.1 p.2) (hp : p.1 = 0) (h0 : σ.1 88 0 = nI N) (h : nMS N n σ p s0) : Ct yX11_upAndDown MX11_upAndDown (d + 2) [.ref 88, .int (nI n)] s0 (fun v σ' => v = none ∧ nMS N n σ (pV n p) σ') := by
  have n32 := hok.2.1
  have n2 := hok.1
  obtain ⟨u5, un⟩ := uU_2 n (by omega)
  obtain ⟨oU1, oU2⟩ := sq_ok (f := fun r => mk (hb 3 r) n) hok (uU n) (by omega)
  refine Ct.of mX11_upAndDown.1 (Nat.le_of_ble_eq_true rfl) (bX11_upAndDown_0 (nI n) s0 ?_)
  have down : ∀ i s, i ≤ uU n → nMS N n σ (sq n (fun j => mk (hb 4 (uU n - 1 - j)) n) (sq n (fun r => mk (hb 3 r) n) p (uU n)) (uU n - i)) s → Run MX11_upAndDown (d + 2) 73 [some (.ref 88), some (.int (nI n)), none, some (.int (nI i + (-1))), none, none, none] [] s (fun v σ' => v = none ∧ nMS N n σ (pV n p) σ') := by
    intro i
    induction i with
    | zero =>
      intro s _ h1
      exact bX11_upAndDown_73 _ _ s (fun _ => ⟨rfl, h1⟩) (fun q => absurd q (by decide))
    | succ i ih =>
      intro s hi h1
      rw [pk_m1]
      refine bX11_upAndDown_73 _ _ s (fun q => absurd q (nI_pos (by omega))) (fun _ => ?_)
      obtain ⟨o1, o2⟩ := sq_ok (f := fun j => mk (hb 4 (uU n - 1 - j)) n) oU1 (uU n - (i + 1)) (by omega)
      have le := (uU_1 n (by omega) i (by omega)).mp (by omega)
      rw [sh_s i (by omega)]
      refine loopI1 (fun x a => Run MX11_upAndDown (d + 2) 87 [some (.ref 88), some (.int (nI n)), none, some (.int (nI i)), some (.long a), none, some (.int x)] [] s _) (fun j a => 2 ^ (i + 1) ≤ j ∧ a = lN (mk (hb 4 i) j)) n ?_ ?_ (2 ^ (i + 1)) 0 le ⟨Nat.le_refl _, ?_⟩
      · rintro a ⟨_, ha⟩
        refine bX11_upAndDown_87 (nI n) (nI i) a (nI n) s (fun q => absurd q (nI_nlt (Nat.le_refl _) (by omega))) (fun _ => ?_) (fun q => absurd q (nI_nlt (Nat.le_refl _) (by omega)))
        rw [ha]
        refine (h1.comes d (mk (hb 4 i) n) hN (mk_lt _ n32) o1 (by omega) h0).mono ?_
        rintro v s2 ⟨hv, h2⟩
        rw [hv]
        refine bX11_upAndDown_141 _ _ s2 (ih s2 (by omega) ?_)
        have e : uU n - i = uU n - (i + 1) + 1 := by omega
        have e2 : uU n - 1 - (uU n - (i + 1)) = i := by omega
        rw [e]
        show nMS N n σ (ad n (sq n _ _ (uU n - (i + 1))) (mk (hb 4 (uU n - 1 - (uU n - (i + 1)))) n)) s2
        rw [e2]
        exact h2
      · rintro j a hj ⟨hlj, ha⟩ ih2
        refine bX11_upAndDown_87 (nI n) (nI i) a (nI j) s (fun _ => sh_ne i (by omega)) (fun q => absurd q (nI_ge hj (by omega))) (fun _ => ih2 _ ⟨by omega, ?_⟩)
        rw [if_if, ha, or_if (b := hb 4 i j) (show j < 32 by omega) ((dn_iff i (by omega) j (by omega)).trans ?_)]
        · rfl
        · show _ ↔ decide _ = true
          rw [decide_eq_true_iff]
          exact ⟨fun q => ⟨q, hlj⟩, fun q => q.1⟩
      · rw [mk_zero (fun q hq => by show decide _ = false; rw [decide_eq_false]; omega)]; rfl
  have top : ∀ f j x2 s, j + f = uU n → x2 = nI j + (-1) → nMS N n σ (sq n (fun r => mk (hb 3 r) n) p j) s → Run MX11_upAndDown (d + 2) 4 [some (.ref 88), some (.int (nI n)), some (.int x2), some (.int (nI j)), none, none, none] [] s (fun v σ' => v = none ∧ nMS N n σ (pV n p) σ') := by
    intro f
    induction f with
    | zero =>
      intro j x2 s hj hx h1
      have e : j = uU n := by omega
      subst e
      refine bX11_upAndDown_4 (nI n) x2 (nI (uU n)) s (fun _ => ?_) (fun q => ?_)
      · rw [hx]
        exact down (uU n) s (Nat.le_refl _) (by rw [Nat.sub_self]; exact h1)
      · rw [sh_s _ (by omega)] at q
        have : 2 ^ (uU n + 1) ≤ 2 ^ 6 := Nat.pow_le_pow_right (by decide) (by omega)
        exact absurd q (nI_ge un (by omega))
    | succ f ihf =>
      intro j x2 s hj hx h1
      obtain ⟨o1, o2⟩ := sq_ok (f := fun r => mk (hb 3 r) n) hok j (by omega)
      have lt := (uU_1 n (by omega) j (by omega)).mp (by omega)
      refine bX11_upAndDown_4 (nI n) x2 (nI j) s (fun q => ?_) (fun _ => ?_)
      · rw [sh_s _ (by omega)] at q
        exact absurd q (nI_nlt lt (by omega))
      · refine loopI1 (fun x a => Run MX11_upAndDown (d + 2) 19 [some (.ref 88), some (.int (nI n)), none, some (.int (nI j)), some (.long a), none, some (.int x)] [] s _) (fun i a => a = lN (mk (hb 3 j) i)) n ?_ ?_ 0 0 (by omega) rfl
        · intro a ha
          refine bX11_upAndDown_19 (nI n) (nI j) a (nI n) s (fun q => absurd q (nI_nlt (Nat.le_refl _) (by omega))) (fun _ => ?_) (fun q => absurd q (nI_nlt (Nat.le_refl _) (by omega)))
          rw [ha]
          refine (h1.comes d (mk (hb 3 j) n) hN (mk_lt _ n32) o1 (by omega) h0).mono ?_
          rintro v s2 ⟨hv, h2⟩
          rw [hv]
          refine bX11_upAndDown_63 _ _ s2 ?_
          rw [← nI_succ]
          exact ihf (j + 1) (nI j) s2 (by omega) (pk_m1 j).symm h2
        · intro i a hi ha ih2
          refine bX11_upAndDown_19 (nI n) (nI j) a (nI i) s (fun _ => by rw [← nI_succ]; exact sh_ne (j + 1) (by omega)) (fun q => absurd q (nI_ge hi (by omega))) (fun _ => ih2 _ ?_)
          rw [ha, or_if (show i < 32 by omega) (up_iff j (by omega) i (by omega))]; rfl
  exact top (uU n) 0 (-1) s0 (by omega) rfl h
end LAWSM

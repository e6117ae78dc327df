/-! TEXT: the class's tokens -/
section TOK
/-- the figures from p on up to i, two at most -/
def vl (B : Nat → Nat) (p i : Nat) : Nat := if i ≤ p then 0 else if i = p + 1 then B p - 48 else 10 * (B p - 48) + (B (p + 1) - 48)
def kp (σ s : St) : Prop := s.1 2 0 = σ.1 2 0 ∧ s.1 2 1 = σ.1 2 1 ∧ Fr [2] [] σ s
theorem tX9_readNumber (d p q T : Nat) (B : Nat → Nat) (σ0 σ : St) (h : tB B T σ0) (k0 : kp σ0 σ) (h3 : σ.1 2 3 = nI p) (h5 : σ.1 2 5 = nI p) (hq : isF (fgr B) T p q) (hp : p ≤ 240) : Ct yX9_readNumber MX9_readNumber (d + 1) [.ref 2] σ (fun v σ' => v = none ∧ kp σ0 σ' ∧ σ'.1 2 3 = nI q ∧ σ'.1 2 4 = (if q ≤ p + 2 then -2 else -3) ∧ σ'.1 2 5 = nI p ∧ (q ≤ p + 2 → σ'.1 2 6 = nI (vl B p q))) := by
  have hT := h.1
  have hB : ∀ i, i < T → B i < 256 := fun i hi => (h.2.2.2 i hi).1
  have q240 : q ≤ 240 := by have := isF_le hq; omega
  refine Ct.of mX9_readNumber.1 (Nat.le_of_ble_eq_true rfl) (bX9_readNumber_0 σ ?_)
  have key : ∀ f i s, i + f = q → p ≤ i → kp σ0 s → s.1 2 3 = nI i → s.1 2 5 = nI p → (i ≤ p + 2 → s.1 2 6 = nI (vl B p i)) → Run MX9_readNumber (d + 1) 5 [some (.ref 2)] [] s (fun v σ' => v = none ∧ kp σ0 σ' ∧ σ'.1 2 3 = nI q ∧ σ'.1 2 4 = (if q ≤ p + 2 then -2 else -3) ∧ σ'.1 2 5 = nI p ∧ (q ≤ p + 2 → σ'.1 2 6 = nI (vl B p q))) := by
    intro f
    induction f with
    | zero =>
      intro i s hi hpi hk e3 e5 e6
      have e : i = q := by omega
      subst e
      have ec := chC (p := i) (s := s) h hk.1 (hk.2.2.1 3 (by decide) (by decide)) (by omega)
      have fin : (fun (v : Option Value) (σ' : St) => v = none ∧ kp σ0 σ' ∧ σ'.1 2 3 = nI i ∧ σ'.1 2 4 = (if i ≤ p + 2 then -2 else -3) ∧ σ'.1 2 5 = nI p ∧ (i ≤ p + 2 → σ'.1 2 6 = nI (vl B p i))) none (sA s 2 (upd (s.1 2) 4 (if (s.1 2 3 - s.1 2 5) ≤ 2 then (-2 : Int32) else (-3)))) := by
        refine ⟨rfl, ⟨?_, ?_, hk.2.2.tA (by decide) (by decide)⟩, ?_, ?_, ?_, fun t => ?_⟩
        · rw [sA_at, upd_eq, if_neg (by decide)]; exact hk.1
        · rw [sA_at, upd_eq, if_neg (by decide)]; exact hk.2.1
        · rw [sA_at, upd_eq, if_neg (by decide)]; exact e3
        · rw [sA_at, upd_eq, if_pos rfl, e3, e5, pk_sub hpi]
          have le : nI (i - p) ≤ (2 : Int32) ↔ i ≤ p + 2 := by
            rw [show (2 : Int32) = nI 2 from rfl, nI_leI (by omega) (by decide)]; omega
          by_cases c : i ≤ p + 2
          · rw [if_pos (le.mpr c), if_pos c]
          · rw [if_neg (fun t => c (le.mp t)), if_neg c]
        · rw [sA_at, upd_eq, if_neg (by decide)]; exact e5
        · rw [sA_at, upd_eq, if_neg (by decide)]; exact e6 t
      refine bX9_readNumber_5 s (fun _ _ _ t => by rw [e3] at t ⊢; exact vp_in_nI ((nI_ltI (b := 240) (by omega) (by decide)).mp t) (by decide)) (fun _ => fin) (fun _ _ => fin) (fun _ t => ?_)
      rw [e3, ec] at t
      exact absurd ((ch_fgr hB).mp t) hq.2.2
    | succ f ih =>
      intro i s hi hpi hk e3 e5 e6
      have ec := chC (p := i) (s := s) h hk.1 (hk.2.2.1 3 (by decide) (by decide)) (by omega)
      have hf := hq.2.1 i hpi (by omega)
      have hg := (ch_fgr hB).mpr hf
      have ei : ch B T i = nI (B i) := if_pos hf.1
      have hb1 := hf.2.1
      have hb2 := hf.2.2
      refine bX9_readNumber_5 s (fun _ _ _ t => by rw [e3] at t ⊢; exact vp_in_nI ((nI_ltI (b := 240) (by omega) (by decide)).mp t) (by decide)) (fun t => ?_) (fun _ t => ?_) (fun _ t => ?_)
      · rw [e3, hk.1, h.2.1] at t; exact absurd t (nI_ge hf.1 (by omega))
      · rw [e3, ec] at t; exact absurd hg t
      · rw [e3, ec, ei]
        refine ih (i + 1) _ (by omega) (by omega) ⟨?_, ?_, (hk.2.2.tA (by decide) (by decide)).tA (by decide) (by decide)⟩ ?_ ?_ (fun u => ?_)
        · rw [sA_at, upd_eq, if_neg (by decide), upd_eq, if_neg (by decide)]; exact hk.1
        · rw [sA_at, upd_eq, if_neg (by decide), upd_eq, if_neg (by decide)]; exact hk.2.1
        · rw [sA_at, upd_eq, if_pos rfl, nI_succ]
        · rw [sA_at, upd_eq, if_neg (by decide), upd_eq, if_neg (by decide)]; exact e5
        · rw [sA_at, upd_eq, if_neg (by decide), upd_eq, if_pos rfl, e6 (by omega)]
          have p1 : fgr B p := (hq.2.1 p (Nat.le_refl _) (by omega)).2
          have p11 := p1.1
          have p12 := p1.2
          have ev : 10 * vl B p i + B i - 48 = vl B p (i + 1) ∧ vl B p (i + 1) ≤ 99 := by
            have : i = p ∨ i = p + 1 := by omega
            rcases this with e | e
            · subst e
              unfold vl
              rw [if_pos (Nat.le_refl _), if_neg (by omega), if_pos rfl]; omega
            · subst e
              unfold vl
              rw [if_neg (by omega), if_pos rfl, if_neg (by omega), if_neg (by omega)]; omega
          rw [show (10 : Int32) = nI 10 from rfl, show (48 : Int32) = nI 48 from rfl, show (999 : Int32) = nI 999 from rfl, pk_mul, nI_add, pk_sub (by omega), ev.1, mn_nI (by omega) (by decide), Nat.min_eq_left (by omega)]
  refine key (q - p) p _ (by have := hq.1; omega) (Nat.le_refl _) ⟨?_, ?_, k0.2.2.tA (by decide) (by decide)⟩ ?_ ?_ (fun _ => ?_)
  · rw [sA_at, upd_eq, if_neg (by decide)]; exact k0.1
  · rw [sA_at, upd_eq, if_neg (by decide)]; exact k0.2.1
  · rw [sA_at, upd_eq, if_neg (by decide)]; exact h3
  · rw [sA_at, upd_eq, if_neg (by decide)]; exact h5
  · rw [sA_at, upd_eq, if_pos rfl]; unfold vl; rw [if_pos (Nat.le_refl _)]; rfl
end TOK

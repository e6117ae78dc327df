/-! TEXT: the reference reads a number -/
section TOKM
def kq (σ s : St) : Prop := s.1 88 10 = σ.1 88 10 ∧ Fr [] [11, 12, 13, 14, 15, 16] σ s
theorem in_fgr {x : Int32} : ((48 : Int64) ≤ x.toInt64 ∧ x.toInt64 ≤ (57 : Int64)) ↔ ((48 : Int32) ≤ x ∧ x ≤ 57) := in_i x 48 57
theorem sU (s : St) (k : Nat) (x : Int32) (j : Nat) : (sA s 88 (upd (s.1 88) k x)).1 88 j = if j = k then x else s.1 88 j := by rw [sA_at, upd_eq]
theorem rdNum (d p q T : Nat) (B : Nat → Nat) (σ0 : St) (h : tM B T σ0) (hq : isF (fgr B) T p q) (hp : p ≤ 240) {Q : Option Value → St → Prop} (fin : ∀ s, kq σ0 s → s.1 88 11 = nI q → s.1 88 12 = nI p → s.1 88 13 = 1 → s.1 88 15 = 0 → (q ≤ p + 2 → s.1 88 14 = nI (vl B p q)) → Q none (sX11_wants (bI (q ≤ p + 2)) (1 : Int32) s)) : ∀ f i s, i + f = q → p ≤ i → kq σ0 s → s.1 88 11 = nI i → s.1 88 12 = nI p → s.1 88 13 = 1 → s.1 88 15 = 0 → (i ≤ p + 2 → s.1 88 14 = nI (vl B p i)) → Run MX11_next (d + 1) 87 [some (.ref 88), none] [] s Q := by
  have hT := h.1
  have hB : ∀ i, i < T → B i < 256 := fun i hi => (h.2.2.2 i hi).1
  have q240 : q ≤ 240 := by have := isF_le hq; omega
  intro f
  induction f with
  | zero =>
    intro i s hi hpi hk e11 e12 e13 e15 e14
    have e : i = q := by omega
    subst e
    have ec := chM (p := i) (s := s) h hk.1 (hk.2.1 95 (by decide) (by decide)) (by omega)
    refine bX11_next_87 s (fun t => by rw [e11, hk.1, h.2.2.1] at t; rw [e11]; exact vp_in_nI (by have := (nI_ltI (by omega) (by omega)).mp t; omega) (by decide)) (fun _ => ?_) (fun t => ?_)
    · have le : (s.1 88 11 - s.1 88 12) ≤ (2 : Int32) ↔ i ≤ p + 2 := by
        rw [e11, e12, pk_sub hpi, show (2 : Int32) = nI 2 from rfl, nI_leI (by omega) (by decide)]; omega
      rw [bI_iff le]
      exact fin s hk e11 e12 e13 e15 e14
    · rw [e11, ec] at t
      exact absurd ((ch_fgr hB).mp (in_fgr.mp t)) hq.2.2
  | succ f ih =>
    intro i s hi hpi hk e11 e12 e13 e15 e14
    have ec := chM (p := i) (s := s) h hk.1 (hk.2.1 95 (by decide) (by decide)) (by omega)
    have hf := hq.2.1 i hpi (by omega)
    have hg := (ch_fgr hB).mpr hf
    have ei : ch B T i = nI (B i) := if_pos hf.1
    have hb1 := hf.2.1
    have hb2 := hf.2.2
    refine bX11_next_87 s (fun t => by rw [e11, hk.1, h.2.2.1] at t; rw [e11]; exact vp_in_nI (by have := (nI_ltI (by omega) (by omega)).mp t; omega) (by decide)) (fun t => ?_) (fun t => ?_)
    · rw [e11, ec] at t; exact absurd (in_fgr.mpr hg) t
    · rw [e11, e12, ec, ei]
      refine ih (i + 1) _ (by omega) (by omega) ⟨?_, (hk.2.tF (k := 14) (x := if (2 : Int32) ≤ (nI i - nI p) then (s.1 88 14) else ((((10 : Int32) * (s.1 88 14)) + nI (B i)) - 48)) (by decide)).tr ?_⟩ ?_ ?_ ?_ ?_ (fun u => ?_)
      · rw [sA_at, upd_eq, if_neg (by decide), upd_eq, if_neg (by decide)]; exact hk.1
      · have := Fr.F (S := []) (F := [11, 12, 13, 14, 15, 16]) (σ := sA s 88 (upd (s.1 88) 14 (if (2 : Int32) ≤ (nI i - nI p) then (s.1 88 14) else ((((10 : Int32) * (s.1 88 14)) + nI (B i)) - 48)))) (k := 11) (x := nI i + 1) (by decide)
        rw [sA_at] at this
        exact this
      · rw [sA_at, upd_eq, if_pos rfl, nI_succ]
      · rw [sA_at, upd_eq, if_neg (by decide), upd_eq, if_neg (by decide)]; exact e12
      · rw [sA_at, upd_eq, if_neg (by decide), upd_eq, if_neg (by decide)]; exact e13
      · rw [sA_at, upd_eq, if_neg (by decide), upd_eq, if_neg (by decide)]; exact e15
      · have p1 : fgr B p := (hq.2.1 p (Nat.le_refl _) (by omega)).2
        have p11 := p1.1
        have p12 := p1.2
        have nle : ¬ (2 : Int32) ≤ nI i - nI p := by
          rw [pk_sub hpi]; exact nI_ge (show i - p < 2 by omega) (by decide)
        rw [sA_at, upd_eq, if_neg (by decide), upd_eq, if_pos rfl, if_neg nle, e14 (by omega)]
        have ev : 10 * vl B p i + B i - 48 = vl B p (i + 1) := by
          have : i = p ∨ i = p + 1 := by omega
          rcases this with e | e
          · subst e
            unfold vl
            rw [if_pos (Nat.le_refl _), if_neg (by omega), if_pos rfl]; omega
          · subst e
            unfold vl
            rw [if_neg (by omega), if_pos rfl, if_neg (by omega), if_neg (by omega)]; omega
        rw [show (10 : Int32) = nI 10 from rfl, show (48 : Int32) = nI 48 from rfl, pk_mul, nI_add, pk_sub (by omega), ev]
end TOKM

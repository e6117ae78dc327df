/-! TEXT: the class reads a token -/
section TOKC
def sg (c : Int32) : Int32 := if c = (-1) ∨ (c = 58 ∨ (c = 44 ∨ c = 59)) then c else (-3)
def aT (B : Nat → Nat) (T q e : Nat) (s : St) : Prop := s.1 2 5 = nI q ∧ ((q < T ∧ fgr B q) → s.1 2 3 = nI e ∧ s.1 2 4 = (if e ≤ q + 2 then -2 else -3) ∧ (e ≤ q + 2 → s.1 2 6 = nI (vl B q e))) ∧ (¬ (q < T ∧ fgr B q) → s.1 2 3 = nI (q + 1) ∧ s.1 2 4 = sg (ch B T q))
theorem tX9_readToken (d p q e T : Nat) (B : Nat → Nat) (σ0 σ : St) (h : tB B T σ0) (k0 : kp σ0 σ) (h3 : σ.1 2 3 = nI p) (hq : isF (fun i => B i = 32) T p q) (he : isF (fgr B) T q e) (hp : p ≤ 242) : Ct yX9_readToken MX9_readToken (d + 2) [.ref 2] σ (fun v σ' => v = none ∧ kp σ0 σ' ∧ aT B T q e σ') := by
  have hT := h.1
  have hB : ∀ i, i < T → B i < 256 := fun i hi => (h.2.2.2 i hi).1
  have q242 : q ≤ 242 := by have := isF_le hq; omega
  have vin : ∀ {i : Nat}, i < 300 → nI i < (240 : Int32) → vp_in (nI i) 240 := fun hi t => vp_in_nI ((nI_ltI (b := 240) (by omega) (by decide)).mp t) (by decide)
  refine Ct.of mX9_readToken.1 (Nat.le_of_ble_eq_true rfl) ?_
  have key : ∀ f i s, i + f = q → p ≤ i → kp σ0 s → s.1 2 3 = nI i → Run MX9_readToken (d + 2) 0 [some (.ref 2), none, none] [] s (fun v σ' => v = none ∧ kp σ0 σ' ∧ aT B T q e σ') := by
    intro f
    induction f with
    | zero =>
      intro i s hi hpi hk e3
      have ei : i = q := by omega
      subst ei
      have ec := chC (p := i) (s := s) h hk.1 (hk.2.2.1 3 (by decide) (by decide)) (by omega)
      have ec2 : rX9_byteAt (s.1 2 3) (sA s 2 (upd (s.1 2) 5 (s.1 2 3))) = ch B T i := by
        rw [e3]
        exact chC (p := i) h (by rw [sA_at, upd_eq, if_neg (by decide)]; exact hk.1) (by rw [sA_ne (by decide)]; exact hk.2.2.1 3 (by decide) (by decide)) (by omega)
      have sp : ¬ ch B T i = 32 := fun t => hq.2.2 ((ch_sp hB).mp t)
      have ks : kp σ0 (sA s 2 (upd (s.1 2) 5 (s.1 2 3))) := ⟨by rw [sA_at, upd_eq, if_neg (by decide)]; exact hk.1, by rw [sA_at, upd_eq, if_neg (by decide)]; exact hk.2.1, hk.2.2.tA (by decide) (by decide)⟩
      have num : ((48 : Int32) ≤ ch B T i ∧ ch B T i ≤ 57) → Ct yX9_readNumber MX9_readNumber (d + 1) [.ref 2] (sA s 2 (upd (s.1 2) 5 (s.1 2 3))) (fun v σ1 => Run MX9_readToken (d + 2) 65 [none, none, none] (v.toList ++ []) σ1 (fun v σ' => v = none ∧ kp σ0 σ' ∧ aT B T i e σ')) := by
        intro t
        have t' := (ch_fgr hB).mp t
        refine (tX9_readNumber d i e T B σ0 _ h ks (by rw [sA_at, upd_eq, if_neg (by decide)]; exact e3) (by rw [sA_at, upd_eq, if_pos rfl]; exact e3) he (by have := t'.1; omega)).mono ?_
        rintro v s2 ⟨hv, k2, a3, a4, a5, a6⟩
        rw [hv]
        exact bX9_readToken_65 s2 ⟨rfl, k2, a5, fun _ => ⟨a3, a4, a6⟩, fun u => absurd t' u⟩
      have oth : (¬ ((48 : Int32) ≤ ch B T i ∧ ch B T i ≤ 57)) → ∀ z, z = sA (sA (sA s 2 (upd (s.1 2) 5 (s.1 2 3))) 2 (upd (upd (s.1 2) 5 (s.1 2 3)) 4 (sg (ch B T i)))) 2 (upd (upd (upd (s.1 2) 5 (s.1 2 3)) 4 (sg (ch B T i))) 3 (s.1 2 3 + 1)) → kp σ0 z ∧ aT B T i e z := by
        intro t z hz
        have t' : ¬ (i < T ∧ fgr B i) := fun u => t ((ch_fgr hB).mpr u)
        rw [hz]
        refine ⟨⟨?_, ?_, (ks.2.2.tA (by decide) (by decide)).tA (by decide) (by decide)⟩, ?_, fun u => absurd u t', fun _ => ⟨?_, ?_⟩⟩
        · rw [sA_at, upd_eq, if_neg (by decide), upd_eq, if_neg (by decide), upd_eq, if_neg (by decide)]; exact hk.1
        · rw [sA_at, upd_eq, if_neg (by decide), upd_eq, if_neg (by decide), upd_eq, if_neg (by decide)]; exact hk.2.1
        · rw [sA_at, upd_eq, if_neg (by decide), upd_eq, if_neg (by decide), upd_eq, if_pos rfl]; exact e3
        · rw [sA_at, upd_eq, if_pos rfl, e3, nI_succ]
        · rw [sA_at, upd_eq, if_neg (by decide), upd_eq, if_pos rfl]
      refine bX9_readToken_0 s (fun _ _ _ t => by rw [e3] at t ⊢; exact vin (by omega) t) (fun _ _ _ t => by rw [e3] at t ⊢; exact vin (by omega) t) (fun _ _ _ _ t => by rw [e3] at t ⊢; exact vin (by omega) t) (fun _ t => ?_) (fun _ t => ?_) (fun _ _ t => ?_) (fun _ _ t => ?_) (fun _ t => ?_)
      · rw [ec2] at t ⊢
        exact ⟨rfl, oth t _ rfl⟩
      · rw [ec2] at t
        exact num t
      · rw [ec2] at t ⊢
        exact ⟨rfl, oth t _ rfl⟩
      · rw [ec2] at t
        exact num t
      · rw [e3, ec] at t; exact absurd t sp
    | succ f ih =>
      intro i s hi hpi hk e3
      have ec := chC (p := i) (s := s) h hk.1 (hk.2.2.1 3 (by decide) (by decide)) (by omega)
      have hs := hq.2.1 i hpi (by omega)
      have sp : ch B T i = 32 := (ch_sp hB).mpr hs
      have nle : ¬ s.1 2 0 ≤ s.1 2 3 := by rw [e3, hk.1, h.2.1]; exact nI_ge hs.1 (by omega)
      have e32 : rX9_byteAt (s.1 2 3) s = 32 := by rw [e3, ec, sp]
      refine bX9_readToken_0 s (fun t => absurd t nle) (fun _ _ _ t => by rw [e3] at t ⊢; exact vin (by omega) t) (fun _ t => absurd e32 t) (fun t => absurd t nle) (fun t => absurd t nle) (fun _ t => absurd e32 t) (fun _ t => absurd e32 t) (fun _ _ => ?_)
      refine ih (i + 1) _ (by omega) (by omega) ⟨?_, ?_, hk.2.2.tA (by decide) (by decide)⟩ ?_
      · rw [sA_at, upd_eq, if_neg (by decide)]; exact hk.1
      · rw [sA_at, upd_eq, if_neg (by decide)]; exact hk.2.1
      · rw [sA_at, upd_eq, if_pos rfl, e3, nI_succ]
  exact key (q - p) p σ (by have := hq.1; omega) (Nat.le_refl _) k0 h3
end TOKC

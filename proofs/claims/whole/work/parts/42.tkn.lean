/-! TEXT: tokens -/
section TKN
noncomputable def tkP (B : Nat → Nat) (T p : Nat) : Nat := (isF_ex (fun i => B i = 32) T T p (Nat.le_add_left _ _)).choose
theorem tkP_is (B : Nat → Nat) (T p : Nat) : isF (fun i => B i = 32) T p (tkP B T p) := (isF_ex (fun i => B i = 32) T T p (Nat.le_add_left _ _)).choose_spec
noncomputable def tkE (B : Nat → Nat) (T p : Nat) : Nat := (isF_ex (fgr B) T T (tkP B T p) (Nat.le_add_left _ _)).choose
theorem tkE_is (B : Nat → Nat) (T p : Nat) : isF (fgr B) T (tkP B T p) (tkE B T p) := (isF_ex (fgr B) T T (tkP B T p) (Nat.le_add_left _ _)).choose_spec
def tkF (B : Nat → Nat) (T q : Nat) : Bool := decide (q < T) && (decide (48 ≤ B q) && decide (B q ≤ 57))
theorem tkF_iff (B : Nat → Nat) (T q : Nat) : tkF B T q = true ↔ (q < T ∧ fgr B q) := by unfold tkF fgr; simp
noncomputable def tkK (B : Nat → Nat) (T p : Nat) : Int32 := if tkF B T (tkP B T p) = true then (if tkE B T p ≤ tkP B T p + 2 then -2 else -3) else sg (ch B T (tkP B T p))
noncomputable def tkV (B : Nat → Nat) (T p : Nat) : Nat := vl B (tkP B T p) (tkE B T p)
noncomputable def tkN (B : Nat → Nat) (T p : Nat) : Nat := if tkF B T (tkP B T p) = true then tkE B T p else tkP B T p + 1
theorem sg_n (c : Int32) (h : ¬ c = -1) : ¬ sg c = -1 := by
  unfold sg
  split
  · exact h
  · decide
theorem sg_2 (c : Int32) : ¬ sg c = -2 := by
  unfold sg
  split
  · rename_i h
    rcases h with h | h | h | h <;> rw [h] <;> decide
  · decide
theorem sg_s (c : Int32) (h : ¬ sg c = -3) (h1 : ¬ sg c = -1) : (c = 58 ∨ c = 44 ∨ c = 59) ∧ sg c = c := by
  unfold sg at *
  by_cases q : c = (-1) ∨ (c = 58 ∨ (c = 44 ∨ c = 59))
  · rw [if_pos q] at h1 ⊢
    rcases q with q | q
    · exact absurd q h1
    · exact ⟨q, rfl⟩
  · rw [if_neg q] at h; exact absurd rfl h
theorem ch_end {B : Nat → Nat} {T p : Nat} (h : T ≤ p) : ch B T p = -1 := if_neg (by omega)
theorem tk_in {B : Nat → Nat} {T p : Nat} (h : ¬ tkK B T p = -1) : tkP B T p < T := by
  unfold tkK at h
  by_cases q : tkF B T (tkP B T p) = true
  · exact ((tkF_iff _ _ _).mp q).1
  · rw [if_neg q] at h
    by_cases c : tkP B T p < T
    · exact c
    · rw [ch_end (by omega)] at h; exact absurd (by decide) h
theorem tkN_gt (B : Nat → Nat) (T p : Nat) : p < tkN B T p := by
  have h1 := (tkP_is B T p).1
  have h2 := tkE_is B T p
  unfold tkN
  by_cases q : tkF B T (tkP B T p) = true
  · rw [if_pos q]
    have q' := (tkF_iff _ _ _).mp q
    have := h2.1
    by_cases e : tkE B T p = tkP B T p
    · have := h2.2.2; rw [e] at this; exact absurd q' this
    · omega
  · rw [if_neg q]; omega
theorem tkN_le {B : Nat → Nat} {T p : Nat} (h : ¬ tkK B T p = -1) : tkN B T p ≤ T := by
  have h1 := tk_in h
  unfold tkN
  split
  · have := isF_le (tkE_is B T p); omega
  · omega
theorem tkV_le (B : Nat → Nat) (T p : Nat) (h : tkK B T p = -2) : tkV B T p ≤ 99 := by
  unfold tkK at h
  by_cases q : tkF B T (tkP B T p) = true
  · rw [if_pos q] at h
    have h2 : tkE B T p ≤ tkP B T p + 2 := by
      by_cases c : tkE B T p ≤ tkP B T p + 2
      · exact c
      · rw [if_neg c] at h; exact absurd h (by decide)
    have hE := tkE_is B T p
    unfold tkV vl
    have b1 := ((tkF_iff _ _ _).mp q).2
    unfold fgr at b1
    split
    · omega
    · split
      · omega
      · have b2 := (hE.2.1 (tkP B T p + 1) (by omega) (by have := hE.1; omega)).2
        unfold fgr at b2; omega
  · rw [if_neg q] at h; exact absurd h (sg_2 _)
theorem tB.keep {B : Nat → Nat} {T : Nat} {σ s : St} (h : tB B T σ) (e0 : s.1 2 0 = σ.1 2 0) (e1 : s.1 88 10 = σ.1 88 10) (e2 : s.1 95 = σ.1 95) (e3 : s.1 3 = σ.1 3) : tB B T s := by
  obtain ⟨a, b, c, e⟩ := h
  exact ⟨a, e0.trans b, e1.trans c, fun i hi => by rw [e2, e3]; exact e i hi⟩
theorem tB.kp {B : Nat → Nat} {T : Nat} {σ s : St} (h : tB B T σ) (k : kp σ s) : tB B T s := h.keep k.1 (k.2.2.2.1 10 (by decide)) (k.2.2.1 95 (by decide) (by decide)) (k.2.2.1 3 (by decide) (by decide))
theorem tM.keep {B : Nat → Nat} {T : Nat} {σ s : St} (h : tM B T σ) (e1 : s.1 88 10 = σ.1 88 10) (e2 : s.1 95 = σ.1 95) : tM B T s := by
  obtain ⟨a, b, c, e⟩ := h
  exact ⟨a, b, e1.trans c, fun i hi => by rw [e2]; exact e i hi⟩
theorem tM.kq {B : Nat → Nat} {T : Nat} {σ s : St} (h : tM B T σ) (k : kq σ s) : tM B T s := h.keep k.1 (k.2.1 95 (by decide) (by decide))
theorem kp.tr {σ s t : St} (h : kp σ s) (h' : kp s t) : kp σ t := ⟨h'.1.trans h.1, h'.2.1.trans h.2.1, h.2.2.tr h'.2.2⟩
theorem kq.tr {σ s t : St} (h : kq σ s) (h' : kq s t) : kq σ t := ⟨h'.1.trans h.1, h.2.tr h'.2⟩
theorem kp.rf {σ : St} : kp σ σ := ⟨rfl, rfl, Fr.rf⟩
theorem kq.rf {σ : St} : kq σ σ := ⟨rfl, Fr.rf⟩
/-- the class holds the token at p -/
def atC (B : Nat → Nat) (T p : Nat) (s : St) : Prop := s.1 2 5 = nI (tkP B T p) ∧ s.1 2 3 = nI (tkN B T p) ∧ s.1 2 4 = tkK B T p ∧ (tkK B T p = -2 → s.1 2 6 = nI (tkV B T p))
theorem rdTok (d p T : Nat) (B : Nat → Nat) (σ : St) (h : tB B T σ) (h3 : σ.1 2 3 = nI p) (hp : p ≤ 242) : Ct yX9_readToken MX9_readToken (d + 2) [.ref 2] σ (fun v s => v = none ∧ kp σ s ∧ atC B T p s) := by
  refine (tX9_readToken d p _ _ T B σ σ h kp.rf h3 (tkP_is B T p) (tkE_is B T p) hp).mono ?_
  rintro v s ⟨hv, k, a5, aN, aS⟩
  refine ⟨hv, k, a5, ?_, ?_, fun q => ?_⟩
  · unfold tkN
    by_cases q : tkF B T (tkP B T p) = true
    · rw [if_pos q]; exact (aN ((tkF_iff _ _ _).mp q)).1
    · rw [if_neg q]; exact (aS (fun t => q ((tkF_iff _ _ _).mpr t))).1
  · unfold tkK
    by_cases q : tkF B T (tkP B T p) = true
    · rw [if_pos q]; exact (aN ((tkF_iff _ _ _).mp q)).2.1
    · rw [if_neg q]; exact (aS (fun t => q ((tkF_iff _ _ _).mpr t))).2
  · unfold tkK at q
    by_cases c : tkF B T (tkP B T p) = true
    · rw [if_pos c] at q
      refine (aN ((tkF_iff _ _ _).mp c)).2.2 ?_
      by_cases e : tkE B T p ≤ tkP B T p + 2
      · exact e
      · rw [if_neg e] at q; exact absurd q (by decide)
    · rw [if_neg c] at q; exact absurd q (sg_2 _)
/-! the reference -/
def atM (B : Nat → Nat) (T p : Nat) (s : St) : Prop := (tkK B T p = -3 → s.1 88 15 = 1 ∧ s.1 88 16 = nI (tkP B T p)) ∧ (¬ tkK B T p = -3 → s.1 88 15 = 0 ∧ s.1 88 12 = nI (tkP B T p) ∧ (tkK B T p = -1 → s.1 88 13 = 0) ∧ (tkK B T p = -2 → s.1 88 13 = 1 ∧ s.1 88 14 = nI (tkV B T p)) ∧ (¬ tkK B T p = -1 → ¬ tkK B T p = -2 → s.1 88 13 = 2 ∧ s.1 88 14 = tkK B T p) ∧ (¬ tkK B T p = -1 → s.1 88 11 = nI (tkN B T p)))
theorem wn_y {c : Prop} [Decidable c] {x : Int32} {σ : St} (h : c) : sX11_wants (bI c) x σ = σ := by
  unfold sX11_wants bI
  rw [if_pos h]
  exact if_neg (by decide)
theorem wn_n {c : Prop} [Decidable c] {x : Int32} {σ : St} (h : ¬ c) (h0 : σ.1 88 15 = 0) : (sX11_wants (bI c) x σ).1 88 15 = x ∧ (sX11_wants (bI c) x σ).1 88 16 = σ.1 88 12 ∧ Fr [] [15, 16] σ (sX11_wants (bI c) x σ) := by
  have e : sX11_wants (bI c) x σ = sA (sA σ 88 (upd (σ.1 88) 15 x)) 88 (upd ((sA σ 88 (upd (σ.1 88) 15 x)).1 88) 16 (σ.1 88 12)) := by
    unfold sX11_wants bI
    rw [if_neg h, if_pos rfl, if_pos h0, sA_at]
  rw [e]
  refine ⟨?_, ?_, (Fr.F (by decide)).tF (by decide)⟩
  · rw [sU, if_neg (by decide), sU, if_pos rfl]
  · rw [sU, if_pos rfl]
theorem wn_x {c : Prop} [Decidable c] {x : Int32} {σ : St} (h0 : ¬ σ.1 88 15 = 0) : sX11_wants (bI c) x σ = σ := by
  unfold sX11_wants
  rw [if_neg h0]
  exact ite_self _
theorem kq.w {σ s : St} (h : Fr [] [15, 16] σ s) : kq σ s := ⟨h.2.1 10 (by decide), h.mono (by decide) (by decide)⟩
theorem nxNo (d : Nat) (σ : St) (h : 0 < σ.1 88 15) : Ct yX11_next MX11_next (d + 1) [.ref 88] σ (fun v s => v = none ∧ s = σ) :=
  Ct.of mX11_next.1 (Nat.le_of_ble_eq_true rfl) (bX11_next_0 σ (fun t => absurd h (by rw [i32_nlt]; exact t)) (fun _ => ⟨rfl, rfl⟩))
theorem nxTok (d p T : Nat) (B : Nat → Nat) (σ : St) (h : tM B T σ) (h3 : σ.1 88 11 = nI p) (h15 : σ.1 88 15 = 0) (hp : p ≤ 242) : Ct yX11_next MX11_next (d + 1) [.ref 88] σ (fun v s => v = none ∧ kq σ s ∧ atM B T p s) := by
  have hT := h.1
  have hB : ∀ i, i < T → B i < 256 := fun i hi => (h.2.2.2 i hi).1
  have hq := tkP_is B T p
  have he := tkE_is B T p
  have q242 : tkP B T p ≤ 242 := by have := isF_le hq; omega
  refine Ct.of mX11_next.1 (Nat.le_of_ble_eq_true rfl) (bX11_next_0 σ (fun _ => ?_) (fun t => absurd t (by rw [h15]; decide)))
  have key : ∀ f i s, i + f = tkP B T p → p ≤ i → kq σ s → s.1 88 11 = nI i → s.1 88 15 = 0 → Run MX11_next (d + 1) 8 [some (.ref 88), none] [] s (fun v s => v = none ∧ kq σ s ∧ atM B T p s) := by
    intro f
    induction f with
    | zero =>
      intro i s hi hpi hk e11 e15
      have ei : i = tkP B T p := by omega
      have ec := chM (p := i) (s := s) h hk.1 (hk.2.1 95 (by decide) (by decide)) (by omega)
      have ec2 : rX11_look (s.1 88 11) (sA s 88 (upd (s.1 88) 12 (s.1 88 11))) = ch B T i := by
        rw [e11]
        exact chM (p := i) h (by rw [sU, if_neg (by decide)]; exact hk.1) (by rw [sA_ne (by decide)]; exact hk.2.1 95 (by decide) (by decide)) (by omega)
      have sp : ¬ ch B T i = 32 := fun t => hq.2.2 (by rw [← ei]; exact (ch_sp hB).mp t)
      have vin : ∀ {x : Int32}, x = nI T → nI i < x → vp_in (nI i) 240 := fun hx t => vp_in_nI (by rw [hx] at t; have := (nI_ltI (by omega) (by omega)).mp t; omega) (by decide)
      refine bX11_next_8 s (fun t => by rw [e11] at t ⊢; exact vin (hk.1.trans h.2.2.1) t) (fun _ t => by rw [e11] at t ⊢; exact vin (by rw [upd_eq, if_neg (by decide)]; exact hk.1.trans h.2.2.1) t) (fun _ t1 t2 => ?_) (fun _ t1 t2 => ?_) (fun _ t => ?_) (fun t => ?_)
      · -- a sign
        rw [ec2] at t1 t2 ⊢
        have nf : ¬ tkF B T (tkP B T p) = true := fun t => t2 (in_fgr.mpr ((ch_fgr hB).mpr (by rw [ei]; exact (tkF_iff _ _ _).mp t)))
        have n1 : ¬ ch B T i = -1 := fun t => by rw [t] at t1; exact absurd t1 (by decide)
        have eK : tkK B T p = sg (ch B T i) := by unfold tkK; rw [if_neg nf, ei]
        have eN : tkN B T p = i + 1 := by unfold tkN; rw [if_neg nf, ei]
        have eW : sA (sA (sA s 88 (upd (s.1 88) 12 (s.1 88 11))) 88 (upd (upd (s.1 88) 12 (s.1 88 11)) 13 2)) 88 (upd (upd (upd (s.1 88) 12 (s.1 88 11)) 13 2) 14 (ch B T i)) = sA s 88 (upd (upd (upd (s.1 88) 12 (s.1 88 11)) 13 2) 14 (ch B T i)) := by
          simp only [sA]; congr 1; funext j; split <;> rfl
        rw [eW]
        generalize hW : sA s 88 (upd (upd (upd (s.1 88) 12 (s.1 88 11)) 13 2) 14 (ch B T i)) = W
        have w : ∀ j, W.1 88 j = if j = 14 then ch B T i else if j = 13 then 2 else if j = 12 then s.1 88 11 else s.1 88 j := fun j => by rw [← hW, sA_at, upd_eq, upd_eq, upd_eq]
        have kW : kq σ W := hk.tr ⟨by rw [w, if_neg (by decide), if_neg (by decide), if_neg (by decide)], ⟨fun j _ h8 => by rw [← hW, sA_ne h8], fun j hj => by
          rw [w, if_neg (fun e => hj (by rw [e]; decide)), if_neg (fun e => hj (by rw [e]; decide)), if_neg (fun e => hj (by rw [e]; decide))], fun j _ => by rw [← hW, sA2]⟩⟩
        have w15 : W.1 88 15 = 0 := by rw [w, if_neg (by decide), if_neg (by decide), if_neg (by decide)]; exact e15
        have w12 : W.1 88 12 = nI i := by rw [w, if_neg (by decide), if_neg (by decide), if_pos rfl]; exact e11
        have w11 : W.1 88 11 = nI i := by rw [w, if_neg (by decide), if_neg (by decide), if_neg (by decide)]; exact e11
        by_cases c : ch B T i = 58 ∨ (ch B T i = 44 ∨ ch B T i = 59)
        · rw [wn_y c]
          have eS : sg (ch B T i) = ch B T i := if_pos (.inr c)
          rw [eS] at eK
          refine ⟨rfl, kW.tr ⟨by rw [sU, if_neg (by decide)], Fr.F (by decide)⟩, fun u => ?_, fun _ => ⟨?_, ?_, fun u => ?_, fun u => ?_, fun _ _ => ⟨?_, ?_⟩, fun _ => ?_⟩⟩
          · rw [eK] at u; rcases c with c | c | c <;> rw [c] at u <;> exact absurd u (by decide)
          · rw [sU, if_neg (by decide)]; exact w15
          · rw [sU, if_neg (by decide), ← ei]; exact w12
          · rw [eK] at u; exact absurd u n1
          · rw [eK] at u; rcases c with c | c | c <;> rw [c] at u <;> exact absurd u (by decide)
          · rw [sU, if_neg (by decide), w]; rfl
          · rw [sU, if_neg (by decide), w, eK]; rfl
          · rw [sU, if_pos rfl, w11, eN, nI_succ]
        · obtain ⟨a1, a2, a3⟩ := wn_n (x := 1) (σ := W) c w15
          have eS : sg (ch B T i) = -3 := if_neg (fun u => u.elim n1 c)
          rw [eS] at eK
          refine ⟨rfl, (kW.tr (kq.w a3)).tr ⟨by rw [sU, if_neg (by decide)], Fr.F (by decide)⟩, fun _ => ⟨?_, ?_⟩, fun u => absurd eK u⟩
          · rw [sU, if_neg (by decide)]; exact a1
          · rw [sU, if_neg (by decide), a2, w12, ei]
      · -- a number
        rw [ec2] at t1 t2
        have tf := (ch_fgr hB).mp (in_fgr.mp t2)
        have nf : tkF B T (tkP B T p) = true := (tkF_iff _ _ _).mpr (by rw [← ei]; exact tf)
        have eN : tkN B T p = tkE B T p := if_pos nf
        have eW : sA (sA (sA s 88 (upd (s.1 88) 12 (s.1 88 11))) 88 (upd (upd (s.1 88) 12 (s.1 88 11)) 13 1)) 88 (upd (upd (upd (s.1 88) 12 (s.1 88 11)) 13 1) 14 0) = sA s 88 (upd (upd (upd (s.1 88) 12 (s.1 88 11)) 13 1) 14 0) := by
          simp only [sA]; congr 1; funext j; split <;> rfl
        rw [eW]
        generalize hW : sA s 88 (upd (upd (upd (s.1 88) 12 (s.1 88 11)) 13 1) 14 0) = W
        have w : ∀ j, W.1 88 j = if j = 14 then 0 else if j = 13 then 1 else if j = 12 then s.1 88 11 else s.1 88 j := fun j => by rw [← hW, sA_at, upd_eq, upd_eq, upd_eq]
        have kW : kq σ W := hk.tr ⟨by rw [w, if_neg (by decide), if_neg (by decide), if_neg (by decide)], ⟨fun j _ h8 => by rw [← hW, sA_ne h8], fun j hj => by
          rw [w, if_neg (fun e => hj (by rw [e]; decide)), if_neg (fun e => hj (by rw [e]; decide)), if_neg (fun e => hj (by rw [e]; decide))], fun j _ => by rw [← hW, sA2]⟩⟩
        have w15 : W.1 88 15 = 0 := by rw [w, if_neg (by decide), if_neg (by decide), if_neg (by decide)]; exact e15
        have w12 : W.1 88 12 = nI i := by rw [w, if_neg (by decide), if_neg (by decide), if_pos rfl]; exact e11
        have w11 : W.1 88 11 = nI i := by rw [w, if_neg (by decide), if_neg (by decide), if_neg (by decide)]; exact e11
        have w13 : W.1 88 13 = 1 := by rw [w]; rfl
        have w14 : W.1 88 14 = 0 := by rw [w]; rfl
        rw [ei] at w11 w12
        refine rdNum d (tkP B T p) (tkE B T p) T B σ h he (by have := tf.1; omega) (fun z kz z11 z12 z13 z15 z14 => ?_) (tkE B T p - tkP B T p) (tkP B T p) W (by have := he.1; omega) (Nat.le_refl _) kW w11 w12 w13 w15 (fun _ => ?_)
        · by_cases c : tkE B T p ≤ tkP B T p + 2
          · rw [wn_y c]
            have eK : tkK B T p = -2 := by unfold tkK; rw [if_pos nf, if_pos c]
            refine ⟨rfl, kz, fun u => absurd (eK.symm.trans u) (by decide), fun _ => ⟨z15, z12, fun u => absurd (eK.symm.trans u) (by decide), fun _ => ⟨z13, z14 c⟩, fun _ u => absurd eK u, fun _ => by rw [eN]; exact z11⟩⟩
          · obtain ⟨a1, a2, a3⟩ := wn_n (x := 1) (σ := z) c z15
            have eK : tkK B T p = -3 := by unfold tkK; rw [if_pos nf, if_neg c]
            exact ⟨rfl, kz.tr (kq.w a3), fun _ => ⟨a1, a2.trans z12⟩, fun u => absurd eK u⟩
        · rw [w14]; unfold vl; rw [if_pos (Nat.le_refl _)]; rfl
      · -- the end
        rw [ec2] at t
        have nT : ¬ i < T := fun u => by
          have := hB i u
          have e : ch B T i = nI (B i) := if_pos u
          rw [e] at t; exact absurd t (nI_pos (by omega))
        have nf : ¬ tkF B T (tkP B T p) = true := fun t => nT (by rw [ei]; exact ((tkF_iff _ _ _).mp t).1)
        have eK : tkK B T p = -1 := by unfold tkK; rw [if_neg nf, ← ei, ch_end (by omega)]; decide
        have eW : sA (sA s 88 (upd (s.1 88) 12 (s.1 88 11))) 88 (upd (upd (s.1 88) 12 (s.1 88 11)) 13 0) = sA (sA s 88 (upd (s.1 88) 12 (s.1 88 11))) 88 (upd ((sA s 88 (upd (s.1 88) 12 (s.1 88 11))).1 88) 13 0) := by rw [sA_at]
        rw [eW]
        refine ⟨rfl, hk.tr ⟨by rw [sU, if_neg (by decide), sU, if_neg (by decide)], (Fr.F (by decide)).tF (by decide)⟩, fun u => absurd (eK.symm.trans u) (by decide), fun _ => ⟨?_, ?_, fun _ => ?_, fun u => absurd (eK.symm.trans u) (by decide), fun u => absurd eK u, fun u => absurd eK u⟩⟩
        · rw [sU, if_neg (by decide), sU, if_neg (by decide)]; exact e15
        · rw [sU, if_neg (by decide), sU, if_pos rfl, ← ei]; exact e11
        · rw [sU, if_pos rfl]
      · rw [e11, ec] at t; exact absurd t sp
    | succ f ih =>
      intro i s hi hpi hk e11 e15
      have ec := chM (p := i) (s := s) h hk.1 (hk.2.1 95 (by decide) (by decide)) (by omega)
      have hs := hq.2.1 i hpi (by omega)
      have sp : ch B T i = 32 := (ch_sp hB).mpr hs
      have e32 : rX11_look (s.1 88 11) s = 32 := by rw [e11, ec, sp]
      refine bX11_next_8 s (fun _ => by rw [e11]; exact vp_in_nI (by have := hs.1; omega) (by decide)) (fun t => absurd e32 t) (fun t => absurd e32 t) (fun t => absurd e32 t) (fun t => absurd e32 t) (fun _ => ?_)
      refine ih (i + 1) _ (by omega) (by omega) (hk.tr ⟨by rw [sU, if_neg (by decide)], Fr.F (by decide)⟩) ?_ ?_
      · rw [sU, if_pos rfl, e11, nI_succ]
      · rw [sU, if_neg (by decide)]; exact e15
  exact key (tkP B T p - p) p σ (by have := hq.1; omega) (Nat.le_refl _) kq.rf h3 h15
end TKN

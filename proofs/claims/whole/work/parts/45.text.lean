/-! TEXT: whole texts -/
section TEXTP
noncomputable def rowsP (B : Nat → Nat) (T n : Nat) : Nat → Nat × (Nat → Nat) → Nat → (Nat × Nat) ⊕ (Nat × (Nat → Nat))
  | 0, _, p => .inl (5, tkP B T p)
  | f + 1, P, p => if tkK B T p = -1 then .inr P else Sum.elim (fun x => .inl x) (fun y => rowsP B T n f (ad n P y.1) y.2) (rowP B T n (op n (lw P.2 P.1)) P.1 (T + 1) 0 p)
def tNt (n : Nat) (r : (Nat × Nat) ⊕ (Nat × (Nat → Nat))) : (Nat × Nat) ⊕ (Nat × Nat × (Nat → Nat)) := Sum.elim (fun x => .inl x) (fun P => .inr (n, P)) r
noncomputable def textP (B : Nat → Nat) (T : Nat) : (Nat × Nat) ⊕ (Nat × Nat × (Nat → Nat)) :=
  if ¬ tkK B T 0 = -2 then .inl (fTk (tkK B T 0), tkP B T 0)
  else if ¬ (2 ≤ tkV B T 0 ∧ tkV B T 0 ≤ 32) then .inl (3, tkP B T 0)
  else if ¬ tkK B T (tkN B T 0) = 58 then .inl (fTk (tkK B T (tkN B T 0)), tkP B T (tkN B T 0))
  else tNt (tkV B T 0) (rowsP B T (tkV B T 0) 33 p0 (tkN B T (tkN B T 0)))
theorem okR_and {n c : Nat} {L : Nat → Nat} (h : okR n L c) : c &&& op n L = c := by
  refine Nat.eq_of_testBit_eq (fun i => ?_)
  rw [Nat.testBit_and]
  cases q : c.testBit i
  · rfl
  · rw [(op_bit n L i).mpr (h i q)]; rfl
theorem ad_good {n D c : Nat} {R : Nat → Nat} (h : okR n (lw R D) c) (h0 : c ≠ 0) : ad n (D, R) c = (D + 1, fun r => if r = D then c else R r) := by
  unfold ad
  show (if c &&& op n (lw R D) = 0 then _ else _) = _
  rw [okR_and h, if_neg h0]
theorem rowsP_s {B : Nat → Nat} {T n f : Nat} {P : Nat × (Nat → Nat)} {p : Nat} (h : ¬ tkK B T p = -1) : rowsP B T n (f + 1) P p = Sum.elim (fun x => .inl x) (fun y => rowsP B T n f (ad n P y.1) y.2) (rowP B T n (op n (lw P.2 P.1)) P.1 (T + 1) 0 p) := if_neg h
theorem rowsP_bad {B : Nat → Nat} {T n f : Nat} {P : Nat × (Nat → Nat)} {p : Nat} (h : tkK B T p = -3) : rowsP B T n (f + 1) P p = .inl (1, tkP B T p) := by
  rw [rowsP_s (by rw [h]; decide)]
  have e : rowP B T n (op n (lw P.2 P.1)) P.1 (T + 1) 0 p = .inl (1, tkP B T p) := by
    show (if _ then _ else _) = _
    rw [if_pos (by rw [h]; decide), h]; rfl
  rw [e]; rfl
/-! the class -/
def pT (N : Nat) (σ : St) (v : Option Value) (s : St) (x : (Nat × Nat) ⊕ (Nat × Nat × (Nat → Nat))) : Prop := kn N σ s ∧ Sum.elim (fun x => v = some (.int 0) ∧ s.1 2 1 = nI x.1 ∧ s.1 2 5 = nI x.2) (fun y => v = some (.int 1) ∧ cN N y.1 y.2.1 y.2.2 s ∧ okN y.1 y.2.1 y.2.2 ∧ s.1 2 1 = 0) x
theorem tX9_tells (d N T : Nat) (B : Nat → Nat) (hN : N < 8) (σ : St) (h : tB B T σ) : Ct yX9_tells MX9_tells (d + 4) [.ref 2, .ref (32 + 6 * N)] σ (fun v s => pT N σ v s (textP B T)) := by
  obtain ⟨g1, g2, g3, g4⟩ := nt_a N hN
  have hT := h.1
  have key : ∀ n f D R p s, D + f = 33 → okN n D R → p ≤ T → kn N σ s → cN N n D R s → s.1 2 3 = nI p → s.1 2 1 = 0 → Run MX9_tells (d + 4) 79 [some (.ref 2), some (.ref (32 + 6 * N)), some (.int (nI D))] [] s (fun v s => pT N σ v s (tNt n (rowsP B T n f (D, R) p))) := by
    intro n f
    induction f with
    | zero => intro D R p s h1 h2; have := h2.2.2.1; omega
    | succ f ih =>
      intro D R p s hf hok hp hk hc h3 h1
      have D32 := hok.2.2.1
      have hts := h.kn hN hk
      refine bX9_tells_79 _ (nI D) s g2 (fun t => absurd t (nI_nlt (show D ≤ 32 by omega) (by decide))) (fun _ => ?_)
      refine (rdTok (d + 1) p T B s hts h3 (by omega)).mono ?_
      rintro v s1 ⟨hv, k1, a1⟩
      rw [hv]
      have hk1 := hk.tr k1.n
      have hc1 := kp_cN hN hc k1
      refine bX9_tells_89 _ (nI D) s1 g2 (fun t => ?_) (fun t => ?_)
      · rw [a1.2.2.1] at t
        refine (tX9_readRow d N n D T p R B hN hok s1 (hts.kp k1) hc1 a1 hp).mono ?_
        rintro v2 s2 ⟨k2, hr⟩
        rw [rowsP_s t]
        have hr := hr
        show Run _ _ _ _ _ _ (fun v s => pT N σ v s (tNt n (Sum.elim (fun x => .inl x) (fun y => rowsP B T n f (ad n (D, R) y.1) y.2) (rowP B T n (op n (lw R D)) D (T + 1) 0 p))))
        cases hx : rowP B T n (op n (lw R D)) D (T + 1) 0 p with
        | inl x =>
          rw [hx] at hr
          obtain ⟨r1, r2, r3⟩ := hr
          rw [r1]
          exact bX9_tells_105 _ (nI D) 0 s2 g2 (fun u => absurd rfl u) (fun _ => ⟨hk1.tr k2, rfl, r2, r3⟩)
        | inr y =>
          rw [hx] at hr
          obtain ⟨r1, r2, r3, r4⟩ := hr
          obtain ⟨o1, o2, o3, o4⟩ := rowP_good (T + 1) 0 p y (fun i q => absurd q (by rw [Nat.zero_testBit]; decide)) hx
          have ao := (ad_ok (R := R) y.1 hok o3).1
          have e := ad_good o1 o2
          rw [r1]
          refine bX9_tells_105 _ (nI D) 1 s2 g2 (fun _ => ?_) (fun u => absurd u (by decide))
          rw [e] at ao r2
          rw [← nI_succ]
          show Run _ _ _ _ _ _ (fun v s => pT N σ v s (tNt n (rowsP B T n f (ad n (D, R) y.1) y.2)))
          rw [e]
          exact ih (D + 1) _ y.2 s2 (by omega) ao o4 (hk1.tr k2) r2 r3 (by rw [r4, k1.2.1]; exact h1)
      · rw [a1.2.2.1] at t
        have e : rowsP B T n (f + 1) (D, R) p = .inr (D, R) := if_pos t
        rw [e]
        exact ⟨hk1, rfl, hc1, hok, by rw [k1.2.1]; exact h1⟩
  refine Ct.of mX9_tells.1 (Nat.le_of_ble_eq_true rfl) (bX9_tells_0 _ σ g2 ?_)
  have e0 : sA (sA σ 2 (upd (σ.1 2) 1 0)) 2 (upd (upd (σ.1 2) 1 0) 3 0) = sA σ 2 (upd (upd (σ.1 2) 1 0) 3 0) := by
    simp only [sA]; congr 1; funext j; split <;> rfl
  rw [e0]
  generalize hW : sA σ 2 (upd (upd (σ.1 2) 1 0) 3 0) = W
  have kW : kn N σ W := by rw [← hW]; exact ⟨by rw [sA_at, upd_eq, if_neg (by decide), upd_eq, if_neg (by decide)], Fr.A (by simp) (by decide)⟩
  have w3 : W.1 2 3 = nI 0 := by rw [← hW, sA_at, upd_eq, if_pos rfl]; rfl
  have w1 : W.1 2 1 = 0 := by rw [← hW, sA_at, upd_eq, if_neg (by decide), upd_eq, if_pos rfl]
  have hW' := h.kn hN kW
  refine (rdTok (d + 1) 0 T B W hW' w3 (by omega)).mono ?_
  rintro v s1 ⟨hv, k1, a1⟩
  rw [hv]
  have hk1 : kn N σ s1 := kW.tr k1.n
  have bad3 : tkK B T 0 = -2 → ¬ (2 ≤ tkV B T 0 ∧ tkV B T 0 ≤ 32) → pT N σ (some (.int (bI False))) (sX9_refuse 3 s1) (textP B T) := by
    intro t1 t2
    have e : textP B T = .inl (3, tkP B T 0) := by
      unfold textP
      rw [if_neg (Decidable.not_not.mpr t1), if_pos t2]
    rw [e]
    obtain ⟨x1, x2, x3⟩ := refX (N := N) 3 hk1
    exact ⟨x1, rfl, x2, x3.trans a1.1⟩
  refine bX9_tells_14 _ s1 g2 (fun t1 t2 => ?_) (fun t1 t2 t3 => ?_) (fun t1 t2 t3 => ?_) (fun t1 => ?_)
  · rw [a1.2.2.1] at t1
    have V99 := tkV_le B T 0 t1
    rw [a1.2.2.2 t1] at t2
    have := (nI_ltI (b := 2) (by omega) (by decide)).mp t2
    exact bad3 t1 (by omega)
  · rw [a1.2.2.1] at t1
    have V99 := tkV_le B T 0 t1
    rw [a1.2.2.2 t1] at t2 t3 ⊢
    have v2 := (nI_leI (a := 2) (by decide) (by omega)).mp t2
    have v32 := (nI_leI (b := 32) (by omega) (by decide)).mp t3
    refine (tX6_begin (d + 1) N (tkV B T 0) p0.2 hN v32 s1).mono ?_
    rintro w s2 ⟨hw, c2, F2⟩
    rw [hw]
    have k2 : kn N s1 s2 := kn.net hN F2
    have e2 : s2.1 2 = s1.1 2 := F2.1 2 (by simp [FN]; omega) (by decide)
    have hN1 := tkN_le (B := B) (T := T) (p := 0) (by rw [t1]; decide)
    refine bX9_tells_59 _ s2 g2 ((rdTok (d + 1) (tkN B T 0) T B s2 ((hW'.kp k1).kn hN k2) (by rw [e2]; exact a1.2.1) (by omega)).mono ?_)
    rintro w3' s3 ⟨hw3, k3, a3⟩
    rw [hw3]
    have hk3 := (hk1.tr k2).tr k3.n
    refine bX9_tells_63 _ s3 g2 (fun u => ?_) (fun u => ?_)
    · rw [a3.2.2.1] at u
      have e : textP B T = tNt (tkV B T 0) (rowsP B T (tkV B T 0) 33 p0 (tkN B T (tkN B T 0))) := by
        unfold textP
        rw [if_neg (Decidable.not_not.mpr t1), if_neg (Decidable.not_not.mpr ⟨v2, v32⟩), if_neg (Decidable.not_not.mpr u)]
      rw [e]
      refine key _ 33 0 p0.2 _ s3 rfl (p0_ok v2 v32) (tkN_le (by rw [u]; decide)) hk3 (kp_cN hN c2 k3) a3.2.1 ?_
      rw [k3.2.1, e2, k1.2.1]; exact w1
    · rw [a3.2.2.1] at u
      have e : textP B T = .inl (fTk (tkK B T (tkN B T 0)), tkP B T (tkN B T 0)) := by
        unfold textP
        rw [if_neg (Decidable.not_not.mpr t1), if_neg (Decidable.not_not.mpr ⟨v2, v32⟩), if_pos u]
      rw [e]
      obtain ⟨x1, x2, x3⟩ := refT (N := N) hk3 a3
      exact ⟨x1, rfl, x2, x3⟩
  · rw [a1.2.2.1] at t1
    have V99 := tkV_le B T 0 t1
    rw [a1.2.2.2 t1] at t3
    have := (nI_ltI (a := 32) (by decide) (by omega)).mp t3
    exact bad3 t1 (by omega)
  · rw [a1.2.2.1] at t1
    have e : textP B T = .inl (fTk (tkK B T 0), tkP B T 0) := by
      unfold textP
      rw [if_pos t1]
    rw [e]
    obtain ⟨x1, x2, x3⟩ := refT (N := N) hk1 a1
    exact ⟨x1, rfl, x2, x3⟩
/-! the reference -/
def km (N : Nat) (σ s : St) : Prop := Fr [91, 93, 94] [11, 12, 13, 14, 15, 16] σ s ∧ ∀ j, j < 32 * N → s.2 91 j = σ.2 91 j
theorem km.tr {N : Nat} {σ s t : St} (h : km N σ s) (h' : km N s t) : km N σ t := ⟨h.1.tr h'.1, fun j hj => (h'.2 j hj).trans (h.2 j hj)⟩
theorem kq.m {N : Nat} {σ s : St} (h : kq σ s) : km N σ s := ⟨h.2.mono (by decide) (by decide), fun j _ => by rw [h.2.2.2 91 (by decide)]⟩
theorem km.jn {N : Nat} {σ s : St} (h : Fr [93, 94] [] σ s) : km N σ s := ⟨h.mono (by decide) (by decide), fun j _ => by rw [h.2.2 91 (by decide)]⟩
theorem tM.km {B : Nat → Nat} {T N : Nat} {σ s : St} (h : tM B T σ) (k : km N σ s) : tM B T s := h.keep (k.1.2.1 10 (by decide)) (k.1.1 95 (by decide) (by decide))
def pU (N : Nat) (σ : St) (v : Option Value) (t : St) (x : (Nat × Nat) ⊕ (Nat × Nat × (Nat → Nat))) : Prop := Sum.elim (fun x => ∃ s, km N σ s ∧ s.1 88 15 = nI x.1 ∧ v = some (.int (-10 - nI x.2)) ∧ t = sA s 88 (upd (s.1 88) 10 0)) (fun y => ∃ s, km N σ s ∧ s.1 88 15 = 0 ∧ (∀ r, r < y.2.1 → s.2 91 (32 * N + r) = lN (y.2.2 r)) ∧ v = some (.int (nI N)) ∧ t = sA (sA (sA (sA s 88 (upd (s.1 88) 10 0)) 89 (upd (s.1 89) N (nI y.1))) 90 (upd (s.1 90) N (nI y.2.1))) 88 (upd (upd (s.1 88) 10 0) 0 (nI (N + 1)))) x
theorem out107 {d N a q : Nat} {σ : St} (x1 x2 : Int32) (s : St) (k : km N σ s) (h15 : s.1 88 15 = nI a) (h16 : s.1 88 16 = nI q) (a1 : 1 ≤ a) (a5 : a ≤ 5) : Run MX11_text (d + 3) 107 [some (.ref 88), some (.int x1), some (.int x2), none, none] [] s (fun v t => pU N σ v t (.inl (a, q))) := by
  have hp : 0 < s.1 88 15 := by rw [h15]; exact f_pos a1 a5
  have h0 := f_ne hp
  have nle : ¬ s.1 88 15 ≤ 0 := by rw [i32_nle]; exact hp
  refine bX11_text_107 x1 x2 s (fun _ t => absurd t nle) (fun t => absurd t h0) (fun _ t => absurd t nle) (fun _ _ => ⟨s, k, h15, ?_, rfl⟩) (fun t => absurd t h0) (fun t => absurd t h0) (fun t => absurd t h0)
  rw [h16]
theorem tX11_text (d N T : Nat) (B : Nat → Nat) (hN : N < 8) (σ : St) (h : tM B T σ) (h0 : σ.1 88 0 = nI N) : Ct yX11_text MX11_text (d + 3) [.ref 88] σ (fun v t => pU N σ v t (textP B T)) := by
  have hT := h.1
  have key : ∀ n, 2 ≤ n → n ≤ 32 → ∀ f D R p s, D + f = 33 → okN n D R → p ≤ T → km N σ s → (∀ r, r < D → s.2 91 (32 * N + r) = lN (R r)) → rL s (lw R D) → atM B T p s → Run MX11_text (d + 3) 107 [some (.ref 88), some (.int (nI n)), some (.int (nI D)), none, none] [] s (fun v t => pU N σ v t (tNt n (rowsP B T n f (D, R) p))) := by
    intro n n2 n32 f
    induction f with
    | zero => intro D R p s h1 h2; have := h2.2.2.1; omega
    | succ f ih =>
      intro D R p s hf hok hp hk hrow hl ha
      have D32 := hok.2.2.1
      by_cases k3 : tkK B T p = -3
      · rw [rowsP_bad k3]
        obtain ⟨u1, u2⟩ := ha.1 k3
        exact out107 _ _ s hk u1 u2 (Nat.le_of_ble_eq_true rfl) (Nat.le_of_ble_eq_true rfl)
      have s15 := (ha.2 k3).1
      have s0 : s.1 88 0 = nI N := by rw [hk.1.2.1 0 (by decide)]; exact h0
      have e15 : s.1 88 15 ≤ 0 := by rw [s15]; decide
      have hts := h.km hk
      refine bX11_text_107 _ _ s (fun t => absurd s15 t) (fun _ _ _ => by rw [s0]; exact vp_in_nI hN (by decide)) (fun t => absurd s15 t) (fun t => absurd s15 t) (fun _ t _ => ?_) (fun _ _ t => absurd t (by rw [s15]; decide)) (fun _ t => ?_)
      · have e : rowsP B T n (f + 1) (D, R) p = .inr (D, R) := if_pos ((atM_end ha k3).mp t)
        rw [e]
        refine ⟨s, hk, s15, hrow, ?_, ?_⟩
        · rw [s0, show nI N + 1 - 1 = nI N from by (simp only [nI_zI, zl0, zl1, zl2, zl3, zl4, zl5, zl6, zl7, zl8, zl9, zl10, zl11, zl12, zl13, zl14, zl15, zl16, zl24, zl30, zl31, zl32, zl48, zl56, zl57, zl60, zl63, zl99, zl100, zl130, zl199, zl200, zl240, zl999, zl1000, ← zI_add, ← zI_sub, ← zI_mul, ← zI_neg] <;> first | rfl | (congr 1; omega))]
        · rw [s0, nI_clamp (by omega), nI_succ]
      · have k1 : ¬ tkK B T p = -1 := fun u => t ((atM_end ha k3).mpr u)
        refine (tX11_readRow d n T p D (lw R D) B n32 D32 (lw_le R D) s hts hl ha s15 hp).mono ?_
        rintro v s1 ⟨kq1, hr⟩
        have hk1 : km N σ s1 := hk.tr kq1.m
        rw [rowsP_s k1]
        show Run _ _ _ _ _ _ (fun v s => pU N σ v s (tNt n (Sum.elim (fun x => .inl x) (fun y => rowsP B T n f (ad n (D, R) y.1) y.2) (rowP B T n (op n (lw R D)) D (T + 1) 0 p))))
        cases hx : rowP B T n (op n (lw R D)) D (T + 1) 0 p with
        | inl x =>
          rw [hx] at hr
          obtain ⟨⟨y, r1⟩, r2, r3, r4, r5⟩ := hr
          rw [r1]
          have p15 : 0 < s1.1 88 15 := by rw [r2]; exact f_pos r4 r5
          exact bX11_text_127 _ _ y s1 (fun u => absurd u (f_ne p15)) (fun _ => out107 _ _ s1 hk1 r2 r3 r4 r5) (fun u => absurd u (f_ne p15))
        | inr y =>
          rw [hx] at hr
          obtain ⟨r1, a2⟩ := hr
          obtain ⟨o1, o2, o3, o4⟩ := rowP_good (T + 1) 0 p y (fun i q => absurd q (by rw [Nat.zero_testBit]; decide)) hx
          have ao := (ad_ok (R := R) y.1 hok o3).1
          have e := ad_good o1 o2
          rw [r1]
          show Run _ _ _ _ _ _ (fun v s => pU N σ v s (tNt n (rowsP B T n f (ad n (D, R) y.1) y.2)))
          rw [e] at ao ⊢
          have z0 : s1.1 88 0 = nI N := by rw [hk1.1.2.1 0 (by decide)]; exact h0
          have ei : (32 : Int32) * s1.1 88 0 + nI D = nI (32 * N + D) := by rw [z0]; exact cellsOf_nI hN o3
          refine bX11_text_127 _ _ _ s1 (fun _ => by rw [ei]; exact vp_in_nI (by omega) (by decide)) (fun u => ?_) (fun u => ?_)
          · have q3 : tkK B T y.2 = -3 := by
              by_cases c : tkK B T y.2 = -3
              · exact c
              · exact absurd (a2.2 c).1 u
            have ef : f = (f - 1) + 1 := by omega
            rw [ef, rowsP_bad q3]
            obtain ⟨u1, u2⟩ := a2.1 q3
            exact out107 _ _ s1 hk1 u1 u2 (Nat.le_of_ble_eq_true rfl) (Nat.le_of_ble_eq_true rfl)
          · rw [ei, nI_clamp (by omega)]
            generalize hY : sJ s1 91 (vp_updL (s1.2 91) (32 * N + D) (lN y.1)) = Y
            have kY : km N s1 Y := by rw [← hY]; exact ⟨Fr.J (by decide), fun j hj => by rw [sJ_at, updL_eq, if_neg (by omega)]⟩
            have lY : rL Y (lw R D) := fun i hi => by rw [← hY, sJ1, kq1.2.1 93 (by decide) (by decide)]; exact hl i hi
            refine (tX11_joins (d + 2) y.1 (lw R D) (lw_le R D) (okR_32 n32 o1) Y lY).mono ?_
            rintro v5 s5 ⟨hv5, l5, F5⟩
            rw [hv5]
            refine bX11_text_155 _ _ s5 ?_
            rw [← nI_succ]
            refine ih (D + 1) _ y.2 s5 (by omega) ao o4 ((hk1.tr kY).tr (km.jn F5)) (fun r hr => ?_) ?_ ?_
            · rw [F5.2.2 91 (by decide), ← hY, sJ_at, updL_eq]
              by_cases er : r = D
              · rw [if_pos (by omega), if_pos er]
              · rw [if_neg (by omega), if_neg er, kq1.2.2.2 91 (by decide)]; exact hrow r (by omega)
            · rw [lw_put]; exact l5
            · have e8 : ∀ j, s5.1 88 j = s1.1 88 j := fun j => by rw [F5.2.1 j (by simp), ← hY, sJ1]
              unfold atM at a2 ⊢
              simp only [e8]
              exact a2
  have km0 : ∀ s, kq σ s → km N σ s := fun s k => k.m
  have n8 : ¬ σ.1 88 0 = 8 := fun q => by
    rw [h0] at q
    have := (nI_eq (a := N) (b := 8) (by omega) (by decide)).mp q; omega
  refine Ct.of mX11_text.1 (Nat.le_of_ble_eq_true rfl) (bX11_text_0 σ (fun _ => ?_) (fun t => absurd t n8))
  have e0 : sA (sA σ 88 (upd (σ.1 88) 15 0)) 88 (upd (upd (σ.1 88) 15 0) 11 0) = sA σ 88 (upd (upd (σ.1 88) 15 0) 11 0) := by
    simp only [sA]; congr 1; funext j; split <;> rfl
  rw [e0]
  generalize hW : sA σ 88 (upd (upd (σ.1 88) 15 0) 11 0) = W
  have w : ∀ j, W.1 88 j = if j = 11 then 0 else if j = 15 then 0 else σ.1 88 j := fun j => by rw [← hW, sA_at, upd_eq, upd_eq]
  have kW : kq σ W := ⟨by rw [w, if_neg (by decide), if_neg (by decide)], ⟨fun j _ h8 => by rw [← hW, sA_ne h8], fun j hj => by
    rw [w, if_neg (fun e => hj (by rw [e]; decide)), if_neg (fun e => hj (by rw [e]; decide))], fun j _ => by rw [← hW, sA2]⟩⟩
  refine (tX11_begins (d + 2) W).mono ?_
  rintro v s1 ⟨hv, l1, F1⟩
  rw [hv]
  have k1 : km N σ s1 := kW.m.tr (km.jn (F1.mono (by decide) (by decide)))
  have t1 := h.km k1
  have e8 : ∀ j, s1.1 88 j = W.1 88 j := fun j => F1.2.1 j (by simp)
  refine bX11_text_26 s1 ((nxTok (d + 1) 0 T B s1 t1 (by rw [e8, w]; rfl) (by rw [e8, w]; rfl) (by omega)).mono ?_)
  rintro v2 s2 ⟨hv2, k2, a2⟩
  rw [hv2]
  refine bX11_text_30 s2 ((qX11_wants (d + 2) _ 2 s2).mono ?_)
  rintro v3 s3 ⟨hv3, hs3⟩
  rw [hv3]
  -- a refusal stays
  have out : ∀ x1 a q s, km N σ s → s.1 88 15 = nI a → s.1 88 16 = nI q → 1 ≤ a → a ≤ 5 → Run MX11_text (d + 3) 83 [some (.ref 88), some (.int x1), none, none, none] [] s (fun v t => pU N σ v t (.inl (a, q))) := by
    intro x1 a q s k h15 h16 a1 a5
    have hp : 0 < s.1 88 15 := by rw [h15]; exact f_pos a1 a5
    refine bX11_text_83 x1 s (fun _ => (nxNo (d + 1) s hp).mono ?_) (fun t => absurd t (f_ne hp))
    rintro v s' ⟨hv, hs⟩
    rw [hv, hs]
    exact bX11_text_105 x1 s (out107 _ _ s k h15 h16 a1 a5)
  have out48 : ∀ a q s, km N σ s → s.1 88 15 = nI a → s.1 88 16 = nI q → 1 ≤ a → a ≤ 5 → Run MX11_text (d + 3) 48 [some (.ref 88), none, none, none, none] [] s (fun v t => pU N σ v t (.inl (a, q))) := by
    intro a q s k h15 h16 a1 a5
    have hp : 0 < s.1 88 15 := by rw [h15]; exact f_pos a1 a5
    refine bX11_text_48 s (fun _ => (nxNo (d + 1) s hp).mono ?_) (fun t => absurd t (f_ne hp))
    rintro v s' ⟨hv, hs⟩
    rw [hv, hs]
    exact out _ a q s k h15 h16 a1 a5
  have hk2 : km N σ s2 := k1.tr k2.m
  by_cases c3 : tkK B T 0 = -3
  · obtain ⟨u1, u2⟩ := a2.1 c3
    rw [wn_x (by rw [u1]; decide)] at hs3
    rw [hs3]
    have e : textP B T = .inl (1, tkP B T 0) := by
      unfold textP
      rw [if_pos (by rw [c3]; decide), c3]; rfl
    rw [e]
    exact out48 1 _ s2 hk2 u1 u2 (Nat.le_of_ble_eq_true rfl) (Nat.le_of_ble_eq_true rfl)
  have z15 := (a2.2 c3).1
  have z12 := (a2.2 c3).2.1
  by_cases c2 : tkK B T 0 = -2
  · rw [wn_y ((atM_sort a2 c3).mpr c2)] at hs3
    rw [hs3]
    have eV := ((a2.2 c3).2.2.2.1 c2).2
    have V99 := tkV_le B T 0 c2
    refine bX11_text_48 s2 (fun t => absurd z15 t) (fun _ => (qX11_wants (d + 2) _ 3 s2).mono ?_)
    rintro v4 s4 ⟨hv4, hs4⟩
    rw [hv4]
    have inr : ((2 : Int64) ≤ ((s2.1 88 14).toInt64) ∧ ((s2.1 88 14).toInt64) ≤ (32 : Int64)) ↔ (2 ≤ tkV B T 0 ∧ tkV B T 0 ≤ 32) := by
      rw [eV]
      refine (in_i (nI (tkV B T 0)) 2 32).trans ?_
      rw [show (2 : Int32) = nI 2 from rfl, show (32 : Int32) = nI 32 from rfl, nI_leI (by decide) (by omega), nI_leI (by omega) (by decide)]
    by_cases cv : 2 ≤ tkV B T 0 ∧ tkV B T 0 ≤ 32
    · rw [wn_y (inr.mpr cv)] at hs4
      rw [hs4]
      have hN1 := tkN_le (B := B) (T := T) (p := 0) (by rw [c2]; decide)
      refine bX11_text_74 s2 ((nxTok (d + 1) (tkN B T 0) T B s2 (h.km hk2) ((a2.2 c3).2.2.2.2.2 (by rw [c2]; decide)) z15 (by omega)).mono ?_)
      rintro v5 s5 ⟨hv5, k5, a5⟩
      rw [hv5, eV]
      have hk5 : km N σ s5 := hk2.tr k5.m
      have base : textP B T = (if ¬ tkK B T (tkN B T 0) = 58 then .inl (fTk (tkK B T (tkN B T 0)), tkP B T (tkN B T 0)) else tNt (tkV B T 0) (rowsP B T (tkV B T 0) 33 p0 (tkN B T (tkN B T 0)))) := by
        unfold textP
        rw [if_neg (Decidable.not_not.mpr c2), if_neg (Decidable.not_not.mpr cv)]
      by_cases q3 : tkK B T (tkN B T 0) = -3
      · obtain ⟨u1, u2⟩ := a5.1 q3
        rw [base, if_pos (by rw [q3]; decide), q3]
        exact out _ 1 _ s5 hk5 u1 u2 (Nat.le_of_ble_eq_true rfl) (Nat.le_of_ble_eq_true rfl)
      have y15 := (a5.2 q3).1
      refine bX11_text_83 _ s5 (fun t => absurd y15 t) (fun _ => (qX11_wants (d + 2) _ 2 s5).mono ?_)
      rintro v6 s6 ⟨hv6, hs6⟩
      rw [hv6]
      by_cases q58 : tkK B T (tkN B T 0) = 58
      · rw [wn_y ((atM_sign a5 q3 (by decide) (by decide)).mpr q58)] at hs6
        rw [hs6, base, if_neg (Decidable.not_not.mpr q58)]
        have hN2 := tkN_le (B := B) (T := T) (p := tkN B T 0) (by rw [q58]; decide)
        refine bX11_text_101 _ s5 ((nxTok (d + 1) _ T B s5 (h.km hk5) ((a5.2 q3).2.2.2.2.2 (by rw [q58]; decide)) y15 (by omega)).mono ?_)
        rintro v7 s7 ⟨hv7, k7, a7⟩
        rw [hv7]
        refine bX11_text_105 _ s7 (key _ cv.1 cv.2 33 0 p0.2 _ s7 rfl (p0_ok cv.1 cv.2) hN2 (hk5.tr k7.m) (fun r hr => absurd hr (Nat.not_lt_zero r)) (fun i hi => ?_) a7)
        rw [k7.2.1 93 (by decide) (by decide), k5.2.1 93 (by decide) (by decide), k2.2.1 93 (by decide) (by decide)]
        exact l1 i hi
      · obtain ⟨w1, w2, w3⟩ := wn_n (x := 2) (σ := s5) (fun u => q58 ((atM_sign a5 q3 (by decide) (by decide)).mp u)) y15
        rw [← hs6] at w1 w2 w3
        rw [base, if_pos q58, show fTk (tkK B T (tkN B T 0)) = 2 from if_neg q3]
        have hp : 0 < s6.1 88 15 := by rw [w1]; decide
        refine bX11_text_101 _ s6 ((nxNo (d + 1) s6 hp).mono ?_)
        rintro v7 s7 ⟨hv7, hs7⟩
        rw [hv7, hs7]
        exact bX11_text_105 _ s6 (out107 _ _ s6 (hk5.tr (kq.w w3).m) w1 (w2.trans (a5.2 q3).2.1) (Nat.le_of_ble_eq_true rfl) (Nat.le_of_ble_eq_true rfl))
    · obtain ⟨w1, w2, w3⟩ := wn_n (x := 3) (σ := s2) (fun u => cv (inr.mp u)) z15
      rw [← hs4] at w1 w2 w3
      have e : textP B T = .inl (3, tkP B T 0) := by
        unfold textP
        rw [if_neg (Decidable.not_not.mpr c2), if_pos cv]
      rw [e]
      have hp : 0 < s4.1 88 15 := by rw [w1]; decide
      refine bX11_text_74 s4 ((nxNo (d + 1) s4 hp).mono ?_)
      rintro v7 s7 ⟨hv7, hs7⟩
      rw [hv7, hs7]
      exact out _ 3 _ s4 (hk2.tr (kq.w w3).m) w1 (w2.trans z12) (Nat.le_of_ble_eq_true rfl) (Nat.le_of_ble_eq_true rfl)
  · obtain ⟨w1, w2, w3⟩ := wn_n (x := 2) (σ := s2) (fun u => c2 ((atM_sort a2 c3).mp u)) z15
    rw [← hs3] at w1 w2 w3
    have e : textP B T = .inl (2, tkP B T 0) := by
      unfold textP
      rw [if_pos c2, show fTk (tkK B T 0) = 2 from if_neg c3]
    rw [e]
    exact out48 2 _ s3 (hk2.tr (kq.w w3).m) w1 (w2.trans z12) (Nat.le_of_ble_eq_true rfl) (Nat.le_of_ble_eq_true rfl)
end TEXTP

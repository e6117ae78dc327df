/-! TEXT: a ROW in the reference -/
section ROWM
theorem bitM0 {m i : Nat} (hm : m < 2 ^ 32) (hi : i < 32) : ((lN m >>> ((nI i).toInt64 &&& 63)) &&& 1) = 0 ↔ m.testBit i = false := by
  have h2 : m / 2 ^ i < 2 ^ 32 := Nat.lt_of_le_of_lt (Nat.div_le_self _ _) hm
  rw [shrL (by omega) (by omega), wb_a1 (by omega), Nat.testBit_eq_decide_div_mod_eq, decide_eq_false_iff_not]
  have := pk_lEQ (a := m / 2 ^ i % 2) (b := 0) (by omega) (by decide)
  exact this.trans (by omega)
def pS (B : Nat → Nat) (T : Nat) (σ : St) (v : Option Value) (s : St) (x : (Nat × Nat) ⊕ (Nat × Nat)) : Prop := kq σ s ∧ Sum.elim (fun x => (∃ y, v = some (.long y)) ∧ s.1 88 15 = nI x.1 ∧ s.1 88 16 = nI x.2 ∧ 1 ≤ x.1 ∧ x.1 ≤ 5) (fun y => v = some (.long (lN y.1)) ∧ atM B T y.2 s) x
theorem f_pos {a : Nat} (h1 : 1 ≤ a) (h5 : a ≤ 5) : (0 : Int32) < nI a := (nI_ltI (a := 0) (by decide) (by omega)).mpr (by omega)
theorem f_ne {x : Int32} (h : 0 < x) : ¬ x = 0 := fun e => by rw [e] at h; exact absurd h (by decide)
theorem out39 {d : Nat} {Q : Option Value → St → Prop} (x1 : Int32) (x3 : Int64) (x5 : Int32) (s : St) (h : 0 < s.1 88 15) (fin : Q (some (.long x3)) s) : Run MX11_readRow (d + 2) 39 [some (.ref 88), some (.int x1), none, some (.long x3), none, some (.int x5)] [] s Q := by
  have h0 := f_ne h
  have nx : Ct yX11_next MX11_next (d + 1) [.ref 88] s (fun v σ1 => Run MX11_readRow (d + 2) 202 [none, none, none, some (.long x3), none, none] (v.toList ++ []) σ1 Q) := by
    refine (nxNo d s h).mono ?_
    rintro v s2 ⟨hv, hs⟩
    rw [hv, hs]
    exact bX11_readRow_202 x3 s fin
  exact bX11_readRow_39 x1 x3 x5 s (fun _ _ => nx) (fun _ t => absurd t h0) (fun _ _ _ => nx) (fun _ _ t => absurd t h0) (fun _ t => absurd t h0)
theorem out160 {d : Nat} {Q : Option Value → St → Prop} (x1 : Int32) (x3 : Int64) (s : St) (h : 0 < s.1 88 15) (fin : Q (some (.long x3)) s) : Run MX11_readRow (d + 2) 160 [some (.ref 88), some (.int x1), none, some (.long x3), none, none] [] s Q := by
  refine bX11_readRow_160 x1 x3 s (fun _ => out39 _ _ _ s h fin) (fun _ => (nxNo d s h).mono ?_)
  rintro v s2 ⟨hv, hs⟩
  rw [hv, hs]
  exact bX11_readRow_177 x1 x3 _ s (out39 _ _ _ s h fin)
theorem atM_ok {B : Nat → Nat} {T p : Nat} {s : St} (h : atM B T p s) (h0 : s.1 88 15 = 0) : ¬ tkK B T p = -3 := fun e => by
  have := (h.1 e).1
  rw [h0] at this; exact absurd this (by decide)
/-- sorts and signs -/
theorem atM_sort {B : Nat → Nat} {T p : Nat} {s : St} (h : atM B T p s) (h3 : ¬ tkK B T p = -3) : s.1 88 13 = 1 ↔ tkK B T p = -2 := by
  obtain ⟨_, _, a1, a2, a3, _⟩ := h.2 h3
  constructor
  · intro t
    by_cases q1 : tkK B T p = -1
    · rw [a1 q1] at t; exact absurd t (by decide)
    · by_cases q2 : tkK B T p = -2
      · exact q2
      · rw [(a3 q1 q2).1] at t; exact absurd t (by decide)
  · exact fun t => (a2 t).1
theorem atM_end {B : Nat → Nat} {T p : Nat} {s : St} (h : atM B T p s) (h3 : ¬ tkK B T p = -3) : s.1 88 13 = 0 ↔ tkK B T p = -1 := by
  obtain ⟨_, _, a1, a2, a3, _⟩ := h.2 h3
  constructor
  · intro t
    by_cases q1 : tkK B T p = -1
    · exact q1
    · by_cases q2 : tkK B T p = -2
      · rw [(a2 q2).1] at t; exact absurd t (by decide)
      · rw [(a3 q1 q2).1] at t; exact absurd t (by decide)
  · exact a1
theorem atM_sign {B : Nat → Nat} {T p : Nat} {s : St} (h : atM B T p s) (h3 : ¬ tkK B T p = -3) {c : Int32} (c1 : ¬ c = -1) (c2 : ¬ c = -2) : (s.1 88 13 = 2 ∧ s.1 88 14 = c) ↔ tkK B T p = c := by
  obtain ⟨_, _, a1, a2, a3, _⟩ := h.2 h3
  constructor
  · rintro ⟨t1, t2⟩
    by_cases q1 : tkK B T p = -1
    · rw [a1 q1] at t1; exact absurd t1 (by decide)
    · by_cases q2 : tkK B T p = -2
      · rw [(a2 q2).1] at t1; exact absurd t1 (by decide)
      · rw [← (a3 q1 q2).2, t2]
  · intro t
    obtain ⟨u1, u2⟩ := a3 (by rw [t]; exact c1) (by rw [t]; exact c2)
    exact ⟨u1, u2.trans t⟩
theorem tX11_readRow (d n T p r : Nat) (L B : Nat → Nat) (hn : n ≤ 32) (hr : r ≤ 32) (hL : ∀ i, L i ≤ i) (σ : St) (h : tM B T σ) (hl : rL σ L) (ha : atM B T p σ) (h15 : σ.1 88 15 = 0) (hp : p ≤ T) : Ct yX11_readRow MX11_readRow (d + 2) [.ref 88, .int (nI n), .int (nI r)] σ (fun v s => pS B T σ v s (rowP B T n (op n L) r (T + 1) 0 p)) := by
  have hT := h.1
  have h3 := atM_ok ha h15
  have key : r < 32 → ∀ f c p x5 s, T + 1 ≤ p + f → p ≤ T → okR n L c → ¬ x5 = 0 → kq σ s → atM B T p s → Run MX11_readRow (d + 2) 39 [some (.ref 88), some (.int (nI n)), none, some (.long (lN c)), none, some (.int x5)] [] s (fun v s => pS B T σ v s (rowP B T n (op n L) r f c p)) := by
    intro hr f
    induction f with
    | zero => intro c p x5 s h1 h2; omega
    | succ f ih =>
      intro c p x5 s hf hp hc1 hx hk ha
      have hcm := okR_lt hn hc1
      have hts := h.kq hk
      have hls : rL s L := fun i hi => by rw [hk.2.1 93 (by decide) (by decide)]; exact hl i hi
      by_cases k3 : tkK B T p = -3
      · have e : rowP B T n (op n L) r (f + 1) c p = .inl (1, tkP B T p) := by
          show (if _ then _ else _) = _
          rw [if_pos (by rw [k3]; decide), k3]; rfl
        rw [e]
        obtain ⟨u1, u2⟩ := ha.1 k3
        exact out39 _ _ _ s (by rw [u1]; decide) ⟨hk, ⟨_, rfl⟩, u1, u2, (Nat.le_of_ble_eq_true rfl), (Nat.le_of_ble_eq_true rfl)⟩
      have s15 := (ha.2 k3).1
      have s12 := (ha.2 k3).2.1
      refine bX11_readRow_39 _ _ x5 s (fun t => absurd t hx) (fun t => absurd t hx) (fun _ t => absurd s15 t) (fun _ t => absurd s15 t) (fun _ _ => ?_)
      refine (qX11_wants (d + 1) _ 2 s).mono ?_
      rintro v s1 ⟨hv, hs1⟩
      rw [hv]
      by_cases k2 : tkK B T p = -2
      · rw [wn_y ((atM_sort ha k3).mpr k2)] at hs1
        rw [hs1]
        have eV := ((ha.2 k3).2.2.2.1 k2).2
        have V99 := tkV_le B T p k2
        refine bX11_readRow_69 _ _ s (fun t => absurd s15 t) (fun t => absurd s15 t) (fun t => absurd s15 t) (fun _ => ?_)
        refine (qX11_wants (d + 1) _ 3 s).mono ?_
        rintro v2 s2 ⟨hv2, hs2⟩
        rw [hv2]
        have lt : s.1 88 14 < nI n ↔ tkV B T p < n := by rw [eV]; exact nI_ltI (by omega) (by omega)
        by_cases c3 : tkV B T p < n
        · rw [wn_y (lt.mpr c3)] at hs2
          rw [hs2]
          have lb : ((lN c >>> ((s.1 88 14).toInt64 &&& 63)) &&& 1) = 0 ↔ c.testBit (tkV B T p) = false := by rw [eV]; exact bitM0 hcm (by omega)
          have lo : (0 : Int32) < s.1 93 (s.1 88 14).toNatClampNeg ↔ (op n L).testBit (tkV B T p) = true := by
            have := hL (tkV B T p)
            rw [eV, nI_clamp (by omega), hls _ (by omega), show (0 : Int32) = nI 0 from rfl, nI_ltI (by decide) (by omega), op_bit]
            exact ⟨fun q => ⟨c3, q⟩, fun q => q.2⟩
          refine bX11_readRow_94 _ _ s (fun _ _ => by rw [eV]; exact vp_in_nI (by omega) (by decide)) (fun t => absurd s15 t) (fun _ => ?_)
          refine (qX11_wants (d + 1) _ 4 s).mono ?_
          rintro v4 s4 ⟨hv4, hs4⟩
          rw [hv4]
          by_cases c4 : (op n L).testBit (tkV B T p) = true ∧ c.testBit (tkV B T p) = false
          · rw [wn_y ⟨lb.mpr c4.2, lo.mpr c4.1⟩] at hs4
            rw [hs4]
            have hc2 := okR_or hc1 c4.1
            have hN1 := tkN_le (B := B) (T := T) (p := p) (by rw [k2]; decide)
            have hG1 := tkN_gt B T p
            have hG2 := tkN_gt B T (tkN B T p)
            have eC : lN c ||| (if s.1 88 15 = 0 then ((1 : Int64) <<< ((s.1 88 14).toInt64 &&& 63)) else 0) = lN (c ||| 2 ^ tkV B T p) := by
              rw [if_pos s15, eV, shl1 (by omega), fb_orL]
            refine bX11_readRow_136 _ _ s ?_
            rw [eC]
            refine (nxTok d (tkN B T p) T B s hts ((ha.2 k3).2.2.2.2.2 (by rw [k2]; decide)) s15 (by omega)).mono ?_
            rintro v5 s5 ⟨hv5, k5, a5⟩
            rw [hv5]
            have hk5 := hk.tr k5
            have base : ∀ x, rowP B T n (op n L) r (f + 1) c p = x ↔ (if tkK B T (tkN B T p) = 59 then .inr (c ||| 2 ^ tkV B T p, tkN B T (tkN B T p)) else if ¬ tkK B T (tkN B T p) = 44 then .inl (fTk (tkK B T (tkN B T p)), tkP B T (tkN B T p)) else rowP B T n (op n L) r f (c ||| 2 ^ tkV B T p) (tkN B T (tkN B T p))) = x := by
              intro x
              have : rowP B T n (op n L) r (f + 1) c p = (if tkK B T (tkN B T p) = 59 then .inr (c ||| 2 ^ tkV B T p, tkN B T (tkN B T p)) else if ¬ tkK B T (tkN B T p) = 44 then .inl (fTk (tkK B T (tkN B T p)), tkP B T (tkN B T p)) else rowP B T n (op n L) r f (c ||| 2 ^ tkV B T p) (tkN B T (tkN B T p))) := by
                show (if _ then _ else _) = _
                rw [if_neg (by rw [k2]; decide), if_neg (by omega), if_neg (by omega), if_neg (Decidable.not_not.mpr c4)]
              rw [this]
            by_cases q3 : tkK B T (tkN B T p) = -3
            · have e := (base _).mpr (by rw [if_neg (by rw [q3]; decide), if_pos (by rw [q3]; decide), q3])
              rw [e]
              obtain ⟨u1, u2⟩ := a5.1 q3
              exact out160 _ _ s5 (by rw [u1]; decide) ⟨hk5, ⟨_, rfl⟩, u1, u2, (Nat.le_of_ble_eq_true rfl), (Nat.le_of_ble_eq_true rfl)⟩
            have z15 := (a5.2 q3).1
            have z12 := (a5.2 q3).2.1
            refine bX11_readRow_160 _ _ s5 (fun t => ?_) (fun t => ?_)
            · have n44 : ¬ tkK B T (tkN B T p) = 44 := fun u => t ((atM_sign a5 q3 (by decide) (by decide)).mpr u)
              have x0 : bI ((s5.1 88 13) = 2 ∧ (s5.1 88 14) = (44 : Int32)) = 0 := if_neg t
              refine bX11_readRow_39 _ _ _ s5 (fun _ u => absurd z15 u) (fun _ _ => ?_) (fun u => absurd x0 u) (fun u => absurd x0 u) (fun u => absurd x0 u)
              refine (qX11_wants (d + 1) _ 2 s5).mono ?_
              rintro v6 s6 ⟨hv6, hs6⟩
              rw [hv6]
              by_cases c59 : tkK B T (tkN B T p) = 59
              · rw [wn_y ((atM_sign a5 q3 (by decide) (by decide)).mpr c59)] at hs6
                rw [hs6]
                have e := (base _).mpr (by rw [if_pos c59])
                rw [e]
                have hN2 := tkN_le (B := B) (T := T) (p := tkN B T p) (by rw [c59]; decide)
                refine bX11_readRow_198 _ s5 ((nxTok d _ T B s5 (hts.kq k5) ((a5.2 q3).2.2.2.2.2 (by rw [c59]; decide)) z15 (by omega)).mono ?_)
                rintro v7 s7 ⟨hv7, k7, a7⟩
                rw [hv7]
                exact bX11_readRow_202 _ s7 ⟨hk5.tr k7, rfl, a7⟩
              · obtain ⟨w1, w2, w3⟩ := wn_n (x := 2) (σ := s5) (fun u => c59 ((atM_sign a5 q3 (by decide) (by decide)).mp u)) z15
                rw [← hs6] at w1 w2 w3
                have e := (base _).mpr (by rw [if_neg c59, if_pos n44])
                rw [e]
                have ef : fTk (tkK B T (tkN B T p)) = 2 := if_neg q3
                refine bX11_readRow_198 _ s6 ((nxNo d s6 (by rw [w1]; decide)).mono ?_)
                rintro v7 s7 ⟨hv7, hs7⟩
                rw [hv7, hs7]
                refine bX11_readRow_202 _ s6 ⟨hk5.tr (kq.w w3), ⟨_, rfl⟩, ?_, w2.trans z12, ?_, ?_⟩
                · show _ = nI (fTk _)
                  rw [w1, ef]; rfl
                · show 1 ≤ fTk _
                  rw [ef]; decide
                · show fTk _ ≤ 5
                  rw [ef]; decide
            · have c44 := (atM_sign a5 q3 (by decide) (by decide)).mp t
              have e := (base _).mpr (by rw [if_neg (by rw [c44]; decide), if_neg (Decidable.not_not.mpr c44)])
              rw [e]
              have hN2 := tkN_le (B := B) (T := T) (p := tkN B T p) (by rw [c44]; decide)
              refine (nxTok d _ T B s5 (hts.kq k5) ((a5.2 q3).2.2.2.2.2 (by rw [c44]; decide)) z15 (by omega)).mono ?_
              rintro v7 s7 ⟨hv7, k7, a7⟩
              rw [hv7]
              refine bX11_readRow_177 _ _ _ s7 (ih _ _ _ s7 (by omega) hN2 hc2 ?_ (hk5.tr k7) a7)
              unfold bI
              rw [if_pos t]; decide
          · obtain ⟨w1, w2, w3⟩ := wn_n (c := ((lN c >>> ((s.1 88 14).toInt64 &&& 63)) &&& 1) = 0 ∧ (0 : Int32) < (s.1 93 (s.1 88 14).toNatClampNeg)) (x := 4) (σ := s) (fun u => c4 ⟨lo.mp u.2, lb.mp u.1⟩) s15
            rw [← hs4] at w1 w2 w3
            have e : rowP B T n (op n L) r (f + 1) c p = .inl (4, tkP B T p) := by
              show (if _ then _ else _) = _
              rw [if_neg (by rw [k2]; decide), if_neg (by omega), if_neg (by omega), if_pos c4]
            rw [e]
            refine bX11_readRow_136 _ _ s4 ((nxNo d s4 (by rw [w1]; decide)).mono ?_)
            rintro v7 s7 ⟨hv7, hs7⟩
            rw [hv7, hs7]
            exact out160 _ _ s4 (by rw [w1]; decide) ⟨hk.tr (kq.w w3), ⟨_, rfl⟩, w1, w2.trans s12, (Nat.le_of_ble_eq_true rfl), (Nat.le_of_ble_eq_true rfl)⟩
        · obtain ⟨w1, w2, w3⟩ := wn_n (x := 3) (σ := s) (fun u => c3 (lt.mp u)) s15
          rw [← hs2] at w1 w2 w3
          have e : rowP B T n (op n L) r (f + 1) c p = .inl (3, tkP B T p) := by
            show (if _ then _ else _) = _
            rw [if_neg (by rw [k2]; decide), if_neg (by omega), if_pos (by omega)]
          rw [e]
          have n0 : ¬ s2.1 88 15 = 0 := by rw [w1]; decide
          refine bX11_readRow_94 _ _ s2 (fun t => absurd t n0) (fun _ => (nxNo d s2 (by rw [w1]; decide)).mono ?_) (fun t => absurd t n0)
          rintro v7 s7 ⟨hv7, hs7⟩
          rw [hv7, hs7]
          exact out160 _ _ s2 (by rw [w1]; decide) ⟨hk.tr (kq.w w3), ⟨_, rfl⟩, w1, w2.trans s12, (Nat.le_of_ble_eq_true rfl), (Nat.le_of_ble_eq_true rfl)⟩
      · obtain ⟨w1, w2, w3⟩ := wn_n (x := 2) (σ := s) (fun u => k2 ((atM_sort ha k3).mp u)) s15
        rw [← hs1] at w1 w2 w3
        have e : rowP B T n (op n L) r (f + 1) c p = .inl (2, tkP B T p) := by
          show (if _ then _ else _) = _
          rw [if_pos k2, show fTk (tkK B T p) = 2 from if_neg k3]
        rw [e]
        have n0 : ¬ s1.1 88 15 = 0 := by rw [w1]; decide
        refine bX11_readRow_69 _ _ s1 (fun _ t => absurd t n0) (fun _ _ => (nxNo d s1 (by rw [w1]; decide)).mono ?_) (fun _ t => absurd t n0) (fun t => absurd t n0)
        rintro v7 s7 ⟨hv7, hs7⟩
        rw [hv7, hs7]
        exact out160 _ _ s1 (by rw [w1]; decide) ⟨hk.tr (kq.w w3), ⟨_, rfl⟩, w1, w2.trans s12, (Nat.le_of_ble_eq_true rfl), (Nat.le_of_ble_eq_true rfl)⟩
  have s12 := (ha.2 h3).2.1
  refine Ct.of mX11_readRow.1 (Nat.le_of_ble_eq_true rfl) (bX11_readRow_0 (nI n) (nI r) σ ((qX11_wants (d + 1) _ 2 σ).mono ?_))
  rintro v s1 ⟨hv, hs1⟩
  rw [hv]
  refine bX11_readRow_23 (nI n) (nI r) 0 1 s1 ((qX11_wants (d + 1) _ 5 s1).mono ?_)
  rintro v2 s2 ⟨hv2, hs2⟩
  rw [hv2]
  by_cases k2 : tkK B T p = -2
  · rw [wn_y ((atM_sort ha h3).mpr k2)] at hs1
    rw [hs1] at hs2
    have lt : nI r < (32 : Int32) ↔ r < 32 := nI_ltI (b := 32) (by omega) (by decide)
    by_cases c5 : r < 32
    · rw [wn_y (lt.mpr c5)] at hs2
      rw [hs2]
      exact key c5 (T + 1) 0 p 1 σ (by omega) hp (fun i q => absurd q (by rw [Nat.zero_testBit]; decide)) (by decide) kq.rf ha
    · obtain ⟨w1, w2, w3⟩ := wn_n (x := 5) (σ := σ) (fun u => c5 (lt.mp u)) h15
      rw [← hs2] at w1 w2 w3
      have e : rowP B T n (op n L) r (T + 1) 0 p = .inl (5, tkP B T p) := by
        show (if _ then _ else _) = _
        rw [if_neg (by rw [k2]; decide), if_pos (by omega)]
      rw [e]
      exact out39 _ _ _ s2 (by rw [w1]; decide) ⟨kq.w w3, ⟨_, rfl⟩, w1, w2.trans s12, (Nat.le_of_ble_eq_true rfl), (Nat.le_of_ble_eq_true rfl)⟩
  · obtain ⟨w1, w2, w3⟩ := wn_n (x := 2) (σ := σ) (fun u => k2 ((atM_sort ha h3).mp u)) h15
    rw [← hs1] at w1 w2 w3
    rw [wn_x (by rw [w1]; decide)] at hs2
    rw [hs2]
    have e : rowP B T n (op n L) r (T + 1) 0 p = .inl (2, tkP B T p) := by
      show (if _ then _ else _) = _
      rw [if_pos k2, show fTk (tkK B T p) = 2 from if_neg h3]
    rw [e]
    exact out39 _ _ _ s1 (by rw [w1]; decide) ⟨kq.w w3, ⟨_, rfl⟩, w1, w2.trans s12, (Nat.le_of_ble_eq_true rfl), (Nat.le_of_ble_eq_true rfl)⟩
end ROWM

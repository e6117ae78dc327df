/-! THE LAW: from its entry -/
section LAWS
theorem clL_7 : Cond.classLink R_law 7 (cT 9).1 ∈ GW := gw1 15 rfl rfl
theorem clL_10 : Cond.classLink R_law 10 (cT 10).1 ∈ GW := gw4 128 rfl rfl
theorem liL_9 : Li R_law 9 yX10_init := Or.inl (gw1 17 rfl rfl)
theorem liL_12 : Li R_law 12 yX11_init := Or.inl (gw4 130 rfl rfl)
theorem aoL_N : Cond.arrayOver (.object "CarryNets$Net") ∈ tables_1 := ts1 24 rfl
theorem aoL_S : Cond.arrayOver (.object "CarryNets$Sheet") ∈ tables_1 := ts1 211 rfl
theorem known {args : Array Value} {s : State} (hgw : ∀ w ∈ GW, w.before args s = true) : ∀ c : Nat, ∃ r : ClassId × (Nat → Nat), ∀ q, cls[c]? = some q → u_Kn s q.1 q.2.1 q.2.2 r.1 r.2 := by
  intro c
  by_cases h0 : c = 0
  · subst h0
    obtain ⟨a, b, h⟩ := u_known hgw lay0.1 (hgw _ in0)
    exact ⟨(a, b), fun q hq => by rw [← Option.some.inj (lay0.2.1.symm.trans hq)]; exact h⟩
  by_cases h1 : c = 1
  · subst h1
    obtain ⟨a, b, h⟩ := u_known hgw lay1.1 (hgw _ in1)
    exact ⟨(a, b), fun q hq => by rw [← Option.some.inj (lay1.2.1.symm.trans hq)]; exact h⟩
  by_cases h2 : c = 2
  · subst h2
    obtain ⟨a, b, h⟩ := u_known hgw lay2.1 (hgw _ in2)
    exact ⟨(a, b), fun q hq => by rw [← Option.some.inj (lay2.2.1.symm.trans hq)]; exact h⟩
  by_cases h3 : c = 3
  · subst h3
    obtain ⟨a, b, h⟩ := u_known hgw lay3.1 (hgw _ in3)
    exact ⟨(a, b), fun q hq => by rw [← Option.some.inj (lay3.2.1.symm.trans hq)]; exact h⟩
  by_cases h4 : c = 4
  · subst h4
    obtain ⟨a, b, h⟩ := u_known hgw lay4.1 (hgw _ in4)
    exact ⟨(a, b), fun q hq => by rw [← Option.some.inj (lay4.2.1.symm.trans hq)]; exact h⟩
  by_cases h5 : c = 5
  · subst h5
    obtain ⟨a, b, h⟩ := u_known hgw lay5.1 (hgw _ in5)
    exact ⟨(a, b), fun q hq => by rw [← Option.some.inj (lay5.2.1.symm.trans hq)]; exact h⟩
  by_cases h6 : c = 6
  · subst h6
    obtain ⟨a, b, h⟩ := u_known hgw lay6.1 (hgw _ in6)
    exact ⟨(a, b), fun q hq => by rw [← Option.some.inj (lay6.2.1.symm.trans hq)]; exact h⟩
  by_cases h7 : c = 7
  · subst h7
    obtain ⟨a, b, h⟩ := u_known hgw lay7.1 (hgw _ in7)
    exact ⟨(a, b), fun q hq => by rw [← Option.some.inj (lay7.2.1.symm.trans hq)]; exact h⟩
  by_cases h8 : c = 8
  · subst h8
    obtain ⟨a, b, h⟩ := u_known hgw lay8.1 (hgw _ in8)
    exact ⟨(a, b), fun q hq => by rw [← Option.some.inj (lay8.2.1.symm.trans hq)]; exact h⟩
  by_cases h9 : c = 9
  · subst h9
    obtain ⟨a, b, h⟩ := u_known hgw lay9.1 (hgw _ in9)
    exact ⟨(a, b), fun q hq => by rw [← Option.some.inj (lay9.2.1.symm.trans hq)]; exact h⟩
  by_cases h10 : c = 10
  · subst h10
    obtain ⟨a, b, h⟩ := u_known hgw lay10.1 (hgw _ in10)
    exact ⟨(a, b), fun q hq => by rw [← Option.some.inj (lay10.2.1.symm.trans hq)]; exact h⟩
  refine ⟨(0, fun _ => 0), fun q hq => ?_⟩
  have : c < 11 := (List.getElem?_eq_some_iff.mp hq).1
  omega
theorem c_astore_n {X : Cx} {p : Program} {l : Launch} {e : Env} {R : Room} {s : State} {m : MethodId} {args : Array Value} {below : List Frame} {meth : Method} {c : Code} {A0 : Nat → Prop} {H0 : Heap} {Z : State → Prop} {cells slots pc : Nat} {L : List (Option Value)} {st : List Value} {k : Nat} {w : Nat → va_E} {M : Mt} (F : FB X M R p s m args c A0) {q : Fin 4} {x : Nat} (i : Nat) {L' : List (Option Value)} (hd : decode M.2.1 pc = .ok (.astore_n q, 1)) (hi : (q : Nat) = i) (hn : i < L.length) (he : st1 L i (.ref x) = L') (kk : AtC X p l e R s m args below meth c A0 H0 Z cells slots (pc + 1) L' st k w) : AtC X p l e R s m args below meth c A0 H0 Z cells slots pc L (.ref x :: st) k w := fun H locs ls hz hP hS hL => by
  subst he
  exact lv_astore_n F.1 F.2.1 hd hi hL.has hn rfl (fun ls' h' => kk H locs ls' hz hP hS (lvH_st1 (v := .ref x) h'))
set_option maxHeartbeats 4000000 in
/-- from the entry, for every script of at most 3072 ints, the law comes to its end with true -/
theorem whole_start {p : Program} {e : Env} {s : State} {m : MethodId} {below : List Frame} {meth : Method} {c : Code} (l : Launch) {b L : Nat} {xs : Nat → Int32} (hL : L ≤ 3072) (C0 : lw_At p s m meth c b L xs) : W p l e room_1 s m #[Value.ref b] below meth c s.heap [] 0 0 (lw_Z below #[Value.ref b] s) (entryFrame m ([Value.ref b] : List Value).toArray 4) := by
  obtain ⟨hx, hb, hr, hml, hown, hts, hX, hbl, hlocks, hgv⟩ := C0
  have hgw : ∀ w ∈ GW, w.before #[Value.ref b] s = true := gw_tbl hts
  have htb : ∀ w ∈ tables_1, w.before #[Value.ref b] s = true := fun w hw => hts w (List.mem_append_right _ hw)
  have hK := known hgw
  obtain ⟨cI, kI, pI, i1, i2, i3⟩ := Cond.arrayClass_spec (hgw _ ac_I)
  obtain ⟨cJ, kJ, pJ, j1, j2, j3⟩ := Cond.arrayClass_spec (hgw _ ac_J)
  obtain ⟨cB, kB, pB, b1, b2, b3⟩ := Cond.arrayClass_spec (hgw _ ac_B)
  obtain ⟨pN, cN, kN, n1, n2, n3, n4, n5⟩ := Cond.arrayOver_spec (htb _ aoL_N)
  obtain ⟨pS, cS, kS, s1, s2, s3, s4, s5⟩ := Cond.arrayOver_spec (htb _ aoL_S)
  obtain ⟨X, x1, x2, x3⟩ : ∃ X : Cx, (∀ (c : Nat) (q : vw_C), cls[c]? = some q → u_Kn s q.1 q.2.1 q.2.2 (X.1.1 c) (X.1.2 c)) ∧ (∀ i, X.2.1 i = if i = 200 then b else s.heap.size + i) ∧ X.2.2 0 = cI ∧ X.2.2 1 = cJ ∧ X.2.2 2 = cB ∧ X.2.2 3 = cN ∧ X.2.2 4 = cS := ⟨((fun c => (hK c).choose.1, fun c => (hK c).choose.2), fun i => if i = 200 then b else s.heap.size + i, fun j => if j = 0 then cI else if j = 1 then cJ else if j = 2 then cB else if j = 3 then cN else cS), fun c q hq => (hK c).choose_spec q hq, fun i => rfl, rfl, rfl, rfl, rfl, rfl⟩
  obtain ⟨x30, x31, x32, x33, x34⟩ := x3
  have vK : va_K X.1 cls (tys X) s := ⟨x1, fun k q hk => by
    match k, hk with
    | 0, hk => cases hk; exact ⟨by show ArrOfT s (X.2.2 0) .int; rw [x30]; exact fun N z => ⟨(fun k h => by cases h), kI, i2, pI, i3⟩, by show va_RA s (X.2.2 0) .int; rw [x30]; exact i1⟩
    | 1, hk => cases hk; exact ⟨by show ArrOfT s (X.2.2 1) .long; rw [x31]; exact fun N z => ⟨(fun k h => by cases h), kJ, j2, pJ, j3⟩, by show va_RA s (X.2.2 1) .long; rw [x31]; exact j1⟩
    | 2, hk => cases hk; exact ⟨by show ArrOfT s (X.2.2 2) .byte; rw [x32]; exact fun N z => ⟨(fun k h => by cases h), kB, b2, pB, b3⟩, by show va_RA s (X.2.2 2) .byte; rw [x32]; exact b1⟩
    | 3, hk => cases hk; exact ⟨by show ArrOfT s (X.2.2 3) (.object "CarryNets$Net"); rw [x33]; exact fun N z => ⟨(fun k h => by cases h), kN, n3, pN, n4⟩, by show va_RA s (X.2.2 3) (.object "CarryNets$Net"); rw [x33]; exact ⟨kN, pN, n3, n4, n1, n5⟩⟩
    | 4, hk => cases hk; exact ⟨by show ArrOfT s (X.2.2 4) (.object "CarryNets$Sheet"); rw [x34]; exact fun N z => ⟨(fun k h => by cases h), kS, s3, pS, s4⟩, by show va_RA s (X.2.2 4) (.object "CarryNets$Sheet"); rw [x34]; exact ⟨kS, pS, s3, s4, s1, s5⟩⟩
    | k + 5, hk => exact absurd (List.getElem?_eq_some_iff.mp hk).1 (by show ¬ k + 5 < 5; omega)⟩
  have ad : ∀ i, i ≤ NC → X.2.1 i = s.heap.size + i := fun i hi => by
    have : NC = 111 := rfl
    rw [x2, if_neg (by omega)]
  have hCX : CX X s := ⟨vK, fun w hw => by
    have h1 := (List.mem_filter.mp hw).2
    have h2 := htb w (List.mem_filter.mp hw).1
    cases w <;> first | exact va_Nw.of rfl h2 | exact Bool.noConfusion h1, fun i j hi hj q => by rw [ad i (by omega), ad j (by omega)] at q; omega⟩
  have hCY : CY X s := ⟨hCX, va_AO.of (htb _ aoL_N), va_AO.of (htb _ aoL_S)⟩
  have hA : ∀ i, i < NC → (fun q => s.heap.size ≤ q) (X.2.1 i) := fun i hi => by show s.heap.size ≤ X.2.1 i; rw [ad i (by omega)]; omega
  have haX : aX X := fun i hi => by rw [ad i hi, ad 0 (Nat.zero_le _)]; omega
  have F : FB X ML room_1 p s m #[Value.ref b] c (fun q => s.heap.size ≤ q) := ⟨hx, hb, hml, hown, hgw, hCY, hA, haX⟩
  have x200 : X.2.1 200 = b := by rw [x2, if_pos rfl]
  have C : LC X p s m c b L xs (fun q => s.heap.size ≤ q) 111 75884 := ⟨⟨hx, hb, hml, hown, hgw, hCX, ⟨(Nat.le_of_ble_eq_true rfl), (Nat.le_of_ble_eq_true rfl), (Nat.le_of_ble_eq_true rfl), (Nat.le_of_ble_eq_true rfl)⟩, hA⟩, hX, hbl, fun q => by have q : s.heap.size ≤ b := q; omega, x200, hL⟩
  have fin : ∀ Ls σ, AL X p l e s m below meth c b (fun q => s.heap.size ≤ q) 111 75884 (lw_Z below #[Value.ref b] s) 1315 Ls [] σ := by
    intro Ls σ
    refine (go_iconst (v := 1) eL_1315 rfl).al C ?_
    intro H locs ls hP hS hl
    refine va_forget hS.2.2 ?_
    refine W.widen (k := 600000) (n := 7302250) (Nat.le_of_ble_eq_true rfl) (Nat.le_of_ble_eq_true rfl) ?_
    exact lw_ret hx hb hr hlocks (by decide +kernel)
  have loop := lw_loop (l := l) (e := e) (below := below) (meth := meth) (Z := lw_Z below #[Value.ref b] s) C fin 600 0 s0 (by omega) (Nat.zero_le _) RA_0
  have key : AtC X p l e room_1 s m #[Value.ref b] below meth c (fun q => s.heap.size ≤ q) s.heap (lw_Z below #[Value.ref b] s) 0 0 0 (Le [.ref 200] 4) [] 0 (hE X s0) := by
    refine c_make F (N := 12) (cn := RX10) (by1 := cX10_init) (mL := 2) kX10 mX10_init liL_9 tyX10 lay9 rfl tyX10_ok clL_7 in9 it9 (by decide) (fun i _ _ => rfl) df9 rfl (Nat.le_of_ble_eq_true rfl) (Nat.le_of_ble_eq_true rfl) (Nat.le_of_ble_eq_true rfl) (Nat.le_of_ble_eq_true rfl) (Nat.le_of_ble_eq_true rfl) eL_0 eL_3 eL_4 ?_
    refine c_astore_n F 1 (L' := [some (.ref 200), some (.ref 0), none, none]) eL_7 rfl (Nat.le_of_ble_eq_true rfl) rfl ?_
    refine c_make F (N := 38) (cn := RX11) (by1 := cX11_init) (mL := 2) kX11 mX11_init liL_12 tyX11 lay10 rfl tyX11_ok clL_10 in10 it10 (by decide) (fun i _ _ => rfl) df10 rfl (Nat.le_of_ble_eq_true rfl) (Nat.le_of_ble_eq_true rfl) (Nat.le_of_ble_eq_true rfl) (Nat.le_of_ble_eq_true rfl) (Nat.le_of_ble_eq_true rfl) eL_8 eL_11 eL_12 ?_
    refine c_astore_n F 2 (L' := [some (.ref 200), some (.ref 0), some (.ref 88), none]) eL_15 rfl (Nat.le_of_ble_eq_true rfl) rfl ?_
    refine c_iconst F (v := 0) eL_16 rfl ?_
    refine c_istore_n F 3 (L' := LLoc 0) eL_17 rfl (Nat.le_of_ble_eq_true rfl) rfl ?_
    intro H locs ls hz hP hS hl
    exact loop H locs ls hP hS hl
  rw [lg_entry_eq]
  have hl := Le_H X [Value.ref 200] (n := 4) (by decide)
  have e200 : [Value.ref 200].map (cv X) = [Value.ref b] := by show [Value.ref (X.2.1 200)] = _; rw [x200]
  rw [e200] at hl
  exact key s.heap [] _ (by rw [ad 0 (Nat.zero_le _)]; rfl) (fun k q hq => by cases hq) va_S.rf hl
end LAWS

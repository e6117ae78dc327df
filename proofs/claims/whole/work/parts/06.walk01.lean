/-! CarryNets$BestNets.startState -/
theorem eX0_startState_0 : decode MX0_startState.2.1 0 = .ok (.iconst 0, 1) := by decide +kernel
theorem eX0_startState_1 : decode MX0_startState.2.1 1 = .ok (.istore_n 1, 1) := by decide +kernel
theorem eX0_startState_2 : decode MX0_startState.2.1 2 = .ok (.iconst 0, 1) := by decide +kernel
theorem eX0_startState_3 : decode MX0_startState.2.1 3 = .ok (.istore_n 2, 1) := by decide +kernel
theorem eX0_startState_4 : decode MX0_startState.2.1 4 = .ok (.iload_n 2, 1) := by decide +kernel
theorem eX0_startState_5 : decode MX0_startState.2.1 5 = .ok (.aload_n 0, 1) := by decide +kernel
theorem eX0_startState_6 : decode MX0_startState.2.1 6 = .ok (.getfield 18, 3) := by decide +kernel
theorem eX0_startState_9 : decode MX0_startState.2.1 9 = .ok (.if_icmp .ge 17, 3) := by decide +kernel
theorem eX0_startState_12 : decode MX0_startState.2.1 12 = .ok (.iload_n 1, 1) := by decide +kernel
theorem eX0_startState_13 : decode MX0_startState.2.1 13 = .ok (.iload_n 2, 1) := by decide +kernel
theorem eX0_startState_14 : decode MX0_startState.2.1 14 = .ok (.iconst 3, 1) := by decide +kernel
theorem eX0_startState_15 : decode MX0_startState.2.1 15 = .ok (.iload_n 2, 1) := by decide +kernel
theorem eX0_startState_16 : decode MX0_startState.2.1 16 = .ok (.imul, 1) := by decide +kernel
theorem eX0_startState_17 : decode MX0_startState.2.1 17 = .ok (.ishl, 1) := by decide +kernel
theorem eX0_startState_18 : decode MX0_startState.2.1 18 = .ok (.ior, 1) := by decide +kernel
theorem eX0_startState_19 : decode MX0_startState.2.1 19 = .ok (.istore_n 1, 1) := by decide +kernel
theorem eX0_startState_20 : decode MX0_startState.2.1 20 = .ok (.iinc 2 1, 3) := by decide +kernel
theorem eX0_startState_23 : decode MX0_startState.2.1 23 = .ok (.goto (-19), 3) := by decide +kernel
theorem eX0_startState_26 : decode MX0_startState.2.1 26 = .ok (.iload_n 1, 1) := by decide +kernel
theorem eX0_startState_27 : decode MX0_startState.2.1 27 = .ok (.ireturn, 1) := by decide +kernel
set_option maxRecDepth 20000 in
theorem bX0_startState_0 {d : Nat} {Q : Option Value → St → Prop} (σ : St) 
    (k1 : Run MX0_startState d 4 [some (.ref 21), some (.int 0), some (.int 0)] [] σ Q)
    : Run MX0_startState d 0 [some (.ref 21), none, none] [] σ Q := by
  refine (go_iconst (v := 0) eX0_startState_0 rfl).run ?_
  refine (go_istore_n 1 (L' := [some (.ref 21), some (.int 0), none]) eX0_startState_1 rfl (Nat.le_of_ble_eq_true rfl) rfl).run ?_
  refine (go_iconst (v := 0) eX0_startState_2 rfl).run ?_
  refine (go_istore_n 2 (L' := [some (.ref 21), some (.int 0), some (.int 0)]) eX0_startState_3 rfl (Nat.le_of_ble_eq_true rfl) rfl).run ?_
  exact k1

set_option maxRecDepth 20000 in
theorem bX0_startState_4 {d : Nat} {Q : Option Value → St → Prop} (x1 : Int32) (x2 : Int32) (σ : St) 
    (k1 : (σ.1 21 2) ≤ x2 → Q (some (.int x1)) σ)
    (k2 : x2 < (σ.1 21 2) → Run MX0_startState d 4 [some (.ref 21), some (.int (x1 ||| (x2 <<< (((3 : Int32) * x2) &&& 31)))), some (.int (x2 + 1))] [] σ Q)
    : Run MX0_startState d 4 [some (.ref 21), some (.int x1), some (.int x2)] [] σ Q := by
  refine (go_iload_n 2 eX0_startState_4 rfl rfl).run ?_
  refine (go_aload_n 0 eX0_startState_5 rfl rfl).run ?_
  refine (go_geti flX0_18 rf_0_2 kd_21 eX0_startState_6).run ?_
  refine (bi_ge 26 eX0_startState_9 rfl).run (fun h1 => ?_) (fun h1 => ?_)
  · refine (go_iload_n 1 eX0_startState_26 rfl rfl).run ?_
    exact Run.ret (v := some (.int x1)) (k1 h1) ⟨Or.inl rfl, eX0_startState_27⟩ rfl
  · refine (go_iload_n 1 eX0_startState_12 rfl rfl).run ?_
    refine (go_iload_n 2 eX0_startState_13 rfl rfl).run ?_
    refine (go_iconst (v := 3) eX0_startState_14 rfl).run ?_
    refine (go_iload_n 2 eX0_startState_15 rfl rfl).run ?_
    refine (go_imul eX0_startState_16).run ?_
    refine (go_ishl eX0_startState_17).run ?_
    refine (go_ior eX0_startState_18).run ?_
    refine (go_istore_n 1 (L' := [some (.ref 21), some (.int (x1 ||| (x2 <<< (((3 : Int32) * x2) &&& 31)))), some (.int x2)]) eX0_startState_19 rfl (Nat.le_of_ble_eq_true rfl) rfl).run ?_
    refine (go_iinc 2 (v := (x2 + 1)) (L' := [some (.ref 21), some (.int (x1 ||| (x2 <<< (((3 : Int32) * x2) &&& 31)))), some (.int (x2 + 1))]) eX0_startState_20 rfl rfl (Nat.le_of_ble_eq_true rfl) rfl).run ?_
    refine (go_goto 4 eX0_startState_23 rfl).run ?_
    exact (k2 h1)

/-! CarryNets.at -/
theorem eX10_at_0 : decode MX10_at.2.1 0 = .ok (.iload_n 1, 1) := by decide +kernel
theorem eX10_at_1 : decode MX10_at.2.1 1 = .ok (.ifCond .lt 15, 3) := by decide +kernel
theorem eX10_at_4 : decode MX10_at.2.1 4 = .ok (.iload_n 1, 1) := by decide +kernel
theorem eX10_at_5 : decode MX10_at.2.1 5 = .ok (.aload_n 0, 1) := by decide +kernel
theorem eX10_at_6 : decode MX10_at.2.1 6 = .ok (.arraylength, 1) := by decide +kernel
theorem eX10_at_7 : decode MX10_at.2.1 7 = .ok (.if_icmp .ge 9, 3) := by decide +kernel
theorem eX10_at_10 : decode MX10_at.2.1 10 = .ok (.aload_n 0, 1) := by decide +kernel
theorem eX10_at_11 : decode MX10_at.2.1 11 = .ok (.iload_n 1, 1) := by decide +kernel
theorem eX10_at_12 : decode MX10_at.2.1 12 = .ok (.iaload, 1) := by decide +kernel
theorem eX10_at_13 : decode MX10_at.2.1 13 = .ok (.goto 4, 3) := by decide +kernel
theorem eX10_at_16 : decode MX10_at.2.1 16 = .ok (.iconst 0, 1) := by decide +kernel
theorem eX10_at_17 : decode MX10_at.2.1 17 = .ok (.ireturn, 1) := by decide +kernel
set_option maxRecDepth 20000 in
theorem bX10_at_0 {d : Nat} {Q : Option Value → St → Prop} (a0 : Nat) (x1 : Int32) (σ : St) (ha0 : kd a0 = 100) 
    (g1 : (0 : Int32) ≤ x1 → x1 < (nI (ln a0)) → vp_in x1 (ln a0))
    (k1 : Q (some (.int (if x1 < 0 then (0 : Int32) else (if (nI (ln a0)) ≤ x1 then (0 : Int32) else (σ.1 a0 x1.toNatClampNeg))))) σ)
    : Run MX10_at d 0 [some (.ref a0), some (.int x1)] [] σ Q := by
  refine (go_iload_n 1 eX10_at_0 rfl rfl).run ?_
  have hJh1 : Run MX10_at d 17 [none, none] [.int (if x1 < 0 then (0 : Int32) else (if (nI (ln a0)) ≤ x1 then (0 : Int32) else (σ.1 a0 x1.toNatClampNeg)))] σ Q := by
    exact Run.ret (v := some (.int (if x1 < 0 then (0 : Int32) else (if (nI (ln a0)) ≤ x1 then (0 : Int32) else (σ.1 a0 x1.toNatClampNeg))))) k1 ⟨Or.inl rfl, eX10_at_17⟩ rfl
  refine (bz_lt 16 eX10_at_1 rfl).run (fun h1 => ?_) (fun h1 => ?_)
  · refine (go_iconst (v := 0) eX10_at_16 rfl).run ?_
    refine (go_sub (L' := [none, none]) (lsub_drop (lsub_drop lsub_nil))).run ?_
    first | exact hJh1 | (simp only [if_pos h1] at hJh1; exact hJh1) | (simp only [eq_true h1, eq_false (i32_nle.mpr h1), true_and, and_true, false_and, and_false, true_or, or_true, false_or, or_false, not_true_eq_false, not_false_eq_true] at hJh1; exact hJh1) | exact Run.eq (by simp [eq_true h1, eq_false (i32_nle.mpr h1), bI]) (by simp [eq_true h1, eq_false (i32_nle.mpr h1), bI]) rfl hJh1
  · refine (go_iload_n 1 eX10_at_4 rfl rfl).run ?_
    refine (go_aload_n 0 eX10_at_5 rfl rfl).run ?_
    refine (go_alen100 (v := nI (ln a0)) ha0 rfl rfl eX10_at_6).run ?_
    have hJh2 : Run MX10_at d 17 [none, none] [.int (if (nI (ln a0)) ≤ x1 then (0 : Int32) else (σ.1 a0 x1.toNatClampNeg))] σ Q := by
      first | exact hJh1 | (simp only [if_neg (i32_nlt.mpr h1)] at hJh1; exact hJh1) | (simp only [eq_true h1, eq_false (i32_nlt.mpr h1), true_and, and_true, false_and, and_false, true_or, or_true, false_or, or_false, not_true_eq_false, not_false_eq_true] at hJh1; exact hJh1) | exact Run.eq (by simp [eq_true h1, eq_false (i32_nlt.mpr h1), bI]) (by simp [eq_true h1, eq_false (i32_nlt.mpr h1), bI]) rfl hJh1
    refine (bi_ge 16 eX10_at_7 rfl).run (fun h2 => ?_) (fun h2 => ?_)
    · refine (go_iconst (v := 0) eX10_at_16 rfl).run ?_
      refine (go_sub (L' := [none, none]) (lsub_drop (lsub_drop lsub_nil))).run ?_
      first | exact hJh2 | (simp only [if_pos h2] at hJh2; exact hJh2) | (simp only [eq_true h2, eq_false (i32_nlt.mpr h2), true_and, and_true, false_and, and_false, true_or, or_true, false_or, or_false, not_true_eq_false, not_false_eq_true] at hJh2; exact hJh2) | exact Run.eq (by simp [eq_true h2, eq_false (i32_nlt.mpr h2), bI]) (by simp [eq_true h2, eq_false (i32_nlt.mpr h2), bI]) rfl hJh2
    · refine (go_aload_n 0 eX10_at_10 rfl rfl).run ?_
      refine (go_iload_n 1 eX10_at_11 rfl rfl).run ?_
      refine (go_iald ha0 rfl (g1 h1 h2) eX10_at_12).run ?_
      refine (go_goto 17 eX10_at_13 rfl).run ?_
      refine (go_sub (L' := [none, none]) (lsub_drop (lsub_drop lsub_nil))).run ?_
      first | exact hJh2 | (simp only [if_neg (i32_nle.mpr h2)] at hJh2; exact hJh2) | (simp only [eq_true h2, eq_false (i32_nle.mpr h2), true_and, and_true, false_and, and_false, true_or, or_true, false_or, or_false, not_true_eq_false, not_false_eq_true] at hJh2; exact hJh2) | exact Run.eq (by simp [eq_true h2, eq_false (i32_nle.mpr h2), bI]) (by simp [eq_true h2, eq_false (i32_nle.mpr h2), bI]) rfl hJh2

theorem qX10_at (d : Nat) (a0 : Nat) (x1 : Int32) (σ : St) (ha0 : kd a0 = 100) : Ct yX10_at MX10_at d [.ref a0, .int x1] σ (fun v σ1 => v = some (.int (aG a0 x1 σ)) ∧ σ1 = σ) :=
  Ct.of mX10_at.1 (Nat.le_of_ble_eq_true rfl) (bX10_at_0 a0 x1 σ ha0 (fun h0 h1 => vp_of h0 h1 (Nat.lt_of_lt_of_le (ln_small a0) (by decide))) ⟨rfl, rfl⟩)

/-! CarryNets.put -/
theorem eX10_put_0 : decode MX10_put.2.1 0 = .ok (.iload_n 1, 1) := by decide +kernel
theorem eX10_put_1 : decode MX10_put.2.1 1 = .ok (.ifCond .lt 13, 3) := by decide +kernel
theorem eX10_put_4 : decode MX10_put.2.1 4 = .ok (.iload_n 1, 1) := by decide +kernel
theorem eX10_put_5 : decode MX10_put.2.1 5 = .ok (.aload_n 0, 1) := by decide +kernel
theorem eX10_put_6 : decode MX10_put.2.1 6 = .ok (.arraylength, 1) := by decide +kernel
theorem eX10_put_7 : decode MX10_put.2.1 7 = .ok (.if_icmp .ge 7, 3) := by decide +kernel
theorem eX10_put_10 : decode MX10_put.2.1 10 = .ok (.aload_n 0, 1) := by decide +kernel
theorem eX10_put_11 : decode MX10_put.2.1 11 = .ok (.iload_n 1, 1) := by decide +kernel
theorem eX10_put_12 : decode MX10_put.2.1 12 = .ok (.iload_n 2, 1) := by decide +kernel
theorem eX10_put_13 : decode MX10_put.2.1 13 = .ok (.iastore, 1) := by decide +kernel
theorem eX10_put_14 : decode MX10_put.2.1 14 = .ok (.return_, 1) := by decide +kernel
set_option maxRecDepth 20000 in
theorem bX10_put_0 {d : Nat} {Q : Option Value → St → Prop} (a0 : Nat) (x1 : Int32) (x2 : Int32) (σ : St) (ha0 : kd a0 = 100) 
    (g1 : (0 : Int32) ≤ x1 → x1 < (nI (ln a0)) → vp_in x1 (ln a0))
    (k1 : x1 < 0 → Q (none) σ)
    (k2 : (0 : Int32) ≤ x1 → (nI (ln a0)) ≤ x1 → Q (none) σ)
    (k3 : (0 : Int32) ≤ x1 → x1 < (nI (ln a0)) → Q (none) (sA σ a0 (upd (σ.1 a0) x1.toNatClampNeg x2)))
    : Run MX10_put d 0 [some (.ref a0), some (.int x1), some (.int x2)] [] σ Q := by
  refine (go_iload_n 1 eX10_put_0 rfl rfl).run ?_
  refine (bz_lt 14 eX10_put_1 rfl).run (fun h1 => ?_) (fun h1 => ?_)
  · exact Run.ret (v := none) (k1 h1) ⟨rfl, eX10_put_14⟩ rfl
  · refine (go_iload_n 1 eX10_put_4 rfl rfl).run ?_
    refine (go_aload_n 0 eX10_put_5 rfl rfl).run ?_
    refine (go_alen100 (v := nI (ln a0)) ha0 rfl rfl eX10_put_6).run ?_
    refine (bi_ge 14 eX10_put_7 rfl).run (fun h2 => ?_) (fun h2 => ?_)
    · exact Run.ret (v := none) (k2 h1 h2) ⟨rfl, eX10_put_14⟩ rfl
    · refine (go_aload_n 0 eX10_put_10 rfl rfl).run ?_
      refine (go_iload_n 1 eX10_put_11 rfl rfl).run ?_
      refine (go_iload_n 2 eX10_put_12 rfl rfl).run ?_
      refine (go_iast ha0 rfl (g1 h1 h2) eX10_put_13).run ?_
      exact Run.ret (v := none) (k3 h1 h2) ⟨rfl, eX10_put_14⟩ rfl

theorem qX10_put (d : Nat) (a0 : Nat) (x1 : Int32) (x2 : Int32) (σ : St) (ha0 : kd a0 = 100) : Ct yX10_put MX10_put d [.ref a0, .int x1, .int x2] σ (fun v σ1 => v = none ∧ σ1 = aP a0 x1 x2 σ) :=
  Ct.of mX10_put.1 (Nat.le_of_ble_eq_true rfl) (bX10_put_0 a0 x1 x2 σ ha0 (fun h0 h1 => vp_of h0 h1 (Nat.lt_of_lt_of_le (ln_small a0) (by decide)))
    (fun h => ⟨rfl, by unfold aP; rw [if_pos h]⟩) (fun h h2 => ⟨rfl, by unfold aP; rw [if_neg (i32_nlt.mpr h), if_pos h2]⟩) (fun h h2 => ⟨rfl, by unfold aP; rw [if_neg (i32_nlt.mpr h), if_neg (i32_nle.mpr h2)]⟩))

/-! CarryNets$BestNets.found -/
theorem eX0_found_0 : decode MX0_found.2.1 0 = .ok (.aload_n 0, 1) := by decide +kernel
theorem eX0_found_1 : decode MX0_found.2.1 1 = .ok (.getfield 28, 3) := by decide +kernel
theorem eX0_found_4 : decode MX0_found.2.1 4 = .ok (.ifCond .ne 52, 3) := by decide +kernel
theorem eX0_found_7 : decode MX0_found.2.1 7 = .ok (.iconst 0, 1) := by decide +kernel
theorem eX0_found_8 : decode MX0_found.2.1 8 = .ok (.istore_n 2, 1) := by decide +kernel
theorem eX0_found_9 : decode MX0_found.2.1 9 = .ok (.iload_n 2, 1) := by decide +kernel
theorem eX0_found_10 : decode MX0_found.2.1 10 = .ok (.bipush 6, 2) := by decide +kernel
theorem eX0_found_12 : decode MX0_found.2.1 12 = .ok (.if_icmp .ge 39, 3) := by decide +kernel
theorem eX0_found_15 : decode MX0_found.2.1 15 = .ok (.aload_n 0, 1) := by decide +kernel
theorem eX0_found_16 : decode MX0_found.2.1 16 = .ok (.getfield 15, 3) := by decide +kernel
theorem eX0_found_19 : decode MX0_found.2.1 19 = .ok (.iload_n 2, 1) := by decide +kernel
theorem eX0_found_20 : decode MX0_found.2.1 20 = .ok (.iload_n 2, 1) := by decide +kernel
theorem eX0_found_21 : decode MX0_found.2.1 21 = .ok (.aload_n 0, 1) := by decide +kernel
theorem eX0_found_22 : decode MX0_found.2.1 22 = .ok (.getfield 22, 3) := by decide +kernel
theorem eX0_found_25 : decode MX0_found.2.1 25 = .ok (.iload_n 1, 1) := by decide +kernel
theorem eX0_found_26 : decode MX0_found.2.1 26 = .ok (.isub, 1) := by decide +kernel
theorem eX0_found_27 : decode MX0_found.2.1 27 = .ok (.if_icmp .ge 14, 3) := by decide +kernel
theorem eX0_found_30 : decode MX0_found.2.1 30 = .ok (.aload_n 0, 1) := by decide +kernel
theorem eX0_found_31 : decode MX0_found.2.1 31 = .ok (.getfield 9, 3) := by decide +kernel
theorem eX0_found_34 : decode MX0_found.2.1 34 = .ok (.iload_n 2, 1) := by decide +kernel
theorem eX0_found_35 : decode MX0_found.2.1 35 = .ok (.invokestatic 88, 3) := by decide +kernel
theorem eX0_found_38 : decode MX0_found.2.1 38 = .ok (.goto 4, 3) := by decide +kernel
theorem eX0_found_41 : decode MX0_found.2.1 41 = .ok (.iconst 0, 1) := by decide +kernel
theorem eX0_found_42 : decode MX0_found.2.1 42 = .ok (.invokestatic 80, 3) := by decide +kernel
theorem eX0_found_45 : decode MX0_found.2.1 45 = .ok (.iinc 2 1, 3) := by decide +kernel
theorem eX0_found_48 : decode MX0_found.2.1 48 = .ok (.goto (-39), 3) := by decide +kernel
theorem eX0_found_51 : decode MX0_found.2.1 51 = .ok (.aload_n 0, 1) := by decide +kernel
theorem eX0_found_52 : decode MX0_found.2.1 52 = .ok (.iconst 1, 1) := by decide +kernel
theorem eX0_found_53 : decode MX0_found.2.1 53 = .ok (.putfield 28, 3) := by decide +kernel
theorem eX0_found_56 : decode MX0_found.2.1 56 = .ok (.iconst 1, 1) := by decide +kernel
theorem eX0_found_57 : decode MX0_found.2.1 57 = .ok (.ireturn, 1) := by decide +kernel
set_option maxRecDepth 20000 in
theorem bX0_found_0 {d : Nat} {Q : Option Value → St → Prop} (x1 : Int32) (σ : St) 
    (k1 : ¬ (σ.1 21 7) = 0 → Q (some (.int 1)) σ)
    (k2 : (σ.1 21 7) = 0 → Run MX0_found (d + 3) 9 [some (.ref 21), some (.int x1), some (.int 0)] [] σ Q)
    : Run MX0_found (d + 3) 0 [some (.ref 21), some (.int x1), none] [] σ Q := by
  refine (go_aload_n 0 eX0_found_0 rfl rfl).run ?_
  refine (go_geti flX0_28 rf_0_7 kd_21 eX0_found_1).run ?_
  refine (bz_ne 56 eX0_found_4 rfl).run (fun h1 => ?_) (fun h1 => ?_)
  · refine (go_iconst (v := 1) eX0_found_56 rfl).run ?_
    exact Run.ret (v := some (.int 1)) (k1 h1) ⟨Or.inl rfl, eX0_found_57⟩ rfl
  · refine (go_iconst (v := 0) eX0_found_7 rfl).run ?_
    refine (go_istore_n 2 (L' := [some (.ref 21), some (.int x1), some (.int 0)]) eX0_found_8 rfl (Nat.le_of_ble_eq_true rfl) rfl).run ?_
    exact (k2 h1)

set_option maxRecDepth 20000 in
theorem bX0_found_9 {d : Nat} {Q : Option Value → St → Prop} (x1 : Int32) (x2 : Int32) (σ : St) 
    (k1 : (6 : Int32) ≤ x2 → Q (some (.int 1)) (sA σ 21 (upd (σ.1 21) 7 1)))
    (k2 : x2 < 6 → Run MX0_found (d + 3) 9 [some (.ref 21), some (.int x1), some (.int (x2 + 1))] [] (aP 23 x2 (if ((σ.1 21 3) - x1) ≤ x2 then (0 : Int32) else ((aG 22 x2 σ))) σ) Q)
    : Run MX0_found (d + 3) 9 [some (.ref 21), some (.int x1), some (.int x2)] [] σ Q := by
  refine (go_iload_n 2 eX0_found_9 rfl rfl).run ?_
  refine (go_bipush (v := 6) eX0_found_10 rfl).run ?_
  refine (bi_ge 51 eX0_found_12 rfl).run (fun h1 => ?_) (fun h1 => ?_)
  · refine (go_aload_n 0 eX0_found_51 rfl rfl).run ?_
    refine (go_iconst (v := 1) eX0_found_52 rfl).run ?_
    refine (go_puti flX0_28 rf_0_7 rfl pf_0_7 rfl rfl kd_21 eX0_found_53).run ?_
    refine (go_iconst (v := 1) eX0_found_56 rfl).run ?_
    exact Run.ret (v := some (.int 1)) (k1 h1) ⟨Or.inl rfl, eX0_found_57⟩ rfl
  · refine (go_aload_n 0 eX0_found_15 rfl rfl).run ?_
    refine (go_getr flX0_15 rf_0_6 kd_21 gr_21_6 eX0_found_16).run ?_
    refine (go_iload_n 2 eX0_found_19 rfl rfl).run ?_
    refine (go_iload_n 2 eX0_found_20 rfl rfl).run ?_
    refine (go_aload_n 0 eX0_found_21 rfl rfl).run ?_
    refine (go_geti flX0_22 rf_0_3 kd_21 eX0_found_22).run ?_
    refine (go_iload_n 1 eX0_found_25 rfl rfl).run ?_
    refine (go_isub eX0_found_26).run ?_
    have hJh2 : Run MX0_found (d + 3) 42 [some (.ref 21), some (.int x1), some (.int x2)] [.int (if ((σ.1 21 3) - x1) ≤ x2 then (0 : Int32) else ((aG 22 x2 σ))), .int x2, .ref 23] σ Q := by
      refine Run.callS0 (d := (d + 2)) (As := [.ref 23, .int x2, .int (if ((σ.1 21 3) - x1) ≤ x2 then (0 : Int32) else ((aG 22 x2 σ)))]) mX10_put lkX0_80 rfl rfl rfl (Nat.le_of_ble_eq_true rfl) eX0_found_42 (qX10_put (d + 2) 23 x2 (if ((σ.1 21 3) - x1) ≤ x2 then (0 : Int32) else ((aG 22 x2 σ))) σ kd_23 ) ?_
      refine (go_iinc 2 (v := (x2 + 1)) (L' := [some (.ref 21), some (.int x1), some (.int (x2 + 1))]) eX0_found_45 rfl rfl (Nat.le_of_ble_eq_true rfl) rfl).run ?_
      refine (go_goto 9 eX0_found_48 rfl).run ?_
      exact (k2 h1)
    refine (bi_ge 41 eX0_found_27 rfl).run (fun h2 => ?_) (fun h2 => ?_)
    · refine (go_iconst (v := 0) eX0_found_41 rfl).run ?_
      first | exact hJh2 | (simp only [if_pos h2] at hJh2; exact hJh2) | (simp only [eq_true h2, eq_false (i32_nlt.mpr h2), true_and, and_true, false_and, and_false, true_or, or_true, false_or, or_false, not_true_eq_false, not_false_eq_true] at hJh2; exact hJh2) | exact Run.eq (by simp [eq_true h2, eq_false (i32_nlt.mpr h2), bI]) (by simp [eq_true h2, eq_false (i32_nlt.mpr h2), bI]) rfl hJh2
    · refine (go_aload_n 0 eX0_found_30 rfl rfl).run ?_
      refine (go_getr flX0_9 rf_0_5 kd_21 gr_21_5 eX0_found_31).run ?_
      refine (go_iload_n 2 eX0_found_34 rfl rfl).run ?_
      refine Run.callS1 (d := (d + 2)) (As := [.ref 22, .int x2]) (r := .int ((aG 22 x2 σ))) mX10_at lkX0_88 rfl rfl rfl (Nat.le_of_ble_eq_true rfl) eX0_found_35 (qX10_at (d + 2) 22 x2 σ kd_22 ) ?_
      refine (go_goto 42 eX0_found_38 rfl).run ?_
      first | exact hJh2 | (simp only [if_neg (i32_nle.mpr h2)] at hJh2; exact hJh2) | (simp only [eq_true h2, eq_false (i32_nle.mpr h2), true_and, and_true, false_and, and_false, true_or, or_true, false_or, or_false, not_true_eq_false, not_false_eq_true] at hJh2; exact hJh2) | exact Run.eq (by simp [eq_true h2, eq_false (i32_nle.mpr h2), bI]) (by simp [eq_true h2, eq_false (i32_nle.mpr h2), bI]) rfl hJh2

/-! CarryNets$BestNets.part -/
theorem eX0_part_0 : decode MX0_part.2.1 0 = .ok (.iload_n 0, 1) := by decide +kernel
theorem eX0_part_1 : decode MX0_part.2.1 1 = .ok (.iconst 3, 1) := by decide +kernel
theorem eX0_part_2 : decode MX0_part.2.1 2 = .ok (.iload_n 1, 1) := by decide +kernel
theorem eX0_part_3 : decode MX0_part.2.1 3 = .ok (.imul, 1) := by decide +kernel
theorem eX0_part_4 : decode MX0_part.2.1 4 = .ok (.ishr, 1) := by decide +kernel
theorem eX0_part_5 : decode MX0_part.2.1 5 = .ok (.bipush 7, 2) := by decide +kernel
theorem eX0_part_7 : decode MX0_part.2.1 7 = .ok (.iand, 1) := by decide +kernel
theorem eX0_part_8 : decode MX0_part.2.1 8 = .ok (.ireturn, 1) := by decide +kernel
set_option maxRecDepth 20000 in
theorem bX0_part_0 {d : Nat} {Q : Option Value → St → Prop} (x0 : Int32) (x1 : Int32) (σ : St) 
    (k1 : Q (some (.int ((x0 >>> (((3 : Int32) * x1) &&& 31)) &&& 7))) σ)
    : Run MX0_part d 0 [some (.int x0), some (.int x1)] [] σ Q := by
  refine (go_iload_n 0 eX0_part_0 rfl rfl).run ?_
  refine (go_iconst (v := 3) eX0_part_1 rfl).run ?_
  refine (go_iload_n 1 eX0_part_2 rfl rfl).run ?_
  refine (go_imul eX0_part_3).run ?_
  refine (go_ishr eX0_part_4).run ?_
  refine (go_bipush (v := 7) eX0_part_5 rfl).run ?_
  refine (go_iand eX0_part_7).run ?_
  exact Run.ret (v := some (.int ((x0 >>> (((3 : Int32) * x1) &&& 31)) &&& 7))) k1 ⟨Or.inl rfl, eX0_part_8⟩ rfl

def rX0_part (x0 : Int32) (x1 : Int32) (σ : St) : Int32 := ((x0 >>> (((3 : Int32) * x1) &&& 31)) &&& 7)
theorem qX0_part (d : Nat) (x0 : Int32) (x1 : Int32) (σ : St) : Ct yX0_part MX0_part d [.int x0, .int x1] σ (fun v σ1 => v = some (.int (rX0_part x0 x1 σ)) ∧ σ1 = σ) :=
  Ct.of mX0_part.1 (Nat.le_of_ble_eq_true rfl) (bX0_part_0 x0 x1 σ   (⟨by first | rfl | (simp only [rX0_part, true_and, and_true, false_and, and_false, true_or, or_true, false_or, or_false, not_true_eq_false, not_false_eq_true, if_true, if_false]; done) | (simp [rX0_part, bI]; done), by first | rfl | (simp only [rX0_part, true_and, and_true, false_and, and_false, true_or, or_true, false_or, or_false, not_true_eq_false, not_false_eq_true, if_true, if_false]; done) | (simp [rX0_part, bI]; done)⟩))

/-! CarryNets$BestNets.longestChain -/
theorem eX0_longestChain_0 : decode MX0_longestChain.2.1 0 = .ok (.iconst 0, 1) := by decide +kernel
theorem eX0_longestChain_1 : decode MX0_longestChain.2.1 1 = .ok (.istore_n 2, 1) := by decide +kernel
theorem eX0_longestChain_2 : decode MX0_longestChain.2.1 2 = .ok (.iconst 0, 1) := by decide +kernel
theorem eX0_longestChain_3 : decode MX0_longestChain.2.1 3 = .ok (.istore_n 3, 1) := by decide +kernel
theorem eX0_longestChain_4 : decode MX0_longestChain.2.1 4 = .ok (.iconst 1, 1) := by decide +kernel
theorem eX0_longestChain_5 : decode MX0_longestChain.2.1 5 = .ok (.istore 4, 2) := by decide +kernel
theorem eX0_longestChain_7 : decode MX0_longestChain.2.1 7 = .ok (.iload 4, 2) := by decide +kernel
theorem eX0_longestChain_9 : decode MX0_longestChain.2.1 9 = .ok (.aload_n 0, 1) := by decide +kernel
theorem eX0_longestChain_10 : decode MX0_longestChain.2.1 10 = .ok (.getfield 18, 3) := by decide +kernel
theorem eX0_longestChain_13 : decode MX0_longestChain.2.1 13 = .ok (.if_icmp .ge 55, 3) := by decide +kernel
theorem eX0_longestChain_16 : decode MX0_longestChain.2.1 16 = .ok (.iload_n 1, 1) := by decide +kernel
theorem eX0_longestChain_17 : decode MX0_longestChain.2.1 17 = .ok (.iload 4, 2) := by decide +kernel
theorem eX0_longestChain_19 : decode MX0_longestChain.2.1 19 = .ok (.invokestatic 92, 3) := by decide +kernel
theorem eX0_longestChain_22 : decode MX0_longestChain.2.1 22 = .ok (.istore 5, 2) := by decide +kernel
theorem eX0_longestChain_24 : decode MX0_longestChain.2.1 24 = .ok (.iload 5, 2) := by decide +kernel
theorem eX0_longestChain_26 : decode MX0_longestChain.2.1 26 = .ok (.ifCond .ne 7, 3) := by decide +kernel
theorem eX0_longestChain_29 : decode MX0_longestChain.2.1 29 = .ok (.iconst 0, 1) := by decide +kernel
theorem eX0_longestChain_30 : decode MX0_longestChain.2.1 30 = .ok (.goto 13, 3) := by decide +kernel
theorem eX0_longestChain_33 : decode MX0_longestChain.2.1 33 = .ok (.iconst 1, 1) := by decide +kernel
theorem eX0_longestChain_34 : decode MX0_longestChain.2.1 34 = .ok (.iload_n 3, 1) := by decide +kernel
theorem eX0_longestChain_35 : decode MX0_longestChain.2.1 35 = .ok (.iload 5, 2) := by decide +kernel
theorem eX0_longestChain_37 : decode MX0_longestChain.2.1 37 = .ok (.iconst 1, 1) := by decide +kernel
theorem eX0_longestChain_38 : decode MX0_longestChain.2.1 38 = .ok (.isub, 1) := by decide +kernel
theorem eX0_longestChain_39 : decode MX0_longestChain.2.1 39 = .ok (.invokestatic 92, 3) := by decide +kernel
theorem eX0_longestChain_42 : decode MX0_longestChain.2.1 42 = .ok (.iadd, 1) := by decide +kernel
theorem eX0_longestChain_43 : decode MX0_longestChain.2.1 43 = .ok (.istore 6, 2) := by decide +kernel
theorem eX0_longestChain_45 : decode MX0_longestChain.2.1 45 = .ok (.iload_n 3, 1) := by decide +kernel
theorem eX0_longestChain_46 : decode MX0_longestChain.2.1 46 = .ok (.iload 6, 2) := by decide +kernel
theorem eX0_longestChain_48 : decode MX0_longestChain.2.1 48 = .ok (.iconst 3, 1) := by decide +kernel
theorem eX0_longestChain_49 : decode MX0_longestChain.2.1 49 = .ok (.iload 4, 2) := by decide +kernel
theorem eX0_longestChain_51 : decode MX0_longestChain.2.1 51 = .ok (.imul, 1) := by decide +kernel
theorem eX0_longestChain_52 : decode MX0_longestChain.2.1 52 = .ok (.ishl, 1) := by decide +kernel
theorem eX0_longestChain_53 : decode MX0_longestChain.2.1 53 = .ok (.ior, 1) := by decide +kernel
theorem eX0_longestChain_54 : decode MX0_longestChain.2.1 54 = .ok (.istore_n 3, 1) := by decide +kernel
theorem eX0_longestChain_55 : decode MX0_longestChain.2.1 55 = .ok (.iload_n 2, 1) := by decide +kernel
theorem eX0_longestChain_56 : decode MX0_longestChain.2.1 56 = .ok (.iload 6, 2) := by decide +kernel
theorem eX0_longestChain_58 : decode MX0_longestChain.2.1 58 = .ok (.invokestatic 95, 3) := by decide +kernel
theorem eX0_longestChain_61 : decode MX0_longestChain.2.1 61 = .ok (.istore_n 2, 1) := by decide +kernel
theorem eX0_longestChain_62 : decode MX0_longestChain.2.1 62 = .ok (.iinc 4 1, 3) := by decide +kernel
theorem eX0_longestChain_65 : decode MX0_longestChain.2.1 65 = .ok (.goto (-58), 3) := by decide +kernel
theorem eX0_longestChain_68 : decode MX0_longestChain.2.1 68 = .ok (.iload_n 2, 1) := by decide +kernel
theorem eX0_longestChain_69 : decode MX0_longestChain.2.1 69 = .ok (.ireturn, 1) := by decide +kernel
set_option maxRecDepth 20000 in
theorem bX0_longestChain_0 {d : Nat} {Q : Option Value → St → Prop} (x1 : Int32) (σ : St) 
    (k1 : Run MX0_longestChain (d + 1) 7 [some (.ref 21), some (.int x1), some (.int 0), some (.int 0), some (.int 1), none, none] [] σ Q)
    : Run MX0_longestChain (d + 1) 0 [some (.ref 21), some (.int x1), none, none, none, none, none] [] σ Q := by
  refine (go_iconst (v := 0) eX0_longestChain_0 rfl).run ?_
  refine (go_istore_n 2 (L' := [some (.ref 21), some (.int x1), some (.int 0), none, none, none, none]) eX0_longestChain_1 rfl (Nat.le_of_ble_eq_true rfl) rfl).run ?_
  refine (go_iconst (v := 0) eX0_longestChain_2 rfl).run ?_
  refine (go_istore_n 3 (L' := [some (.ref 21), some (.int x1), some (.int 0), some (.int 0), none, none, none]) eX0_longestChain_3 rfl (Nat.le_of_ble_eq_true rfl) rfl).run ?_
  refine (go_iconst (v := 1) eX0_longestChain_4 rfl).run ?_
  refine (go_istore 4 (L' := [some (.ref 21), some (.int x1), some (.int 0), some (.int 0), some (.int 1), none, none]) eX0_longestChain_5 (Nat.le_of_ble_eq_true rfl) rfl).run ?_
  exact k1

set_option maxRecDepth 20000 in
theorem bX0_longestChain_7 {d : Nat} {Q : Option Value → St → Prop} (x1 : Int32) (x2 : Int32) (x3 : Int32) (x4 : Int32) (σ : St) 
    (k1 : (σ.1 21 2) ≤ x4 → Q (some (.int x2)) σ)
    (k2 : x4 < (σ.1 21 2) → Run MX0_longestChain (d + 1) 7 [some (.ref 21), some (.int x1), some (.int (mxI x2 (if ((rX0_part x1 x4 σ)) = 0 then (0 : Int32) else ((1 : Int32) + ((rX0_part x3 (((rX0_part x1 x4 σ)) - 1) σ)))))), some (.int (x3 ||| ((if ((rX0_part x1 x4 σ)) = 0 then (0 : Int32) else ((1 : Int32) + ((rX0_part x3 (((rX0_part x1 x4 σ)) - 1) σ)))) <<< (((3 : Int32) * x4) &&& 31)))), some (.int (x4 + 1)), none, none] [] σ Q)
    : Run MX0_longestChain (d + 1) 7 [some (.ref 21), some (.int x1), some (.int x2), some (.int x3), some (.int x4), none, none] [] σ Q := by
  refine (go_iload 4 eX0_longestChain_7 rfl).run ?_
  refine (go_aload_n 0 eX0_longestChain_9 rfl rfl).run ?_
  refine (go_geti flX0_18 rf_0_2 kd_21 eX0_longestChain_10).run ?_
  refine (bi_ge 68 eX0_longestChain_13 rfl).run (fun h1 => ?_) (fun h1 => ?_)
  · refine (go_iload_n 2 eX0_longestChain_68 rfl rfl).run ?_
    exact Run.ret (v := some (.int x2)) (k1 h1) ⟨Or.inl rfl, eX0_longestChain_69⟩ rfl
  · refine (go_iload_n 1 eX0_longestChain_16 rfl rfl).run ?_
    refine (go_iload 4 eX0_longestChain_17 rfl).run ?_
    refine Run.callS1 (d := d) (As := [.int x1, .int x4]) (r := .int ((rX0_part x1 x4 σ))) mX0_part lkX0_92 rfl rfl rfl (Nat.le_of_ble_eq_true rfl) eX0_longestChain_19 (qX0_part d x1 x4 σ  ) ?_
    refine (go_istore 5 (L' := [some (.ref 21), some (.int x1), some (.int x2), some (.int x3), some (.int x4), some (.int ((rX0_part x1 x4 σ))), none]) eX0_longestChain_22 (Nat.le_of_ble_eq_true rfl) rfl).run ?_
    refine (go_iload 5 eX0_longestChain_24 rfl).run ?_
    have hJh2 : Run MX0_longestChain (d + 1) 43 [some (.ref 21), some (.int x1), some (.int x2), some (.int x3), some (.int x4), none, none] [.int (if ((rX0_part x1 x4 σ)) = 0 then (0 : Int32) else ((1 : Int32) + ((rX0_part x3 (((rX0_part x1 x4 σ)) - 1) σ))))] σ Q := by
      refine (go_istore 6 (L' := [some (.ref 21), some (.int x1), some (.int x2), some (.int x3), some (.int x4), none, some (.int (if ((rX0_part x1 x4 σ)) = 0 then (0 : Int32) else ((1 : Int32) + ((rX0_part x3 (((rX0_part x1 x4 σ)) - 1) σ)))))]) eX0_longestChain_43 (Nat.le_of_ble_eq_true rfl) rfl).run ?_
      refine (go_iload_n 3 eX0_longestChain_45 rfl rfl).run ?_
      refine (go_iload 6 eX0_longestChain_46 rfl).run ?_
      refine (go_iconst (v := 3) eX0_longestChain_48 rfl).run ?_
      refine (go_iload 4 eX0_longestChain_49 rfl).run ?_
      refine (go_imul eX0_longestChain_51).run ?_
      refine (go_ishl eX0_longestChain_52).run ?_
      refine (go_ior eX0_longestChain_53).run ?_
      refine (go_istore_n 3 (L' := [some (.ref 21), some (.int x1), some (.int x2), some (.int (x3 ||| ((if ((rX0_part x1 x4 σ)) = 0 then (0 : Int32) else ((1 : Int32) + ((rX0_part x3 (((rX0_part x1 x4 σ)) - 1) σ)))) <<< (((3 : Int32) * x4) &&& 31)))), some (.int x4), none, some (.int (if ((rX0_part x1 x4 σ)) = 0 then (0 : Int32) else ((1 : Int32) + ((rX0_part x3 (((rX0_part x1 x4 σ)) - 1) σ)))))]) eX0_longestChain_54 rfl (Nat.le_of_ble_eq_true rfl) rfl).run ?_
      refine (go_iload_n 2 eX0_longestChain_55 rfl rfl).run ?_
      refine (go_iload 6 eX0_longestChain_56 rfl).run ?_
      refine (go_maxN mm_ok lkX0_95 rfl (Nat.le_of_ble_eq_true rfl) (by omega) eX0_longestChain_58).run ?_
      refine (go_istore_n 2 (L' := [some (.ref 21), some (.int x1), some (.int (mxI x2 (if ((rX0_part x1 x4 σ)) = 0 then (0 : Int32) else ((1 : Int32) + ((rX0_part x3 (((rX0_part x1 x4 σ)) - 1) σ)))))), some (.int (x3 ||| ((if ((rX0_part x1 x4 σ)) = 0 then (0 : Int32) else ((1 : Int32) + ((rX0_part x3 (((rX0_part x1 x4 σ)) - 1) σ)))) <<< (((3 : Int32) * x4) &&& 31)))), some (.int x4), none, some (.int (if ((rX0_part x1 x4 σ)) = 0 then (0 : Int32) else ((1 : Int32) + ((rX0_part x3 (((rX0_part x1 x4 σ)) - 1) σ)))))]) eX0_longestChain_61 rfl (Nat.le_of_ble_eq_true rfl) rfl).run ?_
      refine (go_iinc 4 (v := (x4 + 1)) (L' := [some (.ref 21), some (.int x1), some (.int (mxI x2 (if ((rX0_part x1 x4 σ)) = 0 then (0 : Int32) else ((1 : Int32) + ((rX0_part x3 (((rX0_part x1 x4 σ)) - 1) σ)))))), some (.int (x3 ||| ((if ((rX0_part x1 x4 σ)) = 0 then (0 : Int32) else ((1 : Int32) + ((rX0_part x3 (((rX0_part x1 x4 σ)) - 1) σ)))) <<< (((3 : Int32) * x4) &&& 31)))), some (.int (x4 + 1)), none, some (.int (if ((rX0_part x1 x4 σ)) = 0 then (0 : Int32) else ((1 : Int32) + ((rX0_part x3 (((rX0_part x1 x4 σ)) - 1) σ)))))]) eX0_longestChain_62 rfl rfl (Nat.le_of_ble_eq_true rfl) rfl).run ?_
      refine (go_goto 7 eX0_longestChain_65 rfl).run ?_
      refine (go_sub (L' := [some (.ref 21), some (.int x1), some (.int (mxI x2 (if ((rX0_part x1 x4 σ)) = 0 then (0 : Int32) else ((1 : Int32) + ((rX0_part x3 (((rX0_part x1 x4 σ)) - 1) σ)))))), some (.int (x3 ||| ((if ((rX0_part x1 x4 σ)) = 0 then (0 : Int32) else ((1 : Int32) + ((rX0_part x3 (((rX0_part x1 x4 σ)) - 1) σ)))) <<< (((3 : Int32) * x4) &&& 31)))), some (.int (x4 + 1)), none, none]) (lsub_keep (lsub_keep (lsub_keep (lsub_keep (lsub_keep (lsub_keep (lsub_drop lsub_nil)))))))).run ?_
      exact (k2 h1)
    refine (bz_ne 33 eX0_longestChain_26 rfl).run (fun h2 => ?_) (fun h2 => ?_)
    · refine (go_iconst (v := 1) eX0_longestChain_33 rfl).run ?_
      refine (go_iload_n 3 eX0_longestChain_34 rfl rfl).run ?_
      refine (go_iload 5 eX0_longestChain_35 rfl).run ?_
      refine (go_iconst (v := 1) eX0_longestChain_37 rfl).run ?_
      refine (go_isub eX0_longestChain_38).run ?_
      refine Run.callS1 (d := d) (As := [.int x3, .int (((rX0_part x1 x4 σ)) - 1)]) (r := .int ((rX0_part x3 (((rX0_part x1 x4 σ)) - 1) σ))) mX0_part lkX0_92 rfl rfl rfl (Nat.le_of_ble_eq_true rfl) eX0_longestChain_39 (qX0_part d x3 (((rX0_part x1 x4 σ)) - 1) σ  ) ?_
      refine (go_iadd eX0_longestChain_42).run ?_
      refine (go_sub (L' := [some (.ref 21), some (.int x1), some (.int x2), some (.int x3), some (.int x4), none, none]) (lsub_keep (lsub_keep (lsub_keep (lsub_keep (lsub_keep (lsub_drop (lsub_keep lsub_nil)))))))).run ?_
      first | exact hJh2 | (simp only [if_neg (h2)] at hJh2; exact hJh2) | (simp only [eq_false h2, not_false_eq_true, true_and, and_true, false_and, and_false, true_or, or_true, false_or, or_false, not_true_eq_false, not_false_eq_true] at hJh2; exact hJh2) | exact Run.eq (by simp [eq_false h2, not_false_eq_true, bI]) (by simp [eq_false h2, not_false_eq_true, bI]) rfl hJh2
    · refine (go_iconst (v := 0) eX0_longestChain_29 rfl).run ?_
      refine (go_goto 43 eX0_longestChain_30 rfl).run ?_
      refine (go_sub (L' := [some (.ref 21), some (.int x1), some (.int x2), some (.int x3), some (.int x4), none, none]) (lsub_keep (lsub_keep (lsub_keep (lsub_keep (lsub_keep (lsub_drop (lsub_keep lsub_nil)))))))).run ?_
      first | exact hJh2 | (simp only [if_pos h2] at hJh2; exact hJh2) | (simp only [eq_true h2, not_true_eq_false, true_and, and_true, false_and, and_false, true_or, or_true, false_or, or_false, not_true_eq_false, not_false_eq_true] at hJh2; exact hJh2) | exact Run.eq (by simp [eq_true h2, not_true_eq_false, bI]) (by simp [eq_true h2, not_true_eq_false, bI]) rfl hJh2

/-! CarryNets$BestNets.openPlaces -/
theorem eX0_openPlaces_0 : decode MX0_openPlaces.2.1 0 = .ok (.iconst 0, 1) := by decide +kernel
theorem eX0_openPlaces_1 : decode MX0_openPlaces.2.1 1 = .ok (.istore_n 2, 1) := by decide +kernel
theorem eX0_openPlaces_2 : decode MX0_openPlaces.2.1 2 = .ok (.iconst 1, 1) := by decide +kernel
theorem eX0_openPlaces_3 : decode MX0_openPlaces.2.1 3 = .ok (.istore_n 3, 1) := by decide +kernel
theorem eX0_openPlaces_4 : decode MX0_openPlaces.2.1 4 = .ok (.iload_n 3, 1) := by decide +kernel
theorem eX0_openPlaces_5 : decode MX0_openPlaces.2.1 5 = .ok (.aload_n 0, 1) := by decide +kernel
theorem eX0_openPlaces_6 : decode MX0_openPlaces.2.1 6 = .ok (.getfield 18, 3) := by decide +kernel
theorem eX0_openPlaces_9 : decode MX0_openPlaces.2.1 9 = .ok (.if_icmp .ge 23, 3) := by decide +kernel
theorem eX0_openPlaces_12 : decode MX0_openPlaces.2.1 12 = .ok (.iload_n 1, 1) := by decide +kernel
theorem eX0_openPlaces_13 : decode MX0_openPlaces.2.1 13 = .ok (.iload_n 3, 1) := by decide +kernel
theorem eX0_openPlaces_14 : decode MX0_openPlaces.2.1 14 = .ok (.invokestatic 92, 3) := by decide +kernel
theorem eX0_openPlaces_17 : decode MX0_openPlaces.2.1 17 = .ok (.ifCond .le 9, 3) := by decide +kernel
theorem eX0_openPlaces_20 : decode MX0_openPlaces.2.1 20 = .ok (.iload_n 2, 1) := by decide +kernel
theorem eX0_openPlaces_21 : decode MX0_openPlaces.2.1 21 = .ok (.iconst 1, 1) := by decide +kernel
theorem eX0_openPlaces_22 : decode MX0_openPlaces.2.1 22 = .ok (.iload_n 3, 1) := by decide +kernel
theorem eX0_openPlaces_23 : decode MX0_openPlaces.2.1 23 = .ok (.ishl, 1) := by decide +kernel
theorem eX0_openPlaces_24 : decode MX0_openPlaces.2.1 24 = .ok (.ior, 1) := by decide +kernel
theorem eX0_openPlaces_25 : decode MX0_openPlaces.2.1 25 = .ok (.istore_n 2, 1) := by decide +kernel
theorem eX0_openPlaces_26 : decode MX0_openPlaces.2.1 26 = .ok (.iinc 3 1, 3) := by decide +kernel
theorem eX0_openPlaces_29 : decode MX0_openPlaces.2.1 29 = .ok (.goto (-25), 3) := by decide +kernel
theorem eX0_openPlaces_32 : decode MX0_openPlaces.2.1 32 = .ok (.iload_n 2, 1) := by decide +kernel
theorem eX0_openPlaces_33 : decode MX0_openPlaces.2.1 33 = .ok (.ireturn, 1) := by decide +kernel
set_option maxRecDepth 20000 in
theorem bX0_openPlaces_0 {d : Nat} {Q : Option Value → St → Prop} (x1 : Int32) (σ : St) 
    (k1 : Run MX0_openPlaces (d + 1) 4 [some (.ref 21), some (.int x1), some (.int 0), some (.int 1)] [] σ Q)
    : Run MX0_openPlaces (d + 1) 0 [some (.ref 21), some (.int x1), none, none] [] σ Q := by
  refine (go_iconst (v := 0) eX0_openPlaces_0 rfl).run ?_
  refine (go_istore_n 2 (L' := [some (.ref 21), some (.int x1), some (.int 0), none]) eX0_openPlaces_1 rfl (Nat.le_of_ble_eq_true rfl) rfl).run ?_
  refine (go_iconst (v := 1) eX0_openPlaces_2 rfl).run ?_
  refine (go_istore_n 3 (L' := [some (.ref 21), some (.int x1), some (.int 0), some (.int 1)]) eX0_openPlaces_3 rfl (Nat.le_of_ble_eq_true rfl) rfl).run ?_
  exact k1

set_option maxRecDepth 20000 in
theorem bX0_openPlaces_4 {d : Nat} {Q : Option Value → St → Prop} (x1 : Int32) (x2 : Int32) (x3 : Int32) (σ : St) 
    (k1 : (σ.1 21 2) ≤ x3 → Q (some (.int x2)) σ)
    (k2 : x3 < (σ.1 21 2) → Run MX0_openPlaces (d + 1) 4 [some (.ref 21), some (.int x1), some (.int (if ((rX0_part x1 x3 σ)) ≤ 0 then x2 else (x2 ||| ((1 : Int32) <<< (x3 &&& 31))))), some (.int (x3 + 1))] [] σ Q)
    : Run MX0_openPlaces (d + 1) 4 [some (.ref 21), some (.int x1), some (.int x2), some (.int x3)] [] σ Q := by
  refine (go_iload_n 3 eX0_openPlaces_4 rfl rfl).run ?_
  refine (go_aload_n 0 eX0_openPlaces_5 rfl rfl).run ?_
  refine (go_geti flX0_18 rf_0_2 kd_21 eX0_openPlaces_6).run ?_
  refine (bi_ge 32 eX0_openPlaces_9 rfl).run (fun h1 => ?_) (fun h1 => ?_)
  · refine (go_iload_n 2 eX0_openPlaces_32 rfl rfl).run ?_
    exact Run.ret (v := some (.int x2)) (k1 h1) ⟨Or.inl rfl, eX0_openPlaces_33⟩ rfl
  · refine (go_iload_n 1 eX0_openPlaces_12 rfl rfl).run ?_
    refine (go_iload_n 3 eX0_openPlaces_13 rfl rfl).run ?_
    refine Run.callS1 (d := d) (As := [.int x1, .int x3]) (r := .int ((rX0_part x1 x3 σ))) mX0_part lkX0_92 rfl rfl rfl (Nat.le_of_ble_eq_true rfl) eX0_openPlaces_14 (qX0_part d x1 x3 σ  ) ?_
    have hJh2 : Run MX0_openPlaces (d + 1) 26 [some (.ref 21), some (.int x1), some (.int (if ((rX0_part x1 x3 σ)) ≤ 0 then x2 else (x2 ||| ((1 : Int32) <<< (x3 &&& 31))))), some (.int x3)] [] σ Q := by
      refine (go_iinc 3 (v := (x3 + 1)) (L' := [some (.ref 21), some (.int x1), some (.int (if ((rX0_part x1 x3 σ)) ≤ 0 then x2 else (x2 ||| ((1 : Int32) <<< (x3 &&& 31))))), some (.int (x3 + 1))]) eX0_openPlaces_26 rfl rfl (Nat.le_of_ble_eq_true rfl) rfl).run ?_
      refine (go_goto 4 eX0_openPlaces_29 rfl).run ?_
      exact (k2 h1)
    refine (bz_le 26 eX0_openPlaces_17 rfl).run (fun h2 => ?_) (fun h2 => ?_)
    · first | exact hJh2 | (simp only [if_pos h2] at hJh2; exact hJh2) | (simp only [eq_true h2, eq_false (i32_nlt.mpr h2), true_and, and_true, false_and, and_false, true_or, or_true, false_or, or_false, not_true_eq_false, not_false_eq_true] at hJh2; exact hJh2) | exact Run.eq (by simp [eq_true h2, eq_false (i32_nlt.mpr h2), bI]) (by simp [eq_true h2, eq_false (i32_nlt.mpr h2), bI]) rfl hJh2
    · refine (go_iload_n 2 eX0_openPlaces_20 rfl rfl).run ?_
      refine (go_iconst (v := 1) eX0_openPlaces_21 rfl).run ?_
      refine (go_iload_n 3 eX0_openPlaces_22 rfl rfl).run ?_
      refine (go_ishl eX0_openPlaces_23).run ?_
      refine (go_ior eX0_openPlaces_24).run ?_
      refine (go_istore_n 2 (L' := [some (.ref 21), some (.int x1), some (.int (x2 ||| ((1 : Int32) <<< (x3 &&& 31)))), some (.int x3)]) eX0_openPlaces_25 rfl (Nat.le_of_ble_eq_true rfl) rfl).run ?_
      first | exact hJh2 | (simp only [if_neg (i32_nle.mpr h2)] at hJh2; exact hJh2) | (simp only [eq_true h2, eq_false (i32_nle.mpr h2), true_and, and_true, false_and, and_false, true_or, or_true, false_or, or_false, not_true_eq_false, not_false_eq_true] at hJh2; exact hJh2) | exact Run.eq (by simp [eq_true h2, eq_false (i32_nle.mpr h2), bI]) (by simp [eq_true h2, eq_false (i32_nle.mpr h2), bI]) rfl hJh2

/-! CarryNets$BestNets.unreadyPlaces -/
theorem eX0_unreadyPlaces_0 : decode MX0_unreadyPlaces.2.1 0 = .ok (.iconst 0, 1) := by decide +kernel
theorem eX0_unreadyPlaces_1 : decode MX0_unreadyPlaces.2.1 1 = .ok (.istore_n 2, 1) := by decide +kernel
theorem eX0_unreadyPlaces_2 : decode MX0_unreadyPlaces.2.1 2 = .ok (.iconst 1, 1) := by decide +kernel
theorem eX0_unreadyPlaces_3 : decode MX0_unreadyPlaces.2.1 3 = .ok (.istore_n 3, 1) := by decide +kernel
theorem eX0_unreadyPlaces_4 : decode MX0_unreadyPlaces.2.1 4 = .ok (.iload_n 3, 1) := by decide +kernel
theorem eX0_unreadyPlaces_5 : decode MX0_unreadyPlaces.2.1 5 = .ok (.aload_n 0, 1) := by decide +kernel
theorem eX0_unreadyPlaces_6 : decode MX0_unreadyPlaces.2.1 6 = .ok (.getfield 18, 3) := by decide +kernel
theorem eX0_unreadyPlaces_9 : decode MX0_unreadyPlaces.2.1 9 = .ok (.if_icmp .ge 38, 3) := by decide +kernel
theorem eX0_unreadyPlaces_12 : decode MX0_unreadyPlaces.2.1 12 = .ok (.iload_n 1, 1) := by decide +kernel
theorem eX0_unreadyPlaces_13 : decode MX0_unreadyPlaces.2.1 13 = .ok (.iload_n 3, 1) := by decide +kernel
theorem eX0_unreadyPlaces_14 : decode MX0_unreadyPlaces.2.1 14 = .ok (.invokestatic 92, 3) := by decide +kernel
theorem eX0_unreadyPlaces_17 : decode MX0_unreadyPlaces.2.1 17 = .ok (.istore 4, 2) := by decide +kernel
theorem eX0_unreadyPlaces_19 : decode MX0_unreadyPlaces.2.1 19 = .ok (.iload 4, 2) := by decide +kernel
theorem eX0_unreadyPlaces_21 : decode MX0_unreadyPlaces.2.1 21 = .ok (.ifCond .le 20, 3) := by decide +kernel
theorem eX0_unreadyPlaces_24 : decode MX0_unreadyPlaces.2.1 24 = .ok (.iload_n 1, 1) := by decide +kernel
theorem eX0_unreadyPlaces_25 : decode MX0_unreadyPlaces.2.1 25 = .ok (.iload 4, 2) := by decide +kernel
theorem eX0_unreadyPlaces_27 : decode MX0_unreadyPlaces.2.1 27 = .ok (.iconst 1, 1) := by decide +kernel
theorem eX0_unreadyPlaces_28 : decode MX0_unreadyPlaces.2.1 28 = .ok (.isub, 1) := by decide +kernel
theorem eX0_unreadyPlaces_29 : decode MX0_unreadyPlaces.2.1 29 = .ok (.invokestatic 92, 3) := by decide +kernel
theorem eX0_unreadyPlaces_32 : decode MX0_unreadyPlaces.2.1 32 = .ok (.ifCond .le 9, 3) := by decide +kernel
theorem eX0_unreadyPlaces_35 : decode MX0_unreadyPlaces.2.1 35 = .ok (.iload_n 2, 1) := by decide +kernel
theorem eX0_unreadyPlaces_36 : decode MX0_unreadyPlaces.2.1 36 = .ok (.iconst 1, 1) := by decide +kernel
theorem eX0_unreadyPlaces_37 : decode MX0_unreadyPlaces.2.1 37 = .ok (.iload_n 3, 1) := by decide +kernel
theorem eX0_unreadyPlaces_38 : decode MX0_unreadyPlaces.2.1 38 = .ok (.ishl, 1) := by decide +kernel
theorem eX0_unreadyPlaces_39 : decode MX0_unreadyPlaces.2.1 39 = .ok (.ior, 1) := by decide +kernel
theorem eX0_unreadyPlaces_40 : decode MX0_unreadyPlaces.2.1 40 = .ok (.istore_n 2, 1) := by decide +kernel
theorem eX0_unreadyPlaces_41 : decode MX0_unreadyPlaces.2.1 41 = .ok (.iinc 3 1, 3) := by decide +kernel
theorem eX0_unreadyPlaces_44 : decode MX0_unreadyPlaces.2.1 44 = .ok (.goto (-40), 3) := by decide +kernel
theorem eX0_unreadyPlaces_47 : decode MX0_unreadyPlaces.2.1 47 = .ok (.iload_n 2, 1) := by decide +kernel
theorem eX0_unreadyPlaces_48 : decode MX0_unreadyPlaces.2.1 48 = .ok (.ireturn, 1) := by decide +kernel
set_option maxRecDepth 20000 in
theorem bX0_unreadyPlaces_0 {d : Nat} {Q : Option Value → St → Prop} (x1 : Int32) (σ : St) 
    (k1 : Run MX0_unreadyPlaces (d + 1) 4 [some (.ref 21), some (.int x1), some (.int 0), some (.int 1), none] [] σ Q)
    : Run MX0_unreadyPlaces (d + 1) 0 [some (.ref 21), some (.int x1), none, none, none] [] σ Q := by
  refine (go_iconst (v := 0) eX0_unreadyPlaces_0 rfl).run ?_
  refine (go_istore_n 2 (L' := [some (.ref 21), some (.int x1), some (.int 0), none, none]) eX0_unreadyPlaces_1 rfl (Nat.le_of_ble_eq_true rfl) rfl).run ?_
  refine (go_iconst (v := 1) eX0_unreadyPlaces_2 rfl).run ?_
  refine (go_istore_n 3 (L' := [some (.ref 21), some (.int x1), some (.int 0), some (.int 1), none]) eX0_unreadyPlaces_3 rfl (Nat.le_of_ble_eq_true rfl) rfl).run ?_
  exact k1

set_option maxRecDepth 20000 in
theorem bX0_unreadyPlaces_4 {d : Nat} {Q : Option Value → St → Prop} (x1 : Int32) (x2 : Int32) (x3 : Int32) (σ : St) 
    (k1 : (σ.1 21 2) ≤ x3 → Q (some (.int x2)) σ)
    (k2 : x3 < (σ.1 21 2) → Run MX0_unreadyPlaces (d + 1) 4 [some (.ref 21), some (.int x1), some (.int (if ((rX0_part x1 x3 σ)) ≤ 0 then x2 else (if ((rX0_part x1 (((rX0_part x1 x3 σ)) - 1) σ)) ≤ 0 then x2 else (x2 ||| ((1 : Int32) <<< (x3 &&& 31)))))), some (.int (x3 + 1)), none] [] σ Q)
    : Run MX0_unreadyPlaces (d + 1) 4 [some (.ref 21), some (.int x1), some (.int x2), some (.int x3), none] [] σ Q := by
  refine (go_iload_n 3 eX0_unreadyPlaces_4 rfl rfl).run ?_
  refine (go_aload_n 0 eX0_unreadyPlaces_5 rfl rfl).run ?_
  refine (go_geti flX0_18 rf_0_2 kd_21 eX0_unreadyPlaces_6).run ?_
  refine (bi_ge 47 eX0_unreadyPlaces_9 rfl).run (fun h1 => ?_) (fun h1 => ?_)
  · refine (go_iload_n 2 eX0_unreadyPlaces_47 rfl rfl).run ?_
    exact Run.ret (v := some (.int x2)) (k1 h1) ⟨Or.inl rfl, eX0_unreadyPlaces_48⟩ rfl
  · refine (go_iload_n 1 eX0_unreadyPlaces_12 rfl rfl).run ?_
    refine (go_iload_n 3 eX0_unreadyPlaces_13 rfl rfl).run ?_
    refine Run.callS1 (d := d) (As := [.int x1, .int x3]) (r := .int ((rX0_part x1 x3 σ))) mX0_part lkX0_92 rfl rfl rfl (Nat.le_of_ble_eq_true rfl) eX0_unreadyPlaces_14 (qX0_part d x1 x3 σ  ) ?_
    refine (go_istore 4 (L' := [some (.ref 21), some (.int x1), some (.int x2), some (.int x3), some (.int ((rX0_part x1 x3 σ)))]) eX0_unreadyPlaces_17 (Nat.le_of_ble_eq_true rfl) rfl).run ?_
    refine (go_iload 4 eX0_unreadyPlaces_19 rfl).run ?_
    have hJh2 : Run MX0_unreadyPlaces (d + 1) 41 [some (.ref 21), some (.int x1), some (.int (if ((rX0_part x1 x3 σ)) ≤ 0 then x2 else (if ((rX0_part x1 (((rX0_part x1 x3 σ)) - 1) σ)) ≤ 0 then x2 else (x2 ||| ((1 : Int32) <<< (x3 &&& 31)))))), some (.int x3), none] [] σ Q := by
      refine (go_iinc 3 (v := (x3 + 1)) (L' := [some (.ref 21), some (.int x1), some (.int (if ((rX0_part x1 x3 σ)) ≤ 0 then x2 else (if ((rX0_part x1 (((rX0_part x1 x3 σ)) - 1) σ)) ≤ 0 then x2 else (x2 ||| ((1 : Int32) <<< (x3 &&& 31)))))), some (.int (x3 + 1)), none]) eX0_unreadyPlaces_41 rfl rfl (Nat.le_of_ble_eq_true rfl) rfl).run ?_
      refine (go_goto 4 eX0_unreadyPlaces_44 rfl).run ?_
      exact (k2 h1)
    refine (bz_le 41 eX0_unreadyPlaces_21 rfl).run (fun h2 => ?_) (fun h2 => ?_)
    · refine (go_sub (L' := [some (.ref 21), some (.int x1), some (.int x2), some (.int x3), none]) (lsub_keep (lsub_keep (lsub_keep (lsub_keep (lsub_drop lsub_nil)))))).run ?_
      first | exact hJh2 | (simp only [if_pos h2] at hJh2; exact hJh2) | (simp only [eq_true h2, eq_false (i32_nlt.mpr h2), true_and, and_true, false_and, and_false, true_or, or_true, false_or, or_false, not_true_eq_false, not_false_eq_true] at hJh2; exact hJh2) | exact Run.eq (by simp [eq_true h2, eq_false (i32_nlt.mpr h2), bI]) (by simp [eq_true h2, eq_false (i32_nlt.mpr h2), bI]) rfl hJh2
    · refine (go_iload_n 1 eX0_unreadyPlaces_24 rfl rfl).run ?_
      refine (go_iload 4 eX0_unreadyPlaces_25 rfl).run ?_
      refine (go_iconst (v := 1) eX0_unreadyPlaces_27 rfl).run ?_
      refine (go_isub eX0_unreadyPlaces_28).run ?_
      refine Run.callS1 (d := d) (As := [.int x1, .int (((rX0_part x1 x3 σ)) - 1)]) (r := .int ((rX0_part x1 (((rX0_part x1 x3 σ)) - 1) σ))) mX0_part lkX0_92 rfl rfl rfl (Nat.le_of_ble_eq_true rfl) eX0_unreadyPlaces_29 (qX0_part d x1 (((rX0_part x1 x3 σ)) - 1) σ  ) ?_
      have hJh3 : Run MX0_unreadyPlaces (d + 1) 41 [some (.ref 21), some (.int x1), some (.int (if ((rX0_part x1 (((rX0_part x1 x3 σ)) - 1) σ)) ≤ 0 then x2 else (x2 ||| ((1 : Int32) <<< (x3 &&& 31))))), some (.int x3), none] [] σ Q := by
        first | exact hJh2 | (simp only [if_neg (i32_nle.mpr h2)] at hJh2; exact hJh2) | (simp only [eq_true h2, eq_false (i32_nle.mpr h2), true_and, and_true, false_and, and_false, true_or, or_true, false_or, or_false, not_true_eq_false, not_false_eq_true] at hJh2; exact hJh2) | exact Run.eq (by simp [eq_true h2, eq_false (i32_nle.mpr h2), bI]) (by simp [eq_true h2, eq_false (i32_nle.mpr h2), bI]) rfl hJh2
      refine (bz_le 41 eX0_unreadyPlaces_32 rfl).run (fun h3 => ?_) (fun h3 => ?_)
      · refine (go_sub (L' := [some (.ref 21), some (.int x1), some (.int x2), some (.int x3), none]) (lsub_keep (lsub_keep (lsub_keep (lsub_keep (lsub_drop lsub_nil)))))).run ?_
        first | exact hJh3 | (simp only [if_pos h3] at hJh3; exact hJh3) | (simp only [eq_true h3, eq_false (i32_nlt.mpr h3), true_and, and_true, false_and, and_false, true_or, or_true, false_or, or_false, not_true_eq_false, not_false_eq_true] at hJh3; exact hJh3) | exact Run.eq (by simp [eq_true h3, eq_false (i32_nlt.mpr h3), bI]) (by simp [eq_true h3, eq_false (i32_nlt.mpr h3), bI]) rfl hJh3
      · refine (go_iload_n 2 eX0_unreadyPlaces_35 rfl rfl).run ?_
        refine (go_iconst (v := 1) eX0_unreadyPlaces_36 rfl).run ?_
        refine (go_iload_n 3 eX0_unreadyPlaces_37 rfl rfl).run ?_
        refine (go_ishl eX0_unreadyPlaces_38).run ?_
        refine (go_ior eX0_unreadyPlaces_39).run ?_
        refine (go_istore_n 2 (L' := [some (.ref 21), some (.int x1), some (.int (x2 ||| ((1 : Int32) <<< (x3 &&& 31)))), some (.int x3), some (.int ((rX0_part x1 x3 σ)))]) eX0_unreadyPlaces_40 rfl (Nat.le_of_ble_eq_true rfl) rfl).run ?_
        refine (go_sub (L' := [some (.ref 21), some (.int x1), some (.int (x2 ||| ((1 : Int32) <<< (x3 &&& 31)))), some (.int x3), none]) (lsub_keep (lsub_keep (lsub_keep (lsub_keep (lsub_drop lsub_nil)))))).run ?_
        first | exact hJh3 | (simp only [if_neg (i32_nle.mpr h3)] at hJh3; exact hJh3) | (simp only [eq_true h3, eq_false (i32_nle.mpr h3), true_and, and_true, false_and, and_false, true_or, or_true, false_or, or_false, not_true_eq_false, not_false_eq_true] at hJh3; exact hJh3) | exact Run.eq (by simp [eq_true h3, eq_false (i32_nle.mpr h3), bI]) (by simp [eq_true h3, eq_false (i32_nle.mpr h3), bI]) rfl hJh3

/-! java/lang/Integer.bitCount -/
theorem eJ6_bitCount_0f7a4_0 : decode MJ6_bitCount_0f7a4.2.1 0 = .ok (.iload_n 0, 1) := by decide +kernel
theorem eJ6_bitCount_0f7a4_1 : decode MJ6_bitCount_0f7a4.2.1 1 = .ok (.iload_n 0, 1) := by decide +kernel
theorem eJ6_bitCount_0f7a4_2 : decode MJ6_bitCount_0f7a4.2.1 2 = .ok (.iconst 1, 1) := by decide +kernel
theorem eJ6_bitCount_0f7a4_3 : decode MJ6_bitCount_0f7a4.2.1 3 = .ok (.iushr, 1) := by decide +kernel
theorem eJ6_bitCount_0f7a4_4 : decode MJ6_bitCount_0f7a4.2.1 4 = .ok (.ldc_w 265, 3) := by decide +kernel
theorem eJ6_bitCount_0f7a4_7 : decode MJ6_bitCount_0f7a4.2.1 7 = .ok (.iand, 1) := by decide +kernel
theorem eJ6_bitCount_0f7a4_8 : decode MJ6_bitCount_0f7a4.2.1 8 = .ok (.isub, 1) := by decide +kernel
theorem eJ6_bitCount_0f7a4_9 : decode MJ6_bitCount_0f7a4.2.1 9 = .ok (.istore_n 0, 1) := by decide +kernel
theorem eJ6_bitCount_0f7a4_10 : decode MJ6_bitCount_0f7a4.2.1 10 = .ok (.iload_n 0, 1) := by decide +kernel
theorem eJ6_bitCount_0f7a4_11 : decode MJ6_bitCount_0f7a4.2.1 11 = .ok (.ldc_w 266, 3) := by decide +kernel
theorem eJ6_bitCount_0f7a4_14 : decode MJ6_bitCount_0f7a4.2.1 14 = .ok (.iand, 1) := by decide +kernel
theorem eJ6_bitCount_0f7a4_15 : decode MJ6_bitCount_0f7a4.2.1 15 = .ok (.iload_n 0, 1) := by decide +kernel
theorem eJ6_bitCount_0f7a4_16 : decode MJ6_bitCount_0f7a4.2.1 16 = .ok (.iconst 2, 1) := by decide +kernel
theorem eJ6_bitCount_0f7a4_17 : decode MJ6_bitCount_0f7a4.2.1 17 = .ok (.iushr, 1) := by decide +kernel
theorem eJ6_bitCount_0f7a4_18 : decode MJ6_bitCount_0f7a4.2.1 18 = .ok (.ldc_w 266, 3) := by decide +kernel
theorem eJ6_bitCount_0f7a4_21 : decode MJ6_bitCount_0f7a4.2.1 21 = .ok (.iand, 1) := by decide +kernel
theorem eJ6_bitCount_0f7a4_22 : decode MJ6_bitCount_0f7a4.2.1 22 = .ok (.iadd, 1) := by decide +kernel
theorem eJ6_bitCount_0f7a4_23 : decode MJ6_bitCount_0f7a4.2.1 23 = .ok (.istore_n 0, 1) := by decide +kernel
theorem eJ6_bitCount_0f7a4_24 : decode MJ6_bitCount_0f7a4.2.1 24 = .ok (.iload_n 0, 1) := by decide +kernel
theorem eJ6_bitCount_0f7a4_25 : decode MJ6_bitCount_0f7a4.2.1 25 = .ok (.iload_n 0, 1) := by decide +kernel
theorem eJ6_bitCount_0f7a4_26 : decode MJ6_bitCount_0f7a4.2.1 26 = .ok (.iconst 4, 1) := by decide +kernel
theorem eJ6_bitCount_0f7a4_27 : decode MJ6_bitCount_0f7a4.2.1 27 = .ok (.iushr, 1) := by decide +kernel
theorem eJ6_bitCount_0f7a4_28 : decode MJ6_bitCount_0f7a4.2.1 28 = .ok (.iadd, 1) := by decide +kernel
theorem eJ6_bitCount_0f7a4_29 : decode MJ6_bitCount_0f7a4.2.1 29 = .ok (.ldc_w 267, 3) := by decide +kernel
theorem eJ6_bitCount_0f7a4_32 : decode MJ6_bitCount_0f7a4.2.1 32 = .ok (.iand, 1) := by decide +kernel
theorem eJ6_bitCount_0f7a4_33 : decode MJ6_bitCount_0f7a4.2.1 33 = .ok (.istore_n 0, 1) := by decide +kernel
theorem eJ6_bitCount_0f7a4_34 : decode MJ6_bitCount_0f7a4.2.1 34 = .ok (.iload_n 0, 1) := by decide +kernel
theorem eJ6_bitCount_0f7a4_35 : decode MJ6_bitCount_0f7a4.2.1 35 = .ok (.iload_n 0, 1) := by decide +kernel
theorem eJ6_bitCount_0f7a4_36 : decode MJ6_bitCount_0f7a4.2.1 36 = .ok (.bipush 8, 2) := by decide +kernel
theorem eJ6_bitCount_0f7a4_38 : decode MJ6_bitCount_0f7a4.2.1 38 = .ok (.iushr, 1) := by decide +kernel
theorem eJ6_bitCount_0f7a4_39 : decode MJ6_bitCount_0f7a4.2.1 39 = .ok (.iadd, 1) := by decide +kernel
theorem eJ6_bitCount_0f7a4_40 : decode MJ6_bitCount_0f7a4.2.1 40 = .ok (.istore_n 0, 1) := by decide +kernel
theorem eJ6_bitCount_0f7a4_41 : decode MJ6_bitCount_0f7a4.2.1 41 = .ok (.iload_n 0, 1) := by decide +kernel
theorem eJ6_bitCount_0f7a4_42 : decode MJ6_bitCount_0f7a4.2.1 42 = .ok (.iload_n 0, 1) := by decide +kernel
theorem eJ6_bitCount_0f7a4_43 : decode MJ6_bitCount_0f7a4.2.1 43 = .ok (.bipush 16, 2) := by decide +kernel
theorem eJ6_bitCount_0f7a4_45 : decode MJ6_bitCount_0f7a4.2.1 45 = .ok (.iushr, 1) := by decide +kernel
theorem eJ6_bitCount_0f7a4_46 : decode MJ6_bitCount_0f7a4.2.1 46 = .ok (.iadd, 1) := by decide +kernel
theorem eJ6_bitCount_0f7a4_47 : decode MJ6_bitCount_0f7a4.2.1 47 = .ok (.istore_n 0, 1) := by decide +kernel
theorem eJ6_bitCount_0f7a4_48 : decode MJ6_bitCount_0f7a4.2.1 48 = .ok (.iload_n 0, 1) := by decide +kernel
theorem eJ6_bitCount_0f7a4_49 : decode MJ6_bitCount_0f7a4.2.1 49 = .ok (.bipush 63, 2) := by decide +kernel
theorem eJ6_bitCount_0f7a4_51 : decode MJ6_bitCount_0f7a4.2.1 51 = .ok (.iand, 1) := by decide +kernel
theorem eJ6_bitCount_0f7a4_52 : decode MJ6_bitCount_0f7a4.2.1 52 = .ok (.ireturn, 1) := by decide +kernel
set_option maxRecDepth 20000 in
theorem bJ6_bitCount_0f7a4_0 {d : Nat} {Q : Option Value → St → Prop} (x0 : Int32) (σ : St) 
    (k1 : Q (some (.int ((((((((x0 - (((x0.toUInt32 >>> ((1 : Int32).toUInt32 &&& Int32.toUInt32 31)).toInt32) &&& 1431655765)) &&& 858993459) + ((((x0 - (((x0.toUInt32 >>> ((1 : Int32).toUInt32 &&& Int32.toUInt32 31)).toInt32) &&& 1431655765)).toUInt32 >>> ((2 : Int32).toUInt32 &&& Int32.toUInt32 31)).toInt32) &&& 858993459)) + (((((x0 - (((x0.toUInt32 >>> ((1 : Int32).toUInt32 &&& Int32.toUInt32 31)).toInt32) &&& 1431655765)) &&& 858993459) + ((((x0 - (((x0.toUInt32 >>> ((1 : Int32).toUInt32 &&& Int32.toUInt32 31)).toInt32) &&& 1431655765)).toUInt32 >>> ((2 : Int32).toUInt32 &&& Int32.toUInt32 31)).toInt32) &&& 858993459)).toUInt32 >>> ((4 : Int32).toUInt32 &&& Int32.toUInt32 31)).toInt32)) &&& 252645135) + (((((((x0 - (((x0.toUInt32 >>> ((1 : Int32).toUInt32 &&& Int32.toUInt32 31)).toInt32) &&& 1431655765)) &&& 858993459) + ((((x0 - (((x0.toUInt32 >>> ((1 : Int32).toUInt32 &&& Int32.toUInt32 31)).toInt32) &&& 1431655765)).toUInt32 >>> ((2 : Int32).toUInt32 &&& Int32.toUInt32 31)).toInt32) &&& 858993459)) + (((((x0 - (((x0.toUInt32 >>> ((1 : Int32).toUInt32 &&& Int32.toUInt32 31)).toInt32) &&& 1431655765)) &&& 858993459) + ((((x0 - (((x0.toUInt32 >>> ((1 : Int32).toUInt32 &&& Int32.toUInt32 31)).toInt32) &&& 1431655765)).toUInt32 >>> ((2 : Int32).toUInt32 &&& Int32.toUInt32 31)).toInt32) &&& 858993459)).toUInt32 >>> ((4 : Int32).toUInt32 &&& Int32.toUInt32 31)).toInt32)) &&& 252645135).toUInt32 >>> ((8 : Int32).toUInt32 &&& Int32.toUInt32 31)).toInt32)) + ((((((((x0 - (((x0.toUInt32 >>> ((1 : Int32).toUInt32 &&& Int32.toUInt32 31)).toInt32) &&& 1431655765)) &&& 858993459) + ((((x0 - (((x0.toUInt32 >>> ((1 : Int32).toUInt32 &&& Int32.toUInt32 31)).toInt32) &&& 1431655765)).toUInt32 >>> ((2 : Int32).toUInt32 &&& Int32.toUInt32 31)).toInt32) &&& 858993459)) + (((((x0 - (((x0.toUInt32 >>> ((1 : Int32).toUInt32 &&& Int32.toUInt32 31)).toInt32) &&& 1431655765)) &&& 858993459) + ((((x0 - (((x0.toUInt32 >>> ((1 : Int32).toUInt32 &&& Int32.toUInt32 31)).toInt32) &&& 1431655765)).toUInt32 >>> ((2 : Int32).toUInt32 &&& Int32.toUInt32 31)).toInt32) &&& 858993459)).toUInt32 >>> ((4 : Int32).toUInt32 &&& Int32.toUInt32 31)).toInt32)) &&& 252645135) + (((((((x0 - (((x0.toUInt32 >>> ((1 : Int32).toUInt32 &&& Int32.toUInt32 31)).toInt32) &&& 1431655765)) &&& 858993459) + ((((x0 - (((x0.toUInt32 >>> ((1 : Int32).toUInt32 &&& Int32.toUInt32 31)).toInt32) &&& 1431655765)).toUInt32 >>> ((2 : Int32).toUInt32 &&& Int32.toUInt32 31)).toInt32) &&& 858993459)) + (((((x0 - (((x0.toUInt32 >>> ((1 : Int32).toUInt32 &&& Int32.toUInt32 31)).toInt32) &&& 1431655765)) &&& 858993459) + ((((x0 - (((x0.toUInt32 >>> ((1 : Int32).toUInt32 &&& Int32.toUInt32 31)).toInt32) &&& 1431655765)).toUInt32 >>> ((2 : Int32).toUInt32 &&& Int32.toUInt32 31)).toInt32) &&& 858993459)).toUInt32 >>> ((4 : Int32).toUInt32 &&& Int32.toUInt32 31)).toInt32)) &&& 252645135).toUInt32 >>> ((8 : Int32).toUInt32 &&& Int32.toUInt32 31)).toInt32)).toUInt32 >>> ((16 : Int32).toUInt32 &&& Int32.toUInt32 31)).toInt32)) &&& 63))) σ)
    : Run MJ6_bitCount_0f7a4 d 0 [some (.int x0)] [] σ Q := by
  refine (go_iload_n 0 eJ6_bitCount_0f7a4_0 rfl rfl).run ?_
  refine (go_iload_n 0 eJ6_bitCount_0f7a4_1 rfl rfl).run ?_
  refine (go_iconst (v := 1) eJ6_bitCount_0f7a4_2 rfl).run ?_
  refine (go_iushr eJ6_bitCount_0f7a4_3).run ?_
  refine (go_ldcw csJ6_265 eJ6_bitCount_0f7a4_4).run ?_
  refine (go_iand eJ6_bitCount_0f7a4_7).run ?_
  refine (go_isub eJ6_bitCount_0f7a4_8).run ?_
  refine (go_istore_n 0 (L' := [some (.int (x0 - (((x0.toUInt32 >>> ((1 : Int32).toUInt32 &&& Int32.toUInt32 31)).toInt32) &&& 1431655765)))]) eJ6_bitCount_0f7a4_9 rfl (Nat.le_of_ble_eq_true rfl) rfl).run ?_
  refine (go_iload_n 0 eJ6_bitCount_0f7a4_10 rfl rfl).run ?_
  refine (go_ldcw csJ6_266 eJ6_bitCount_0f7a4_11).run ?_
  refine (go_iand eJ6_bitCount_0f7a4_14).run ?_
  refine (go_iload_n 0 eJ6_bitCount_0f7a4_15 rfl rfl).run ?_
  refine (go_iconst (v := 2) eJ6_bitCount_0f7a4_16 rfl).run ?_
  refine (go_iushr eJ6_bitCount_0f7a4_17).run ?_
  refine (go_ldcw csJ6_266 eJ6_bitCount_0f7a4_18).run ?_
  refine (go_iand eJ6_bitCount_0f7a4_21).run ?_
  refine (go_iadd eJ6_bitCount_0f7a4_22).run ?_
  refine (go_istore_n 0 (L' := [some (.int (((x0 - (((x0.toUInt32 >>> ((1 : Int32).toUInt32 &&& Int32.toUInt32 31)).toInt32) &&& 1431655765)) &&& 858993459) + ((((x0 - (((x0.toUInt32 >>> ((1 : Int32).toUInt32 &&& Int32.toUInt32 31)).toInt32) &&& 1431655765)).toUInt32 >>> ((2 : Int32).toUInt32 &&& Int32.toUInt32 31)).toInt32) &&& 858993459)))]) eJ6_bitCount_0f7a4_23 rfl (Nat.le_of_ble_eq_true rfl) rfl).run ?_
  refine (go_iload_n 0 eJ6_bitCount_0f7a4_24 rfl rfl).run ?_
  refine (go_iload_n 0 eJ6_bitCount_0f7a4_25 rfl rfl).run ?_
  refine (go_iconst (v := 4) eJ6_bitCount_0f7a4_26 rfl).run ?_
  refine (go_iushr eJ6_bitCount_0f7a4_27).run ?_
  refine (go_iadd eJ6_bitCount_0f7a4_28).run ?_
  refine (go_ldcw csJ6_267 eJ6_bitCount_0f7a4_29).run ?_
  refine (go_iand eJ6_bitCount_0f7a4_32).run ?_
  refine (go_istore_n 0 (L' := [some (.int (((((x0 - (((x0.toUInt32 >>> ((1 : Int32).toUInt32 &&& Int32.toUInt32 31)).toInt32) &&& 1431655765)) &&& 858993459) + ((((x0 - (((x0.toUInt32 >>> ((1 : Int32).toUInt32 &&& Int32.toUInt32 31)).toInt32) &&& 1431655765)).toUInt32 >>> ((2 : Int32).toUInt32 &&& Int32.toUInt32 31)).toInt32) &&& 858993459)) + (((((x0 - (((x0.toUInt32 >>> ((1 : Int32).toUInt32 &&& Int32.toUInt32 31)).toInt32) &&& 1431655765)) &&& 858993459) + ((((x0 - (((x0.toUInt32 >>> ((1 : Int32).toUInt32 &&& Int32.toUInt32 31)).toInt32) &&& 1431655765)).toUInt32 >>> ((2 : Int32).toUInt32 &&& Int32.toUInt32 31)).toInt32) &&& 858993459)).toUInt32 >>> ((4 : Int32).toUInt32 &&& Int32.toUInt32 31)).toInt32)) &&& 252645135))]) eJ6_bitCount_0f7a4_33 rfl (Nat.le_of_ble_eq_true rfl) rfl).run ?_
  refine (go_iload_n 0 eJ6_bitCount_0f7a4_34 rfl rfl).run ?_
  refine (go_iload_n 0 eJ6_bitCount_0f7a4_35 rfl rfl).run ?_
  refine (go_bipush (v := 8) eJ6_bitCount_0f7a4_36 rfl).run ?_
  refine (go_iushr eJ6_bitCount_0f7a4_38).run ?_
  refine (go_iadd eJ6_bitCount_0f7a4_39).run ?_
  refine (go_istore_n 0 (L' := [some (.int ((((((x0 - (((x0.toUInt32 >>> ((1 : Int32).toUInt32 &&& Int32.toUInt32 31)).toInt32) &&& 1431655765)) &&& 858993459) + ((((x0 - (((x0.toUInt32 >>> ((1 : Int32).toUInt32 &&& Int32.toUInt32 31)).toInt32) &&& 1431655765)).toUInt32 >>> ((2 : Int32).toUInt32 &&& Int32.toUInt32 31)).toInt32) &&& 858993459)) + (((((x0 - (((x0.toUInt32 >>> ((1 : Int32).toUInt32 &&& Int32.toUInt32 31)).toInt32) &&& 1431655765)) &&& 858993459) + ((((x0 - (((x0.toUInt32 >>> ((1 : Int32).toUInt32 &&& Int32.toUInt32 31)).toInt32) &&& 1431655765)).toUInt32 >>> ((2 : Int32).toUInt32 &&& Int32.toUInt32 31)).toInt32) &&& 858993459)).toUInt32 >>> ((4 : Int32).toUInt32 &&& Int32.toUInt32 31)).toInt32)) &&& 252645135) + (((((((x0 - (((x0.toUInt32 >>> ((1 : Int32).toUInt32 &&& Int32.toUInt32 31)).toInt32) &&& 1431655765)) &&& 858993459) + ((((x0 - (((x0.toUInt32 >>> ((1 : Int32).toUInt32 &&& Int32.toUInt32 31)).toInt32) &&& 1431655765)).toUInt32 >>> ((2 : Int32).toUInt32 &&& Int32.toUInt32 31)).toInt32) &&& 858993459)) + (((((x0 - (((x0.toUInt32 >>> ((1 : Int32).toUInt32 &&& Int32.toUInt32 31)).toInt32) &&& 1431655765)) &&& 858993459) + ((((x0 - (((x0.toUInt32 >>> ((1 : Int32).toUInt32 &&& Int32.toUInt32 31)).toInt32) &&& 1431655765)).toUInt32 >>> ((2 : Int32).toUInt32 &&& Int32.toUInt32 31)).toInt32) &&& 858993459)).toUInt32 >>> ((4 : Int32).toUInt32 &&& Int32.toUInt32 31)).toInt32)) &&& 252645135).toUInt32 >>> ((8 : Int32).toUInt32 &&& Int32.toUInt32 31)).toInt32)))]) eJ6_bitCount_0f7a4_40 rfl (Nat.le_of_ble_eq_true rfl) rfl).run ?_
  refine (go_iload_n 0 eJ6_bitCount_0f7a4_41 rfl rfl).run ?_
  refine (go_iload_n 0 eJ6_bitCount_0f7a4_42 rfl rfl).run ?_
  refine (go_bipush (v := 16) eJ6_bitCount_0f7a4_43 rfl).run ?_
  refine (go_iushr eJ6_bitCount_0f7a4_45).run ?_
  refine (go_iadd eJ6_bitCount_0f7a4_46).run ?_
  refine (go_istore_n 0 (L' := [some (.int (((((((x0 - (((x0.toUInt32 >>> ((1 : Int32).toUInt32 &&& Int32.toUInt32 31)).toInt32) &&& 1431655765)) &&& 858993459) + ((((x0 - (((x0.toUInt32 >>> ((1 : Int32).toUInt32 &&& Int32.toUInt32 31)).toInt32) &&& 1431655765)).toUInt32 >>> ((2 : Int32).toUInt32 &&& Int32.toUInt32 31)).toInt32) &&& 858993459)) + (((((x0 - (((x0.toUInt32 >>> ((1 : Int32).toUInt32 &&& Int32.toUInt32 31)).toInt32) &&& 1431655765)) &&& 858993459) + ((((x0 - (((x0.toUInt32 >>> ((1 : Int32).toUInt32 &&& Int32.toUInt32 31)).toInt32) &&& 1431655765)).toUInt32 >>> ((2 : Int32).toUInt32 &&& Int32.toUInt32 31)).toInt32) &&& 858993459)).toUInt32 >>> ((4 : Int32).toUInt32 &&& Int32.toUInt32 31)).toInt32)) &&& 252645135) + (((((((x0 - (((x0.toUInt32 >>> ((1 : Int32).toUInt32 &&& Int32.toUInt32 31)).toInt32) &&& 1431655765)) &&& 858993459) + ((((x0 - (((x0.toUInt32 >>> ((1 : Int32).toUInt32 &&& Int32.toUInt32 31)).toInt32) &&& 1431655765)).toUInt32 >>> ((2 : Int32).toUInt32 &&& Int32.toUInt32 31)).toInt32) &&& 858993459)) + (((((x0 - (((x0.toUInt32 >>> ((1 : Int32).toUInt32 &&& Int32.toUInt32 31)).toInt32) &&& 1431655765)) &&& 858993459) + ((((x0 - (((x0.toUInt32 >>> ((1 : Int32).toUInt32 &&& Int32.toUInt32 31)).toInt32) &&& 1431655765)).toUInt32 >>> ((2 : Int32).toUInt32 &&& Int32.toUInt32 31)).toInt32) &&& 858993459)).toUInt32 >>> ((4 : Int32).toUInt32 &&& Int32.toUInt32 31)).toInt32)) &&& 252645135).toUInt32 >>> ((8 : Int32).toUInt32 &&& Int32.toUInt32 31)).toInt32)) + ((((((((x0 - (((x0.toUInt32 >>> ((1 : Int32).toUInt32 &&& Int32.toUInt32 31)).toInt32) &&& 1431655765)) &&& 858993459) + ((((x0 - (((x0.toUInt32 >>> ((1 : Int32).toUInt32 &&& Int32.toUInt32 31)).toInt32) &&& 1431655765)).toUInt32 >>> ((2 : Int32).toUInt32 &&& Int32.toUInt32 31)).toInt32) &&& 858993459)) + (((((x0 - (((x0.toUInt32 >>> ((1 : Int32).toUInt32 &&& Int32.toUInt32 31)).toInt32) &&& 1431655765)) &&& 858993459) + ((((x0 - (((x0.toUInt32 >>> ((1 : Int32).toUInt32 &&& Int32.toUInt32 31)).toInt32) &&& 1431655765)).toUInt32 >>> ((2 : Int32).toUInt32 &&& Int32.toUInt32 31)).toInt32) &&& 858993459)).toUInt32 >>> ((4 : Int32).toUInt32 &&& Int32.toUInt32 31)).toInt32)) &&& 252645135) + (((((((x0 - (((x0.toUInt32 >>> ((1 : Int32).toUInt32 &&& Int32.toUInt32 31)).toInt32) &&& 1431655765)) &&& 858993459) + ((((x0 - (((x0.toUInt32 >>> ((1 : Int32).toUInt32 &&& Int32.toUInt32 31)).toInt32) &&& 1431655765)).toUInt32 >>> ((2 : Int32).toUInt32 &&& Int32.toUInt32 31)).toInt32) &&& 858993459)) + (((((x0 - (((x0.toUInt32 >>> ((1 : Int32).toUInt32 &&& Int32.toUInt32 31)).toInt32) &&& 1431655765)) &&& 858993459) + ((((x0 - (((x0.toUInt32 >>> ((1 : Int32).toUInt32 &&& Int32.toUInt32 31)).toInt32) &&& 1431655765)).toUInt32 >>> ((2 : Int32).toUInt32 &&& Int32.toUInt32 31)).toInt32) &&& 858993459)).toUInt32 >>> ((4 : Int32).toUInt32 &&& Int32.toUInt32 31)).toInt32)) &&& 252645135).toUInt32 >>> ((8 : Int32).toUInt32 &&& Int32.toUInt32 31)).toInt32)).toUInt32 >>> ((16 : Int32).toUInt32 &&& Int32.toUInt32 31)).toInt32)))]) eJ6_bitCount_0f7a4_47 rfl (Nat.le_of_ble_eq_true rfl) rfl).run ?_
  refine (go_iload_n 0 eJ6_bitCount_0f7a4_48 rfl rfl).run ?_
  refine (go_bipush (v := 63) eJ6_bitCount_0f7a4_49 rfl).run ?_
  refine (go_iand eJ6_bitCount_0f7a4_51).run ?_
  exact Run.ret (v := some (.int ((((((((x0 - (((x0.toUInt32 >>> ((1 : Int32).toUInt32 &&& Int32.toUInt32 31)).toInt32) &&& 1431655765)) &&& 858993459) + ((((x0 - (((x0.toUInt32 >>> ((1 : Int32).toUInt32 &&& Int32.toUInt32 31)).toInt32) &&& 1431655765)).toUInt32 >>> ((2 : Int32).toUInt32 &&& Int32.toUInt32 31)).toInt32) &&& 858993459)) + (((((x0 - (((x0.toUInt32 >>> ((1 : Int32).toUInt32 &&& Int32.toUInt32 31)).toInt32) &&& 1431655765)) &&& 858993459) + ((((x0 - (((x0.toUInt32 >>> ((1 : Int32).toUInt32 &&& Int32.toUInt32 31)).toInt32) &&& 1431655765)).toUInt32 >>> ((2 : Int32).toUInt32 &&& Int32.toUInt32 31)).toInt32) &&& 858993459)).toUInt32 >>> ((4 : Int32).toUInt32 &&& Int32.toUInt32 31)).toInt32)) &&& 252645135) + (((((((x0 - (((x0.toUInt32 >>> ((1 : Int32).toUInt32 &&& Int32.toUInt32 31)).toInt32) &&& 1431655765)) &&& 858993459) + ((((x0 - (((x0.toUInt32 >>> ((1 : Int32).toUInt32 &&& Int32.toUInt32 31)).toInt32) &&& 1431655765)).toUInt32 >>> ((2 : Int32).toUInt32 &&& Int32.toUInt32 31)).toInt32) &&& 858993459)) + (((((x0 - (((x0.toUInt32 >>> ((1 : Int32).toUInt32 &&& Int32.toUInt32 31)).toInt32) &&& 1431655765)) &&& 858993459) + ((((x0 - (((x0.toUInt32 >>> ((1 : Int32).toUInt32 &&& Int32.toUInt32 31)).toInt32) &&& 1431655765)).toUInt32 >>> ((2 : Int32).toUInt32 &&& Int32.toUInt32 31)).toInt32) &&& 858993459)).toUInt32 >>> ((4 : Int32).toUInt32 &&& Int32.toUInt32 31)).toInt32)) &&& 252645135).toUInt32 >>> ((8 : Int32).toUInt32 &&& Int32.toUInt32 31)).toInt32)) + ((((((((x0 - (((x0.toUInt32 >>> ((1 : Int32).toUInt32 &&& Int32.toUInt32 31)).toInt32) &&& 1431655765)) &&& 858993459) + ((((x0 - (((x0.toUInt32 >>> ((1 : Int32).toUInt32 &&& Int32.toUInt32 31)).toInt32) &&& 1431655765)).toUInt32 >>> ((2 : Int32).toUInt32 &&& Int32.toUInt32 31)).toInt32) &&& 858993459)) + (((((x0 - (((x0.toUInt32 >>> ((1 : Int32).toUInt32 &&& Int32.toUInt32 31)).toInt32) &&& 1431655765)) &&& 858993459) + ((((x0 - (((x0.toUInt32 >>> ((1 : Int32).toUInt32 &&& Int32.toUInt32 31)).toInt32) &&& 1431655765)).toUInt32 >>> ((2 : Int32).toUInt32 &&& Int32.toUInt32 31)).toInt32) &&& 858993459)).toUInt32 >>> ((4 : Int32).toUInt32 &&& Int32.toUInt32 31)).toInt32)) &&& 252645135) + (((((((x0 - (((x0.toUInt32 >>> ((1 : Int32).toUInt32 &&& Int32.toUInt32 31)).toInt32) &&& 1431655765)) &&& 858993459) + ((((x0 - (((x0.toUInt32 >>> ((1 : Int32).toUInt32 &&& Int32.toUInt32 31)).toInt32) &&& 1431655765)).toUInt32 >>> ((2 : Int32).toUInt32 &&& Int32.toUInt32 31)).toInt32) &&& 858993459)) + (((((x0 - (((x0.toUInt32 >>> ((1 : Int32).toUInt32 &&& Int32.toUInt32 31)).toInt32) &&& 1431655765)) &&& 858993459) + ((((x0 - (((x0.toUInt32 >>> ((1 : Int32).toUInt32 &&& Int32.toUInt32 31)).toInt32) &&& 1431655765)).toUInt32 >>> ((2 : Int32).toUInt32 &&& Int32.toUInt32 31)).toInt32) &&& 858993459)).toUInt32 >>> ((4 : Int32).toUInt32 &&& Int32.toUInt32 31)).toInt32)) &&& 252645135).toUInt32 >>> ((8 : Int32).toUInt32 &&& Int32.toUInt32 31)).toInt32)).toUInt32 >>> ((16 : Int32).toUInt32 &&& Int32.toUInt32 31)).toInt32)) &&& 63))) k1 ⟨Or.inl rfl, eJ6_bitCount_0f7a4_52⟩ rfl

def rJ6_bitCount_0f7a4 (x0 : Int32) (σ : St) : Int32 := ((((((((x0 - (((x0.toUInt32 >>> ((1 : Int32).toUInt32 &&& Int32.toUInt32 31)).toInt32) &&& 1431655765)) &&& 858993459) + ((((x0 - (((x0.toUInt32 >>> ((1 : Int32).toUInt32 &&& Int32.toUInt32 31)).toInt32) &&& 1431655765)).toUInt32 >>> ((2 : Int32).toUInt32 &&& Int32.toUInt32 31)).toInt32) &&& 858993459)) + (((((x0 - (((x0.toUInt32 >>> ((1 : Int32).toUInt32 &&& Int32.toUInt32 31)).toInt32) &&& 1431655765)) &&& 858993459) + ((((x0 - (((x0.toUInt32 >>> ((1 : Int32).toUInt32 &&& Int32.toUInt32 31)).toInt32) &&& 1431655765)).toUInt32 >>> ((2 : Int32).toUInt32 &&& Int32.toUInt32 31)).toInt32) &&& 858993459)).toUInt32 >>> ((4 : Int32).toUInt32 &&& Int32.toUInt32 31)).toInt32)) &&& 252645135) + (((((((x0 - (((x0.toUInt32 >>> ((1 : Int32).toUInt32 &&& Int32.toUInt32 31)).toInt32) &&& 1431655765)) &&& 858993459) + ((((x0 - (((x0.toUInt32 >>> ((1 : Int32).toUInt32 &&& Int32.toUInt32 31)).toInt32) &&& 1431655765)).toUInt32 >>> ((2 : Int32).toUInt32 &&& Int32.toUInt32 31)).toInt32) &&& 858993459)) + (((((x0 - (((x0.toUInt32 >>> ((1 : Int32).toUInt32 &&& Int32.toUInt32 31)).toInt32) &&& 1431655765)) &&& 858993459) + ((((x0 - (((x0.toUInt32 >>> ((1 : Int32).toUInt32 &&& Int32.toUInt32 31)).toInt32) &&& 1431655765)).toUInt32 >>> ((2 : Int32).toUInt32 &&& Int32.toUInt32 31)).toInt32) &&& 858993459)).toUInt32 >>> ((4 : Int32).toUInt32 &&& Int32.toUInt32 31)).toInt32)) &&& 252645135).toUInt32 >>> ((8 : Int32).toUInt32 &&& Int32.toUInt32 31)).toInt32)) + ((((((((x0 - (((x0.toUInt32 >>> ((1 : Int32).toUInt32 &&& Int32.toUInt32 31)).toInt32) &&& 1431655765)) &&& 858993459) + ((((x0 - (((x0.toUInt32 >>> ((1 : Int32).toUInt32 &&& Int32.toUInt32 31)).toInt32) &&& 1431655765)).toUInt32 >>> ((2 : Int32).toUInt32 &&& Int32.toUInt32 31)).toInt32) &&& 858993459)) + (((((x0 - (((x0.toUInt32 >>> ((1 : Int32).toUInt32 &&& Int32.toUInt32 31)).toInt32) &&& 1431655765)) &&& 858993459) + ((((x0 - (((x0.toUInt32 >>> ((1 : Int32).toUInt32 &&& Int32.toUInt32 31)).toInt32) &&& 1431655765)).toUInt32 >>> ((2 : Int32).toUInt32 &&& Int32.toUInt32 31)).toInt32) &&& 858993459)).toUInt32 >>> ((4 : Int32).toUInt32 &&& Int32.toUInt32 31)).toInt32)) &&& 252645135) + (((((((x0 - (((x0.toUInt32 >>> ((1 : Int32).toUInt32 &&& Int32.toUInt32 31)).toInt32) &&& 1431655765)) &&& 858993459) + ((((x0 - (((x0.toUInt32 >>> ((1 : Int32).toUInt32 &&& Int32.toUInt32 31)).toInt32) &&& 1431655765)).toUInt32 >>> ((2 : Int32).toUInt32 &&& Int32.toUInt32 31)).toInt32) &&& 858993459)) + (((((x0 - (((x0.toUInt32 >>> ((1 : Int32).toUInt32 &&& Int32.toUInt32 31)).toInt32) &&& 1431655765)) &&& 858993459) + ((((x0 - (((x0.toUInt32 >>> ((1 : Int32).toUInt32 &&& Int32.toUInt32 31)).toInt32) &&& 1431655765)).toUInt32 >>> ((2 : Int32).toUInt32 &&& Int32.toUInt32 31)).toInt32) &&& 858993459)).toUInt32 >>> ((4 : Int32).toUInt32 &&& Int32.toUInt32 31)).toInt32)) &&& 252645135).toUInt32 >>> ((8 : Int32).toUInt32 &&& Int32.toUInt32 31)).toInt32)).toUInt32 >>> ((16 : Int32).toUInt32 &&& Int32.toUInt32 31)).toInt32)) &&& 63)
theorem qJ6_bitCount_0f7a4 (d : Nat) (x0 : Int32) (σ : St) : Ct yJ6_bitCount_0f7a4 MJ6_bitCount_0f7a4 d [.int x0] σ (fun v σ1 => v = some (.int (rJ6_bitCount_0f7a4 x0 σ)) ∧ σ1 = σ) :=
  Ct.of mJ6_bitCount_0f7a4.1 (Nat.le_of_ble_eq_true rfl) (bJ6_bitCount_0f7a4_0 x0 σ   (⟨by first | rfl | (simp only [rJ6_bitCount_0f7a4, true_and, and_true, false_and, and_false, true_or, or_true, false_or, or_false, not_true_eq_false, not_false_eq_true, if_true, if_false]; done) | (simp [rJ6_bitCount_0f7a4, bI]; done), by first | rfl | (simp only [rJ6_bitCount_0f7a4, true_and, and_true, false_and, and_false, true_or, or_true, false_or, or_false, not_true_eq_false, not_false_eq_true, if_true, if_false]; done) | (simp [rJ6_bitCount_0f7a4, bI]; done)⟩))

/-! CarryNets$BestNets.loadsFit -/
theorem eX0_loadsFit_0 : decode MX0_loadsFit.2.1 0 = .ok (.iconst 0, 1) := by decide +kernel
theorem eX0_loadsFit_1 : decode MX0_loadsFit.2.1 1 = .ok (.istore_n 3, 1) := by decide +kernel
theorem eX0_loadsFit_2 : decode MX0_loadsFit.2.1 2 = .ok (.iconst 1, 1) := by decide +kernel
theorem eX0_loadsFit_3 : decode MX0_loadsFit.2.1 3 = .ok (.istore 4, 2) := by decide +kernel
theorem eX0_loadsFit_5 : decode MX0_loadsFit.2.1 5 = .ok (.iload 4, 2) := by decide +kernel
theorem eX0_loadsFit_7 : decode MX0_loadsFit.2.1 7 = .ok (.aload_n 0, 1) := by decide +kernel
theorem eX0_loadsFit_8 : decode MX0_loadsFit.2.1 8 = .ok (.getfield 18, 3) := by decide +kernel
theorem eX0_loadsFit_11 : decode MX0_loadsFit.2.1 11 = .ok (.if_icmp .ge 59, 3) := by decide +kernel
theorem eX0_loadsFit_14 : decode MX0_loadsFit.2.1 14 = .ok (.iload_n 1, 1) := by decide +kernel
theorem eX0_loadsFit_15 : decode MX0_loadsFit.2.1 15 = .ok (.iload 4, 2) := by decide +kernel
theorem eX0_loadsFit_17 : decode MX0_loadsFit.2.1 17 = .ok (.invokestatic 92, 3) := by decide +kernel
theorem eX0_loadsFit_20 : decode MX0_loadsFit.2.1 20 = .ok (.istore 5, 2) := by decide +kernel
theorem eX0_loadsFit_22 : decode MX0_loadsFit.2.1 22 = .ok (.iload_n 2, 1) := by decide +kernel
theorem eX0_loadsFit_23 : decode MX0_loadsFit.2.1 23 = .ok (.iload 4, 2) := by decide +kernel
theorem eX0_loadsFit_25 : decode MX0_loadsFit.2.1 25 = .ok (.ishr, 1) := by decide +kernel
theorem eX0_loadsFit_26 : decode MX0_loadsFit.2.1 26 = .ok (.iconst 1, 1) := by decide +kernel
theorem eX0_loadsFit_27 : decode MX0_loadsFit.2.1 27 = .ok (.iand, 1) := by decide +kernel
theorem eX0_loadsFit_28 : decode MX0_loadsFit.2.1 28 = .ok (.ifCond .eq 36, 3) := by decide +kernel
theorem eX0_loadsFit_31 : decode MX0_loadsFit.2.1 31 = .ok (.iload 5, 2) := by decide +kernel
theorem eX0_loadsFit_33 : decode MX0_loadsFit.2.1 33 = .ok (.ifCond .le 31, 3) := by decide +kernel
theorem eX0_loadsFit_36 : decode MX0_loadsFit.2.1 36 = .ok (.iload_n 3, 1) := by decide +kernel
theorem eX0_loadsFit_37 : decode MX0_loadsFit.2.1 37 = .ok (.iconst 1, 1) := by decide +kernel
theorem eX0_loadsFit_38 : decode MX0_loadsFit.2.1 38 = .ok (.iconst 3, 1) := by decide +kernel
theorem eX0_loadsFit_39 : decode MX0_loadsFit.2.1 39 = .ok (.iload 5, 2) := by decide +kernel
theorem eX0_loadsFit_41 : decode MX0_loadsFit.2.1 41 = .ok (.iconst 1, 1) := by decide +kernel
theorem eX0_loadsFit_42 : decode MX0_loadsFit.2.1 42 = .ok (.isub, 1) := by decide +kernel
theorem eX0_loadsFit_43 : decode MX0_loadsFit.2.1 43 = .ok (.imul, 1) := by decide +kernel
theorem eX0_loadsFit_44 : decode MX0_loadsFit.2.1 44 = .ok (.ishl, 1) := by decide +kernel
theorem eX0_loadsFit_45 : decode MX0_loadsFit.2.1 45 = .ok (.iadd, 1) := by decide +kernel
theorem eX0_loadsFit_46 : decode MX0_loadsFit.2.1 46 = .ok (.istore_n 3, 1) := by decide +kernel
theorem eX0_loadsFit_47 : decode MX0_loadsFit.2.1 47 = .ok (.iload_n 3, 1) := by decide +kernel
theorem eX0_loadsFit_48 : decode MX0_loadsFit.2.1 48 = .ok (.iload 5, 2) := by decide +kernel
theorem eX0_loadsFit_50 : decode MX0_loadsFit.2.1 50 = .ok (.iconst 1, 1) := by decide +kernel
theorem eX0_loadsFit_51 : decode MX0_loadsFit.2.1 51 = .ok (.isub, 1) := by decide +kernel
theorem eX0_loadsFit_52 : decode MX0_loadsFit.2.1 52 = .ok (.invokestatic 92, 3) := by decide +kernel
theorem eX0_loadsFit_55 : decode MX0_loadsFit.2.1 55 = .ok (.aload_n 0, 1) := by decide +kernel
theorem eX0_loadsFit_56 : decode MX0_loadsFit.2.1 56 = .ok (.getfield 25, 3) := by decide +kernel
theorem eX0_loadsFit_59 : decode MX0_loadsFit.2.1 59 = .ok (.if_icmp .le 5, 3) := by decide +kernel
theorem eX0_loadsFit_62 : decode MX0_loadsFit.2.1 62 = .ok (.iconst 0, 1) := by decide +kernel
theorem eX0_loadsFit_63 : decode MX0_loadsFit.2.1 63 = .ok (.ireturn, 1) := by decide +kernel
theorem eX0_loadsFit_64 : decode MX0_loadsFit.2.1 64 = .ok (.iinc 4 1, 3) := by decide +kernel
theorem eX0_loadsFit_67 : decode MX0_loadsFit.2.1 67 = .ok (.goto (-62), 3) := by decide +kernel
theorem eX0_loadsFit_70 : decode MX0_loadsFit.2.1 70 = .ok (.iconst 1, 1) := by decide +kernel
theorem eX0_loadsFit_71 : decode MX0_loadsFit.2.1 71 = .ok (.ireturn, 1) := by decide +kernel
set_option maxRecDepth 20000 in
theorem bX0_loadsFit_0 {d : Nat} {Q : Option Value → St → Prop} (x1 : Int32) (x2 : Int32) (σ : St) 
    (k1 : Run MX0_loadsFit (d + 1) 5 [some (.ref 21), some (.int x1), some (.int x2), some (.int 0), some (.int 1), none] [] σ Q)
    : Run MX0_loadsFit (d + 1) 0 [some (.ref 21), some (.int x1), some (.int x2), none, none, none] [] σ Q := by
  refine (go_iconst (v := 0) eX0_loadsFit_0 rfl).run ?_
  refine (go_istore_n 3 (L' := [some (.ref 21), some (.int x1), some (.int x2), some (.int 0), none, none]) eX0_loadsFit_1 rfl (Nat.le_of_ble_eq_true rfl) rfl).run ?_
  refine (go_iconst (v := 1) eX0_loadsFit_2 rfl).run ?_
  refine (go_istore 4 (L' := [some (.ref 21), some (.int x1), some (.int x2), some (.int 0), some (.int 1), none]) eX0_loadsFit_3 (Nat.le_of_ble_eq_true rfl) rfl).run ?_
  exact k1

set_option maxRecDepth 20000 in
theorem bX0_loadsFit_5 {d : Nat} {Q : Option Value → St → Prop} (x1 : Int32) (x2 : Int32) (x3 : Int32) (x4 : Int32) (σ : St) 
    (k1 : (σ.1 21 2) ≤ x4 → Q (some (.int 1)) σ)
    (k2 : x4 < (σ.1 21 2) → ((x2 >>> (x4 &&& 31)) &&& 1) = 0 → Run MX0_loadsFit (d + 1) 5 [some (.ref 21), some (.int x1), some (.int x2), some (.int x3), some (.int (x4 + 1)), none] [] σ Q)
    (k3 : x4 < (σ.1 21 2) → ¬ ((x2 >>> (x4 &&& 31)) &&& 1) = 0 → ((rX0_part x1 x4 σ)) ≤ 0 → Run MX0_loadsFit (d + 1) 5 [some (.ref 21), some (.int x1), some (.int x2), some (.int x3), some (.int (x4 + 1)), none] [] σ Q)
    (k4 : x4 < (σ.1 21 2) → ¬ ((x2 >>> (x4 &&& 31)) &&& 1) = 0 → (0 : Int32) < ((rX0_part x1 x4 σ)) → ((rX0_part (x3 + ((1 : Int32) <<< (((3 : Int32) * (((rX0_part x1 x4 σ)) - 1)) &&& 31))) (((rX0_part x1 x4 σ)) - 1) σ)) ≤ (σ.1 21 4) → Run MX0_loadsFit (d + 1) 5 [some (.ref 21), some (.int x1), some (.int x2), some (.int (x3 + ((1 : Int32) <<< (((3 : Int32) * (((rX0_part x1 x4 σ)) - 1)) &&& 31)))), some (.int (x4 + 1)), none] [] σ Q)
    (k5 : x4 < (σ.1 21 2) → ¬ ((x2 >>> (x4 &&& 31)) &&& 1) = 0 → (0 : Int32) < ((rX0_part x1 x4 σ)) → (σ.1 21 4) < ((rX0_part (x3 + ((1 : Int32) <<< (((3 : Int32) * (((rX0_part x1 x4 σ)) - 1)) &&& 31))) (((rX0_part x1 x4 σ)) - 1) σ)) → Q (some (.int 0)) σ)
    : Run MX0_loadsFit (d + 1) 5 [some (.ref 21), some (.int x1), some (.int x2), some (.int x3), some (.int x4), none] [] σ Q := by
  refine (go_iload 4 eX0_loadsFit_5 rfl).run ?_
  refine (go_aload_n 0 eX0_loadsFit_7 rfl rfl).run ?_
  refine (go_geti flX0_18 rf_0_2 kd_21 eX0_loadsFit_8).run ?_
  refine (bi_ge 70 eX0_loadsFit_11 rfl).run (fun h1 => ?_) (fun h1 => ?_)
  · refine (go_iconst (v := 1) eX0_loadsFit_70 rfl).run ?_
    exact Run.ret (v := some (.int 1)) (k1 h1) ⟨Or.inr ⟨rfl, Or.inr rfl⟩, eX0_loadsFit_71⟩ rfl
  · refine (go_iload_n 1 eX0_loadsFit_14 rfl rfl).run ?_
    refine (go_iload 4 eX0_loadsFit_15 rfl).run ?_
    refine Run.callS1 (d := d) (As := [.int x1, .int x4]) (r := .int ((rX0_part x1 x4 σ))) mX0_part lkX0_92 rfl rfl rfl (Nat.le_of_ble_eq_true rfl) eX0_loadsFit_17 (qX0_part d x1 x4 σ  ) ?_
    refine (go_istore 5 (L' := [some (.ref 21), some (.int x1), some (.int x2), some (.int x3), some (.int x4), some (.int ((rX0_part x1 x4 σ)))]) eX0_loadsFit_20 (Nat.le_of_ble_eq_true rfl) rfl).run ?_
    refine (go_iload_n 2 eX0_loadsFit_22 rfl rfl).run ?_
    refine (go_iload 4 eX0_loadsFit_23 rfl).run ?_
    refine (go_ishr eX0_loadsFit_25).run ?_
    refine (go_iconst (v := 1) eX0_loadsFit_26 rfl).run ?_
    refine (go_iand eX0_loadsFit_27).run ?_
    refine (bz_eq 64 eX0_loadsFit_28 rfl).run (fun h2 => ?_) (fun h2 => ?_)
    · refine (go_iinc 4 (v := (x4 + 1)) (L' := [some (.ref 21), some (.int x1), some (.int x2), some (.int x3), some (.int (x4 + 1)), some (.int ((rX0_part x1 x4 σ)))]) eX0_loadsFit_64 rfl rfl (Nat.le_of_ble_eq_true rfl) rfl).run ?_
      refine (go_goto 5 eX0_loadsFit_67 rfl).run ?_
      refine (go_sub (L' := [some (.ref 21), some (.int x1), some (.int x2), some (.int x3), some (.int (x4 + 1)), none]) (lsub_keep (lsub_keep (lsub_keep (lsub_keep (lsub_keep (lsub_drop lsub_nil))))))).run ?_
      exact (k2 h1 h2)
    · refine (go_iload 5 eX0_loadsFit_31 rfl).run ?_
      refine (bz_le 64 eX0_loadsFit_33 rfl).run (fun h3 => ?_) (fun h3 => ?_)
      · refine (go_iinc 4 (v := (x4 + 1)) (L' := [some (.ref 21), some (.int x1), some (.int x2), some (.int x3), some (.int (x4 + 1)), some (.int ((rX0_part x1 x4 σ)))]) eX0_loadsFit_64 rfl rfl (Nat.le_of_ble_eq_true rfl) rfl).run ?_
        refine (go_goto 5 eX0_loadsFit_67 rfl).run ?_
        refine (go_sub (L' := [some (.ref 21), some (.int x1), some (.int x2), some (.int x3), some (.int (x4 + 1)), none]) (lsub_keep (lsub_keep (lsub_keep (lsub_keep (lsub_keep (lsub_drop lsub_nil))))))).run ?_
        exact (k3 h1 h2 h3)
      · refine (go_iload_n 3 eX0_loadsFit_36 rfl rfl).run ?_
        refine (go_iconst (v := 1) eX0_loadsFit_37 rfl).run ?_
        refine (go_iconst (v := 3) eX0_loadsFit_38 rfl).run ?_
        refine (go_iload 5 eX0_loadsFit_39 rfl).run ?_
        refine (go_iconst (v := 1) eX0_loadsFit_41 rfl).run ?_
        refine (go_isub eX0_loadsFit_42).run ?_
        refine (go_imul eX0_loadsFit_43).run ?_
        refine (go_ishl eX0_loadsFit_44).run ?_
        refine (go_iadd eX0_loadsFit_45).run ?_
        refine (go_istore_n 3 (L' := [some (.ref 21), some (.int x1), some (.int x2), some (.int (x3 + ((1 : Int32) <<< (((3 : Int32) * (((rX0_part x1 x4 σ)) - 1)) &&& 31)))), some (.int x4), some (.int ((rX0_part x1 x4 σ)))]) eX0_loadsFit_46 rfl (Nat.le_of_ble_eq_true rfl) rfl).run ?_
        refine (go_iload_n 3 eX0_loadsFit_47 rfl rfl).run ?_
        refine (go_iload 5 eX0_loadsFit_48 rfl).run ?_
        refine (go_iconst (v := 1) eX0_loadsFit_50 rfl).run ?_
        refine (go_isub eX0_loadsFit_51).run ?_
        refine Run.callS1 (d := d) (As := [.int (x3 + ((1 : Int32) <<< (((3 : Int32) * (((rX0_part x1 x4 σ)) - 1)) &&& 31))), .int (((rX0_part x1 x4 σ)) - 1)]) (r := .int ((rX0_part (x3 + ((1 : Int32) <<< (((3 : Int32) * (((rX0_part x1 x4 σ)) - 1)) &&& 31))) (((rX0_part x1 x4 σ)) - 1) σ))) mX0_part lkX0_92 rfl rfl rfl (Nat.le_of_ble_eq_true rfl) eX0_loadsFit_52 (qX0_part d (x3 + ((1 : Int32) <<< (((3 : Int32) * (((rX0_part x1 x4 σ)) - 1)) &&& 31))) (((rX0_part x1 x4 σ)) - 1) σ  ) ?_
        refine (go_aload_n 0 eX0_loadsFit_55 rfl rfl).run ?_
        refine (go_geti flX0_25 rf_0_4 kd_21 eX0_loadsFit_56).run ?_
        refine (bi_le 64 eX0_loadsFit_59 rfl).run (fun h4 => ?_) (fun h4 => ?_)
        · refine (go_iinc 4 (v := (x4 + 1)) (L' := [some (.ref 21), some (.int x1), some (.int x2), some (.int (x3 + ((1 : Int32) <<< (((3 : Int32) * (((rX0_part x1 x4 σ)) - 1)) &&& 31)))), some (.int (x4 + 1)), some (.int ((rX0_part x1 x4 σ)))]) eX0_loadsFit_64 rfl rfl (Nat.le_of_ble_eq_true rfl) rfl).run ?_
          refine (go_goto 5 eX0_loadsFit_67 rfl).run ?_
          refine (go_sub (L' := [some (.ref 21), some (.int x1), some (.int x2), some (.int (x3 + ((1 : Int32) <<< (((3 : Int32) * (((rX0_part x1 x4 σ)) - 1)) &&& 31)))), some (.int (x4 + 1)), none]) (lsub_keep (lsub_keep (lsub_keep (lsub_keep (lsub_keep (lsub_drop lsub_nil))))))).run ?_
          exact (k4 h1 h2 h3 h4)
        · refine (go_iconst (v := 0) eX0_loadsFit_62 rfl).run ?_
          exact Run.ret (v := some (.int 0)) (k5 h1 h2 h3 h4) ⟨Or.inr ⟨rfl, Or.inl rfl⟩, eX0_loadsFit_63⟩ rfl

/-! CarryNets$BestNets.joined -/
theorem eX0_joined_0 : decode MX0_joined.2.1 0 = .ok (.iload_n 1, 1) := by decide +kernel
theorem eX0_joined_1 : decode MX0_joined.2.1 1 = .ok (.istore_n 3, 1) := by decide +kernel
theorem eX0_joined_2 : decode MX0_joined.2.1 2 = .ok (.iconst 1, 1) := by decide +kernel
theorem eX0_joined_3 : decode MX0_joined.2.1 3 = .ok (.istore 4, 2) := by decide +kernel
theorem eX0_joined_5 : decode MX0_joined.2.1 5 = .ok (.iload 4, 2) := by decide +kernel
theorem eX0_joined_7 : decode MX0_joined.2.1 7 = .ok (.aload_n 0, 1) := by decide +kernel
theorem eX0_joined_8 : decode MX0_joined.2.1 8 = .ok (.getfield 18, 3) := by decide +kernel
theorem eX0_joined_11 : decode MX0_joined.2.1 11 = .ok (.if_icmp .ge 50, 3) := by decide +kernel
theorem eX0_joined_14 : decode MX0_joined.2.1 14 = .ok (.iload_n 1, 1) := by decide +kernel
theorem eX0_joined_15 : decode MX0_joined.2.1 15 = .ok (.iload 4, 2) := by decide +kernel
theorem eX0_joined_17 : decode MX0_joined.2.1 17 = .ok (.invokestatic 92, 3) := by decide +kernel
theorem eX0_joined_20 : decode MX0_joined.2.1 20 = .ok (.istore 5, 2) := by decide +kernel
theorem eX0_joined_22 : decode MX0_joined.2.1 22 = .ok (.iload_n 2, 1) := by decide +kernel
theorem eX0_joined_23 : decode MX0_joined.2.1 23 = .ok (.iload 4, 2) := by decide +kernel
theorem eX0_joined_25 : decode MX0_joined.2.1 25 = .ok (.ishr, 1) := by decide +kernel
theorem eX0_joined_26 : decode MX0_joined.2.1 26 = .ok (.iconst 1, 1) := by decide +kernel
theorem eX0_joined_27 : decode MX0_joined.2.1 27 = .ok (.iand, 1) := by decide +kernel
theorem eX0_joined_28 : decode MX0_joined.2.1 28 = .ok (.ifCond .eq 27, 3) := by decide +kernel
theorem eX0_joined_31 : decode MX0_joined.2.1 31 = .ok (.iload 5, 2) := by decide +kernel
theorem eX0_joined_33 : decode MX0_joined.2.1 33 = .ok (.ifCond .le 22, 3) := by decide +kernel
theorem eX0_joined_36 : decode MX0_joined.2.1 36 = .ok (.iload_n 3, 1) := by decide +kernel
theorem eX0_joined_37 : decode MX0_joined.2.1 37 = .ok (.iload_n 1, 1) := by decide +kernel
theorem eX0_joined_38 : decode MX0_joined.2.1 38 = .ok (.iload 5, 2) := by decide +kernel
theorem eX0_joined_40 : decode MX0_joined.2.1 40 = .ok (.iconst 1, 1) := by decide +kernel
theorem eX0_joined_41 : decode MX0_joined.2.1 41 = .ok (.isub, 1) := by decide +kernel
theorem eX0_joined_42 : decode MX0_joined.2.1 42 = .ok (.invokestatic 92, 3) := by decide +kernel
theorem eX0_joined_45 : decode MX0_joined.2.1 45 = .ok (.iload 5, 2) := by decide +kernel
theorem eX0_joined_47 : decode MX0_joined.2.1 47 = .ok (.isub, 1) := by decide +kernel
theorem eX0_joined_48 : decode MX0_joined.2.1 48 = .ok (.iconst 3, 1) := by decide +kernel
theorem eX0_joined_49 : decode MX0_joined.2.1 49 = .ok (.iload 4, 2) := by decide +kernel
theorem eX0_joined_51 : decode MX0_joined.2.1 51 = .ok (.imul, 1) := by decide +kernel
theorem eX0_joined_52 : decode MX0_joined.2.1 52 = .ok (.ishl, 1) := by decide +kernel
theorem eX0_joined_53 : decode MX0_joined.2.1 53 = .ok (.iadd, 1) := by decide +kernel
theorem eX0_joined_54 : decode MX0_joined.2.1 54 = .ok (.istore_n 3, 1) := by decide +kernel
theorem eX0_joined_55 : decode MX0_joined.2.1 55 = .ok (.iinc 4 1, 3) := by decide +kernel
theorem eX0_joined_58 : decode MX0_joined.2.1 58 = .ok (.goto (-53), 3) := by decide +kernel
theorem eX0_joined_61 : decode MX0_joined.2.1 61 = .ok (.iload_n 3, 1) := by decide +kernel
theorem eX0_joined_62 : decode MX0_joined.2.1 62 = .ok (.ireturn, 1) := by decide +kernel
set_option maxRecDepth 20000 in
theorem bX0_joined_0 {d : Nat} {Q : Option Value → St → Prop} (x1 : Int32) (x2 : Int32) (σ : St) 
    (k1 : Run MX0_joined (d + 1) 5 [some (.ref 21), some (.int x1), some (.int x2), some (.int x1), some (.int 1), none] [] σ Q)
    : Run MX0_joined (d + 1) 0 [some (.ref 21), some (.int x1), some (.int x2), none, none, none] [] σ Q := by
  refine (go_iload_n 1 eX0_joined_0 rfl rfl).run ?_
  refine (go_istore_n 3 (L' := [some (.ref 21), some (.int x1), some (.int x2), some (.int x1), none, none]) eX0_joined_1 rfl (Nat.le_of_ble_eq_true rfl) rfl).run ?_
  refine (go_iconst (v := 1) eX0_joined_2 rfl).run ?_
  refine (go_istore 4 (L' := [some (.ref 21), some (.int x1), some (.int x2), some (.int x1), some (.int 1), none]) eX0_joined_3 (Nat.le_of_ble_eq_true rfl) rfl).run ?_
  exact k1

set_option maxRecDepth 20000 in
theorem bX0_joined_5 {d : Nat} {Q : Option Value → St → Prop} (x1 : Int32) (x2 : Int32) (x3 : Int32) (x4 : Int32) (σ : St) 
    (k1 : (σ.1 21 2) ≤ x4 → Q (some (.int x3)) σ)
    (k2 : x4 < (σ.1 21 2) → Run MX0_joined (d + 1) 5 [some (.ref 21), some (.int x1), some (.int x2), some (.int (if ((x2 >>> (x4 &&& 31)) &&& 1) = 0 then x3 else (if ((rX0_part x1 x4 σ)) ≤ 0 then x3 else (x3 + ((((rX0_part x1 (((rX0_part x1 x4 σ)) - 1) σ)) - ((rX0_part x1 x4 σ))) <<< (((3 : Int32) * x4) &&& 31)))))), some (.int (x4 + 1)), none] [] σ Q)
    : Run MX0_joined (d + 1) 5 [some (.ref 21), some (.int x1), some (.int x2), some (.int x3), some (.int x4), none] [] σ Q := by
  refine (go_iload 4 eX0_joined_5 rfl).run ?_
  refine (go_aload_n 0 eX0_joined_7 rfl rfl).run ?_
  refine (go_geti flX0_18 rf_0_2 kd_21 eX0_joined_8).run ?_
  refine (bi_ge 61 eX0_joined_11 rfl).run (fun h1 => ?_) (fun h1 => ?_)
  · refine (go_iload_n 3 eX0_joined_61 rfl rfl).run ?_
    exact Run.ret (v := some (.int x3)) (k1 h1) ⟨Or.inl rfl, eX0_joined_62⟩ rfl
  · refine (go_iload_n 1 eX0_joined_14 rfl rfl).run ?_
    refine (go_iload 4 eX0_joined_15 rfl).run ?_
    refine Run.callS1 (d := d) (As := [.int x1, .int x4]) (r := .int ((rX0_part x1 x4 σ))) mX0_part lkX0_92 rfl rfl rfl (Nat.le_of_ble_eq_true rfl) eX0_joined_17 (qX0_part d x1 x4 σ  ) ?_
    refine (go_istore 5 (L' := [some (.ref 21), some (.int x1), some (.int x2), some (.int x3), some (.int x4), some (.int ((rX0_part x1 x4 σ)))]) eX0_joined_20 (Nat.le_of_ble_eq_true rfl) rfl).run ?_
    refine (go_iload_n 2 eX0_joined_22 rfl rfl).run ?_
    refine (go_iload 4 eX0_joined_23 rfl).run ?_
    refine (go_ishr eX0_joined_25).run ?_
    refine (go_iconst (v := 1) eX0_joined_26 rfl).run ?_
    refine (go_iand eX0_joined_27).run ?_
    have hJh2 : Run MX0_joined (d + 1) 55 [some (.ref 21), some (.int x1), some (.int x2), some (.int (if ((x2 >>> (x4 &&& 31)) &&& 1) = 0 then x3 else (if ((rX0_part x1 x4 σ)) ≤ 0 then x3 else (x3 + ((((rX0_part x1 (((rX0_part x1 x4 σ)) - 1) σ)) - ((rX0_part x1 x4 σ))) <<< (((3 : Int32) * x4) &&& 31)))))), some (.int x4), none] [] σ Q := by
      refine (go_iinc 4 (v := (x4 + 1)) (L' := [some (.ref 21), some (.int x1), some (.int x2), some (.int (if ((x2 >>> (x4 &&& 31)) &&& 1) = 0 then x3 else (if ((rX0_part x1 x4 σ)) ≤ 0 then x3 else (x3 + ((((rX0_part x1 (((rX0_part x1 x4 σ)) - 1) σ)) - ((rX0_part x1 x4 σ))) <<< (((3 : Int32) * x4) &&& 31)))))), some (.int (x4 + 1)), none]) eX0_joined_55 rfl rfl (Nat.le_of_ble_eq_true rfl) rfl).run ?_
      refine (go_goto 5 eX0_joined_58 rfl).run ?_
      exact (k2 h1)
    refine (bz_eq 55 eX0_joined_28 rfl).run (fun h2 => ?_) (fun h2 => ?_)
    · refine (go_sub (L' := [some (.ref 21), some (.int x1), some (.int x2), some (.int x3), some (.int x4), none]) (lsub_keep (lsub_keep (lsub_keep (lsub_keep (lsub_keep (lsub_drop lsub_nil))))))).run ?_
      first | exact hJh2 | (simp only [if_pos h2] at hJh2; exact hJh2) | (simp only [eq_true h2, not_true_eq_false, true_and, and_true, false_and, and_false, true_or, or_true, false_or, or_false, not_true_eq_false, not_false_eq_true] at hJh2; exact hJh2) | exact Run.eq (by simp [eq_true h2, not_true_eq_false, bI]) (by simp [eq_true h2, not_true_eq_false, bI]) rfl hJh2
    · refine (go_iload 5 eX0_joined_31 rfl).run ?_
      have hJh3 : Run MX0_joined (d + 1) 55 [some (.ref 21), some (.int x1), some (.int x2), some (.int (if ((rX0_part x1 x4 σ)) ≤ 0 then x3 else (x3 + ((((rX0_part x1 (((rX0_part x1 x4 σ)) - 1) σ)) - ((rX0_part x1 x4 σ))) <<< (((3 : Int32) * x4) &&& 31))))), some (.int x4), none] [] σ Q := by
        first | exact hJh2 | (simp only [if_neg (h2)] at hJh2; exact hJh2) | (simp only [eq_false h2, not_false_eq_true, true_and, and_true, false_and, and_false, true_or, or_true, false_or, or_false, not_true_eq_false, not_false_eq_true] at hJh2; exact hJh2) | exact Run.eq (by simp [eq_false h2, not_false_eq_true, bI]) (by simp [eq_false h2, not_false_eq_true, bI]) rfl hJh2
      refine (bz_le 55 eX0_joined_33 rfl).run (fun h3 => ?_) (fun h3 => ?_)
      · refine (go_sub (L' := [some (.ref 21), some (.int x1), some (.int x2), some (.int x3), some (.int x4), none]) (lsub_keep (lsub_keep (lsub_keep (lsub_keep (lsub_keep (lsub_drop lsub_nil))))))).run ?_
        first | exact hJh3 | (simp only [if_pos h3] at hJh3; exact hJh3) | (simp only [eq_true h3, eq_false (i32_nlt.mpr h3), true_and, and_true, false_and, and_false, true_or, or_true, false_or, or_false, not_true_eq_false, not_false_eq_true] at hJh3; exact hJh3) | exact Run.eq (by simp [eq_true h3, eq_false (i32_nlt.mpr h3), bI]) (by simp [eq_true h3, eq_false (i32_nlt.mpr h3), bI]) rfl hJh3
      · refine (go_iload_n 3 eX0_joined_36 rfl rfl).run ?_
        refine (go_iload_n 1 eX0_joined_37 rfl rfl).run ?_
        refine (go_iload 5 eX0_joined_38 rfl).run ?_
        refine (go_iconst (v := 1) eX0_joined_40 rfl).run ?_
        refine (go_isub eX0_joined_41).run ?_
        refine Run.callS1 (d := d) (As := [.int x1, .int (((rX0_part x1 x4 σ)) - 1)]) (r := .int ((rX0_part x1 (((rX0_part x1 x4 σ)) - 1) σ))) mX0_part lkX0_92 rfl rfl rfl (Nat.le_of_ble_eq_true rfl) eX0_joined_42 (qX0_part d x1 (((rX0_part x1 x4 σ)) - 1) σ  ) ?_
        refine (go_iload 5 eX0_joined_45 rfl).run ?_
        refine (go_isub eX0_joined_47).run ?_
        refine (go_iconst (v := 3) eX0_joined_48 rfl).run ?_
        refine (go_iload 4 eX0_joined_49 rfl).run ?_
        refine (go_imul eX0_joined_51).run ?_
        refine (go_ishl eX0_joined_52).run ?_
        refine (go_iadd eX0_joined_53).run ?_
        refine (go_istore_n 3 (L' := [some (.ref 21), some (.int x1), some (.int x2), some (.int (x3 + ((((rX0_part x1 (((rX0_part x1 x4 σ)) - 1) σ)) - ((rX0_part x1 x4 σ))) <<< (((3 : Int32) * x4) &&& 31)))), some (.int x4), some (.int ((rX0_part x1 x4 σ)))]) eX0_joined_54 rfl (Nat.le_of_ble_eq_true rfl) rfl).run ?_
        refine (go_sub (L' := [some (.ref 21), some (.int x1), some (.int x2), some (.int (x3 + ((((rX0_part x1 (((rX0_part x1 x4 σ)) - 1) σ)) - ((rX0_part x1 x4 σ))) <<< (((3 : Int32) * x4) &&& 31)))), some (.int x4), none]) (lsub_keep (lsub_keep (lsub_keep (lsub_keep (lsub_keep (lsub_drop lsub_nil))))))).run ?_
        first | exact hJh3 | (simp only [if_neg (i32_nle.mpr h3)] at hJh3; exact hJh3) | (simp only [eq_true h3, eq_false (i32_nle.mpr h3), true_and, and_true, false_and, and_false, true_or, or_true, false_or, or_false, not_true_eq_false, not_false_eq_true] at hJh3; exact hJh3) | exact Run.eq (by simp [eq_true h3, eq_false (i32_nle.mpr h3), bI]) (by simp [eq_true h3, eq_false (i32_nle.mpr h3), bI]) rfl hJh3

/-! CarryNets$BestNets.waysByRows -/
theorem eX0_waysByRows_0 : decode MX0_waysByRows.2.1 0 = .ok (.aload_n 0, 1) := by decide +kernel
theorem eX0_waysByRows_1 : decode MX0_waysByRows.2.1 1 = .ok (.iload_n 1, 1) := by decide +kernel
theorem eX0_waysByRows_2 : decode MX0_waysByRows.2.1 2 = .ok (.invokevirtual 65, 3) := by decide +kernel
theorem eX0_waysByRows_5 : decode MX0_waysByRows.2.1 5 = .ok (.istore 4, 2) := by decide +kernel
theorem eX0_waysByRows_7 : decode MX0_waysByRows.2.1 7 = .ok (.aload_n 0, 1) := by decide +kernel
theorem eX0_waysByRows_8 : decode MX0_waysByRows.2.1 8 = .ok (.iload_n 1, 1) := by decide +kernel
theorem eX0_waysByRows_9 : decode MX0_waysByRows.2.1 9 = .ok (.invokevirtual 68, 3) := by decide +kernel
theorem eX0_waysByRows_12 : decode MX0_waysByRows.2.1 12 = .ok (.istore 5, 2) := by decide +kernel
theorem eX0_waysByRows_14 : decode MX0_waysByRows.2.1 14 = .ok (.iconst 0, 1) := by decide +kernel
theorem eX0_waysByRows_15 : decode MX0_waysByRows.2.1 15 = .ok (.istore 6, 2) := by decide +kernel
theorem eX0_waysByRows_17 : decode MX0_waysByRows.2.1 17 = .ok (.iload_n 2, 1) := by decide +kernel
theorem eX0_waysByRows_18 : decode MX0_waysByRows.2.1 18 = .ok (.iconst 1, 1) := by decide +kernel
theorem eX0_waysByRows_19 : decode MX0_waysByRows.2.1 19 = .ok (.if_icmp .ne 8, 3) := by decide +kernel
theorem eX0_waysByRows_22 : decode MX0_waysByRows.2.1 22 = .ok (.iload 4, 2) := by decide +kernel
theorem eX0_waysByRows_24 : decode MX0_waysByRows.2.1 24 = .ok (.goto 4, 3) := by decide +kernel
theorem eX0_waysByRows_27 : decode MX0_waysByRows.2.1 27 = .ok (.iconst 2, 1) := by decide +kernel
theorem eX0_waysByRows_28 : decode MX0_waysByRows.2.1 28 = .ok (.istore 7, 2) := by decide +kernel
theorem eX0_waysByRows_30 : decode MX0_waysByRows.2.1 30 = .ok (.iload 7, 2) := by decide +kernel
theorem eX0_waysByRows_32 : decode MX0_waysByRows.2.1 32 = .ok (.iload 4, 2) := by decide +kernel
theorem eX0_waysByRows_34 : decode MX0_waysByRows.2.1 34 = .ok (.if_icmp .gt 87, 3) := by decide +kernel
theorem eX0_waysByRows_37 : decode MX0_waysByRows.2.1 37 = .ok (.iload 7, 2) := by decide +kernel
theorem eX0_waysByRows_39 : decode MX0_waysByRows.2.1 39 = .ok (.iload 4, 2) := by decide +kernel
theorem eX0_waysByRows_41 : decode MX0_waysByRows.2.1 41 = .ok (.iconst (-1), 1) := by decide +kernel
theorem eX0_waysByRows_42 : decode MX0_waysByRows.2.1 42 = .ok (.ixor, 1) := by decide +kernel
theorem eX0_waysByRows_43 : decode MX0_waysByRows.2.1 43 = .ok (.iand, 1) := by decide +kernel
theorem eX0_waysByRows_44 : decode MX0_waysByRows.2.1 44 = .ok (.ifCond .ne 16, 3) := by decide +kernel
theorem eX0_waysByRows_47 : decode MX0_waysByRows.2.1 47 = .ok (.iload_n 3, 1) := by decide +kernel
theorem eX0_waysByRows_48 : decode MX0_waysByRows.2.1 48 = .ok (.iload 7, 2) := by decide +kernel
theorem eX0_waysByRows_50 : decode MX0_waysByRows.2.1 50 = .ok (.iload 5, 2) := by decide +kernel
theorem eX0_waysByRows_52 : decode MX0_waysByRows.2.1 52 = .ok (.iand, 1) := by decide +kernel
theorem eX0_waysByRows_53 : decode MX0_waysByRows.2.1 53 = .ok (.invokestatic 71, 3) := by decide +kernel
theorem eX0_waysByRows_56 : decode MX0_waysByRows.2.1 56 = .ok (.isub, 1) := by decide +kernel
theorem eX0_waysByRows_57 : decode MX0_waysByRows.2.1 57 = .ok (.goto 5, 3) := by decide +kernel
theorem eX0_waysByRows_60 : decode MX0_waysByRows.2.1 60 = .ok (.bipush (-4), 2) := by decide +kernel
theorem eX0_waysByRows_62 : decode MX0_waysByRows.2.1 62 = .ok (.istore 8, 2) := by decide +kernel
theorem eX0_waysByRows_64 : decode MX0_waysByRows.2.1 64 = .ok (.iload 8, 2) := by decide +kernel
theorem eX0_waysByRows_66 : decode MX0_waysByRows.2.1 66 = .ok (.ifCond .lt 49, 3) := by decide +kernel
theorem eX0_waysByRows_69 : decode MX0_waysByRows.2.1 69 = .ok (.aload_n 0, 1) := by decide +kernel
theorem eX0_waysByRows_70 : decode MX0_waysByRows.2.1 70 = .ok (.iload_n 1, 1) := by decide +kernel
theorem eX0_waysByRows_71 : decode MX0_waysByRows.2.1 71 = .ok (.iload 7, 2) := by decide +kernel
theorem eX0_waysByRows_73 : decode MX0_waysByRows.2.1 73 = .ok (.invokevirtual 76, 3) := by decide +kernel
theorem eX0_waysByRows_76 : decode MX0_waysByRows.2.1 76 = .ok (.ifCond .eq 39, 3) := by decide +kernel
theorem eX0_waysByRows_79 : decode MX0_waysByRows.2.1 79 = .ok (.aload_n 0, 1) := by decide +kernel
theorem eX0_waysByRows_80 : decode MX0_waysByRows.2.1 80 = .ok (.getfield 9, 3) := by decide +kernel
theorem eX0_waysByRows_83 : decode MX0_waysByRows.2.1 83 = .ok (.aload_n 0, 1) := by decide +kernel
theorem eX0_waysByRows_84 : decode MX0_waysByRows.2.1 84 = .ok (.getfield 22, 3) := by decide +kernel
theorem eX0_waysByRows_87 : decode MX0_waysByRows.2.1 87 = .ok (.iload_n 2, 1) := by decide +kernel
theorem eX0_waysByRows_88 : decode MX0_waysByRows.2.1 88 = .ok (.isub, 1) := by decide +kernel
theorem eX0_waysByRows_89 : decode MX0_waysByRows.2.1 89 = .ok (.iload 7, 2) := by decide +kernel
theorem eX0_waysByRows_91 : decode MX0_waysByRows.2.1 91 = .ok (.invokestatic 80, 3) := by decide +kernel
theorem eX0_waysByRows_94 : decode MX0_waysByRows.2.1 94 = .ok (.iload 6, 2) := by decide +kernel
theorem eX0_waysByRows_96 : decode MX0_waysByRows.2.1 96 = .ok (.aload_n 0, 1) := by decide +kernel
theorem eX0_waysByRows_97 : decode MX0_waysByRows.2.1 97 = .ok (.aload_n 0, 1) := by decide +kernel
theorem eX0_waysByRows_98 : decode MX0_waysByRows.2.1 98 = .ok (.iload_n 1, 1) := by decide +kernel
theorem eX0_waysByRows_99 : decode MX0_waysByRows.2.1 99 = .ok (.iload 7, 2) := by decide +kernel
theorem eX0_waysByRows_101 : decode MX0_waysByRows.2.1 101 = .ok (.invokevirtual 84, 3) := by decide +kernel
theorem eX0_waysByRows_104 : decode MX0_waysByRows.2.1 104 = .ok (.iload_n 2, 1) := by decide +kernel
theorem eX0_waysByRows_105 : decode MX0_waysByRows.2.1 105 = .ok (.iconst 1, 1) := by decide +kernel
theorem eX0_waysByRows_106 : decode MX0_waysByRows.2.1 106 = .ok (.isub, 1) := by decide +kernel
theorem eX0_waysByRows_107 : decode MX0_waysByRows.2.1 107 = .ok (.iload 8, 2) := by decide +kernel
theorem eX0_waysByRows_109 : decode MX0_waysByRows.2.1 109 = .ok (.invokevirtual 36, 3) := by decide +kernel
theorem eX0_waysByRows_112 : decode MX0_waysByRows.2.1 112 = .ok (.iadd, 1) := by decide +kernel
theorem eX0_waysByRows_113 : decode MX0_waysByRows.2.1 113 = .ok (.istore 6, 2) := by decide +kernel
theorem eX0_waysByRows_115 : decode MX0_waysByRows.2.1 115 = .ok (.iinc 7 2, 3) := by decide +kernel
theorem eX0_waysByRows_118 : decode MX0_waysByRows.2.1 118 = .ok (.goto (-88), 3) := by decide +kernel
theorem eX0_waysByRows_121 : decode MX0_waysByRows.2.1 121 = .ok (.iload 6, 2) := by decide +kernel
theorem eX0_waysByRows_123 : decode MX0_waysByRows.2.1 123 = .ok (.ireturn, 1) := by decide +kernel
set_option maxRecDepth 20000 in
theorem bX0_waysByRows_0 {d : Nat} {Q : Option Value → St → Prop} (x1 : Int32) (x2 : Int32) (x3 : Int32) (σ : St) 
    (k1 : Ct yX0_openPlaces MX0_openPlaces (d + 38) [.ref 21, .int x1] σ (fun v σ1 => Run MX0_waysByRows (d + 39) 5 [some (.ref 21), some (.int x1), some (.int x2), some (.int x3), none, none, none, none, none] (v.toList ++ []) σ1 Q))
    : Run MX0_waysByRows (d + 39) 0 [some (.ref 21), some (.int x1), some (.int x2), some (.int x3), none, none, none, none, none] [] σ Q := by
  refine (go_aload_n 0 eX0_waysByRows_0 rfl rfl).run ?_
  refine (go_iload_n 1 eX0_waysByRows_1 rfl rfl).run ?_
  exact Run.callV (d := (d + 38)) (As := [.int x1]) mX0_openPlaces lkX0_65 kd_21 (by decide) rfl rfl rfl rfl rfl (Nat.le_of_ble_eq_true rfl) eX0_waysByRows_2 k1

set_option maxRecDepth 20000 in
theorem bX0_waysByRows_5 {d : Nat} {Q : Option Value → St → Prop} (x1 : Int32) (x2 : Int32) (x3 : Int32) (s0 : Int32) (σ : St) 
    (k1 : Ct yX0_unreadyPlaces MX0_unreadyPlaces (d + 38) [.ref 21, .int x1] σ (fun v σ1 => Run MX0_waysByRows (d + 39) 12 [some (.ref 21), some (.int x1), some (.int x2), some (.int x3), some (.int s0), none, none, none, none] (v.toList ++ []) σ1 Q))
    : Run MX0_waysByRows (d + 39) 5 [some (.ref 21), some (.int x1), some (.int x2), some (.int x3), none, none, none, none, none] [.int s0] σ Q := by
  refine (go_istore 4 (L' := [some (.ref 21), some (.int x1), some (.int x2), some (.int x3), some (.int s0), none, none, none, none]) eX0_waysByRows_5 (Nat.le_of_ble_eq_true rfl) rfl).run ?_
  refine (go_aload_n 0 eX0_waysByRows_7 rfl rfl).run ?_
  refine (go_iload_n 1 eX0_waysByRows_8 rfl rfl).run ?_
  exact Run.callV (d := (d + 38)) (As := [.int x1]) mX0_unreadyPlaces lkX0_68 kd_21 (by decide) rfl rfl rfl rfl rfl (Nat.le_of_ble_eq_true rfl) eX0_waysByRows_9 k1

set_option maxRecDepth 20000 in
theorem bX0_waysByRows_12 {d : Nat} {Q : Option Value → St → Prop} (x1 : Int32) (x2 : Int32) (x3 : Int32) (x4 : Int32) (s0 : Int32) (σ : St) 
    (k1 : Run MX0_waysByRows (d + 39) 30 [some (.ref 21), some (.int x1), some (.int x2), some (.int x3), some (.int x4), some (.int s0), some (.int 0), some (.int (if x2 = 1 then x4 else 2)), none] [] σ Q)
    : Run MX0_waysByRows (d + 39) 12 [some (.ref 21), some (.int x1), some (.int x2), some (.int x3), some (.int x4), none, none, none, none] [.int s0] σ Q := by
  refine (go_istore 5 (L' := [some (.ref 21), some (.int x1), some (.int x2), some (.int x3), some (.int x4), some (.int s0), none, none, none]) eX0_waysByRows_12 (Nat.le_of_ble_eq_true rfl) rfl).run ?_
  refine (go_iconst (v := 0) eX0_waysByRows_14 rfl).run ?_
  refine (go_istore 6 (L' := [some (.ref 21), some (.int x1), some (.int x2), some (.int x3), some (.int x4), some (.int s0), some (.int 0), none, none]) eX0_waysByRows_15 (Nat.le_of_ble_eq_true rfl) rfl).run ?_
  refine (go_iload_n 2 eX0_waysByRows_17 rfl rfl).run ?_
  refine (go_iconst (v := 1) eX0_waysByRows_18 rfl).run ?_
  have hJh1 : Run MX0_waysByRows (d + 39) 28 [some (.ref 21), some (.int x1), some (.int x2), some (.int x3), some (.int x4), some (.int s0), some (.int 0), none, none] [.int (if x2 = 1 then x4 else 2)] σ Q := by
    refine (go_istore 7 (L' := [some (.ref 21), some (.int x1), some (.int x2), some (.int x3), some (.int x4), some (.int s0), some (.int 0), some (.int (if x2 = 1 then x4 else 2)), none]) eX0_waysByRows_28 (Nat.le_of_ble_eq_true rfl) rfl).run ?_
    exact k1
  refine (bi_ne 27 eX0_waysByRows_19 rfl).run (fun h1 => ?_) (fun h1 => ?_)
  · refine (go_iconst (v := 2) eX0_waysByRows_27 rfl).run ?_
    first | exact hJh1 | (simp only [if_neg (h1)] at hJh1; exact hJh1) | (simp only [eq_false h1, not_false_eq_true, true_and, and_true, false_and, and_false, true_or, or_true, false_or, or_false, not_true_eq_false, not_false_eq_true] at hJh1; exact hJh1) | exact Run.eq (by simp [eq_false h1, not_false_eq_true, bI]) (by simp [eq_false h1, not_false_eq_true, bI]) rfl hJh1
  · refine (go_iload 4 eX0_waysByRows_22 rfl).run ?_
    refine (go_goto 28 eX0_waysByRows_24 rfl).run ?_
    first | exact hJh1 | (simp only [if_pos h1] at hJh1; exact hJh1) | (simp only [eq_true h1, not_true_eq_false, true_and, and_true, false_and, and_false, true_or, or_true, false_or, or_false, not_true_eq_false, not_false_eq_true] at hJh1; exact hJh1) | exact Run.eq (by simp [eq_true h1, not_true_eq_false, bI]) (by simp [eq_true h1, not_true_eq_false, bI]) rfl hJh1

set_option maxRecDepth 20000 in
theorem bX0_waysByRows_30 {d : Nat} {Q : Option Value → St → Prop} (x1 : Int32) (x2 : Int32) (x3 : Int32) (x4 : Int32) (x5 : Int32) (x6 : Int32) (x7 : Int32) (σ : St) 
    (k1 : x4 < x7 → Q (some (.int x6)) σ)
    (k2 : x7 ≤ x4 → (if (x7 &&& (x4 ^^^ (-1))) = 0 then (x3 - ((rJ6_bitCount_0f7a4 (x7 &&& x5) σ))) else (-4)) < 0 → Run MX0_waysByRows (d + 39) 30 [some (.ref 21), some (.int x1), some (.int x2), some (.int x3), some (.int x4), some (.int x5), some (.int x6), some (.int (x7 + 2)), none] [] σ Q)
    (k3 : x7 ≤ x4 → (0 : Int32) ≤ (if (x7 &&& (x4 ^^^ (-1))) = 0 then (x3 - ((rJ6_bitCount_0f7a4 (x7 &&& x5) σ))) else (-4)) → Ct yX0_loadsFit MX0_loadsFit (d + 38) [.ref 21, .int x1, .int x7] σ (fun v σ1 => Run MX0_waysByRows (d + 39) 76 [some (.ref 21), some (.int x1), some (.int x2), some (.int x3), some (.int x4), some (.int x5), some (.int x6), some (.int x7), some (.int (if (x7 &&& (x4 ^^^ (-1))) = 0 then (x3 - ((rJ6_bitCount_0f7a4 (x7 &&& x5) σ))) else (-4)))] (v.toList ++ []) σ1 Q))
    : Run MX0_waysByRows (d + 39) 30 [some (.ref 21), some (.int x1), some (.int x2), some (.int x3), some (.int x4), some (.int x5), some (.int x6), some (.int x7), none] [] σ Q := by
  refine (go_iload 7 eX0_waysByRows_30 rfl).run ?_
  refine (go_iload 4 eX0_waysByRows_32 rfl).run ?_
  refine (bi_gt 121 eX0_waysByRows_34 rfl).run (fun h1 => ?_) (fun h1 => ?_)
  · refine (go_iload 6 eX0_waysByRows_121 rfl).run ?_
    exact Run.ret (v := some (.int x6)) (k1 h1) ⟨Or.inl rfl, eX0_waysByRows_123⟩ rfl
  · refine (go_iload 7 eX0_waysByRows_37 rfl).run ?_
    refine (go_iload 4 eX0_waysByRows_39 rfl).run ?_
    refine (go_iconst (v := -1) eX0_waysByRows_41 rfl).run ?_
    refine (go_ixor eX0_waysByRows_42).run ?_
    refine (go_iand eX0_waysByRows_43).run ?_
    have hJh2 : Run MX0_waysByRows (d + 39) 62 [some (.ref 21), some (.int x1), some (.int x2), some (.int x3), some (.int x4), some (.int x5), some (.int x6), some (.int x7), none] [.int (if (x7 &&& (x4 ^^^ (-1))) = 0 then (x3 - ((rJ6_bitCount_0f7a4 (x7 &&& x5) σ))) else (-4))] σ Q := by
      refine (go_istore 8 (L' := [some (.ref 21), some (.int x1), some (.int x2), some (.int x3), some (.int x4), some (.int x5), some (.int x6), some (.int x7), some (.int (if (x7 &&& (x4 ^^^ (-1))) = 0 then (x3 - ((rJ6_bitCount_0f7a4 (x7 &&& x5) σ))) else (-4)))]) eX0_waysByRows_62 (Nat.le_of_ble_eq_true rfl) rfl).run ?_
      refine (go_iload 8 eX0_waysByRows_64 rfl).run ?_
      refine (bz_lt 115 eX0_waysByRows_66 rfl).run (fun h3 => ?_) (fun h3 => ?_)
      · refine (go_iinc 7 (v := (x7 + 2)) (L' := [some (.ref 21), some (.int x1), some (.int x2), some (.int x3), some (.int x4), some (.int x5), some (.int x6), some (.int (x7 + 2)), some (.int (if (x7 &&& (x4 ^^^ (-1))) = 0 then (x3 - ((rJ6_bitCount_0f7a4 (x7 &&& x5) σ))) else (-4)))]) eX0_waysByRows_115 rfl rfl (Nat.le_of_ble_eq_true rfl) rfl).run ?_
        refine (go_goto 30 eX0_waysByRows_118 rfl).run ?_
        refine (go_sub (L' := [some (.ref 21), some (.int x1), some (.int x2), some (.int x3), some (.int x4), some (.int x5), some (.int x6), some (.int (x7 + 2)), none]) (lsub_keep (lsub_keep (lsub_keep (lsub_keep (lsub_keep (lsub_keep (lsub_keep (lsub_keep (lsub_drop lsub_nil)))))))))).run ?_
        exact (k2 h1 h3)
      · refine (go_aload_n 0 eX0_waysByRows_69 rfl rfl).run ?_
        refine (go_iload_n 1 eX0_waysByRows_70 rfl rfl).run ?_
        refine (go_iload 7 eX0_waysByRows_71 rfl).run ?_
        exact Run.callV (d := (d + 38)) (As := [.int x1, .int x7]) mX0_loadsFit lkX0_76 kd_21 (by decide) rfl rfl rfl rfl rfl (Nat.le_of_ble_eq_true rfl) eX0_waysByRows_73 (k3 h1 h3)
    refine (bz_ne 60 eX0_waysByRows_44 rfl).run (fun h2 => ?_) (fun h2 => ?_)
    · refine (go_bipush (v := -4) eX0_waysByRows_60 rfl).run ?_
      first | exact hJh2 | (simp only [if_neg (h2)] at hJh2; exact hJh2) | (simp only [eq_false h2, not_false_eq_true, true_and, and_true, false_and, and_false, true_or, or_true, false_or, or_false, not_true_eq_false, not_false_eq_true] at hJh2; exact hJh2) | exact Run.eq (by simp [eq_false h2, not_false_eq_true, bI]) (by simp [eq_false h2, not_false_eq_true, bI]) rfl hJh2
    · refine (go_iload_n 3 eX0_waysByRows_47 rfl rfl).run ?_
      refine (go_iload 7 eX0_waysByRows_48 rfl).run ?_
      refine (go_iload 5 eX0_waysByRows_50 rfl).run ?_
      refine (go_iand eX0_waysByRows_52).run ?_
      refine Run.callS1 (d := (d + 38)) (As := [.int (x7 &&& x5)]) (r := .int ((rJ6_bitCount_0f7a4 (x7 &&& x5) σ))) mJ6_bitCount_0f7a4 lkX0_71 rfl rfl rfl (Nat.le_of_ble_eq_true rfl) eX0_waysByRows_53 (qJ6_bitCount_0f7a4 (d + 38) (x7 &&& x5) σ  ) ?_
      refine (go_isub eX0_waysByRows_56).run ?_
      refine (go_goto 62 eX0_waysByRows_57 rfl).run ?_
      first | exact hJh2 | (simp only [if_pos h2] at hJh2; exact hJh2) | (simp only [eq_true h2, not_true_eq_false, true_and, and_true, false_and, and_false, true_or, or_true, false_or, or_false, not_true_eq_false, not_false_eq_true] at hJh2; exact hJh2) | exact Run.eq (by simp [eq_true h2, not_true_eq_false, bI]) (by simp [eq_true h2, not_true_eq_false, bI]) rfl hJh2

set_option maxRecDepth 20000 in
theorem bX0_waysByRows_76 {d : Nat} {Q : Option Value → St → Prop} (x1 : Int32) (x2 : Int32) (x3 : Int32) (x4 : Int32) (x5 : Int32) (x6 : Int32) (x7 : Int32) (x8 : Int32) (s0 : Int32) (σ : St) 
    (k1 : s0 = 0 → Run MX0_waysByRows (d + 39) 30 [some (.ref 21), some (.int x1), some (.int x2), some (.int x3), some (.int x4), some (.int x5), some (.int x6), some (.int (x7 + 2)), none] [] σ Q)
    (k2 : ¬ s0 = 0 → Ct yX0_joined MX0_joined (d + 38) [.ref 21, .int x1, .int x7] (aP 22 ((σ.1 21 3) - x2) x7 σ) (fun v σ1 => Run MX0_waysByRows (d + 39) 104 [some (.ref 21), some (.int x1), some (.int x2), some (.int x3), some (.int x4), some (.int x5), none, some (.int x7), some (.int x8)] (v.toList ++ [.ref 21, .int x6]) σ1 Q))
    : Run MX0_waysByRows (d + 39) 76 [some (.ref 21), some (.int x1), some (.int x2), some (.int x3), some (.int x4), some (.int x5), some (.int x6), some (.int x7), some (.int x8)] [.int s0] σ Q := by
  refine (bz_eq 115 eX0_waysByRows_76 rfl).run (fun h1 => ?_) (fun h1 => ?_)
  · refine (go_iinc 7 (v := (x7 + 2)) (L' := [some (.ref 21), some (.int x1), some (.int x2), some (.int x3), some (.int x4), some (.int x5), some (.int x6), some (.int (x7 + 2)), some (.int x8)]) eX0_waysByRows_115 rfl rfl (Nat.le_of_ble_eq_true rfl) rfl).run ?_
    refine (go_goto 30 eX0_waysByRows_118 rfl).run ?_
    refine (go_sub (L' := [some (.ref 21), some (.int x1), some (.int x2), some (.int x3), some (.int x4), some (.int x5), some (.int x6), some (.int (x7 + 2)), none]) (lsub_keep (lsub_keep (lsub_keep (lsub_keep (lsub_keep (lsub_keep (lsub_keep (lsub_keep (lsub_drop lsub_nil)))))))))).run ?_
    exact (k1 h1)
  · refine (go_aload_n 0 eX0_waysByRows_79 rfl rfl).run ?_
    refine (go_getr flX0_9 rf_0_5 kd_21 gr_21_5 eX0_waysByRows_80).run ?_
    refine (go_aload_n 0 eX0_waysByRows_83 rfl rfl).run ?_
    refine (go_geti flX0_22 rf_0_3 kd_21 eX0_waysByRows_84).run ?_
    refine (go_iload_n 2 eX0_waysByRows_87 rfl rfl).run ?_
    refine (go_isub eX0_waysByRows_88).run ?_
    refine (go_iload 7 eX0_waysByRows_89 rfl).run ?_
    refine Run.callS0 (d := (d + 38)) (As := [.ref 22, .int ((σ.1 21 3) - x2), .int x7]) mX10_put lkX0_80 rfl rfl rfl (Nat.le_of_ble_eq_true rfl) eX0_waysByRows_91 (qX10_put (d + 38) 22 ((σ.1 21 3) - x2) x7 σ kd_22 ) ?_
    refine (go_iload 6 eX0_waysByRows_94 rfl).run ?_
    refine (go_aload_n 0 eX0_waysByRows_96 rfl rfl).run ?_
    refine (go_aload_n 0 eX0_waysByRows_97 rfl rfl).run ?_
    refine (go_iload_n 1 eX0_waysByRows_98 rfl rfl).run ?_
    refine (go_iload 7 eX0_waysByRows_99 rfl).run ?_
    refine (go_sub (L' := [some (.ref 21), some (.int x1), some (.int x2), some (.int x3), some (.int x4), some (.int x5), none, some (.int x7), some (.int x8)]) (lsub_keep (lsub_keep (lsub_keep (lsub_keep (lsub_keep (lsub_keep (lsub_drop (lsub_keep (lsub_keep lsub_nil)))))))))).run ?_
    exact Run.callV (d := (d + 38)) (As := [.int x1, .int x7]) mX0_joined lkX0_84 kd_21 (by decide) rfl rfl rfl rfl rfl (Nat.le_of_ble_eq_true rfl) eX0_waysByRows_101 (k2 h1)

set_option maxRecDepth 20000 in
theorem bX0_waysByRows_104 {d : Nat} {Q : Option Value → St → Prop} (x1 : Int32) (x2 : Int32) (x3 : Int32) (x4 : Int32) (x5 : Int32) (x7 : Int32) (x8 : Int32) (s0 : Int32) (s2 : Int32) (σ : St) 
    (k1 : Ct yX0_waysOn MX0_waysOn (d + 38) [.ref 21, .int s0, .int (x2 - 1), .int x8] σ (fun v σ1 => Run MX0_waysByRows (d + 39) 112 [some (.ref 21), some (.int x1), some (.int x2), some (.int x3), some (.int x4), some (.int x5), none, some (.int x7), none] (v.toList ++ [.int s2]) σ1 Q))
    : Run MX0_waysByRows (d + 39) 104 [some (.ref 21), some (.int x1), some (.int x2), some (.int x3), some (.int x4), some (.int x5), none, some (.int x7), some (.int x8)] [.int s0, .ref 21, .int s2] σ Q := by
  refine (go_iload_n 2 eX0_waysByRows_104 rfl rfl).run ?_
  refine (go_iconst (v := 1) eX0_waysByRows_105 rfl).run ?_
  refine (go_isub eX0_waysByRows_106).run ?_
  refine (go_iload 8 eX0_waysByRows_107 rfl).run ?_
  refine (go_sub (L' := [some (.ref 21), some (.int x1), some (.int x2), some (.int x3), some (.int x4), some (.int x5), none, some (.int x7), none]) (lsub_keep (lsub_keep (lsub_keep (lsub_keep (lsub_keep (lsub_keep (lsub_keep (lsub_keep (lsub_drop lsub_nil)))))))))).run ?_
  exact Run.callV (d := (d + 38)) (As := [.int s0, .int (x2 - 1), .int x8]) mX0_waysOn lkX0_36 kd_21 (by decide) rfl rfl rfl rfl rfl (Nat.le_of_ble_eq_true rfl) eX0_waysByRows_109 k1

set_option maxRecDepth 20000 in
theorem bX0_waysByRows_112 {d : Nat} {Q : Option Value → St → Prop} (x1 : Int32) (x2 : Int32) (x3 : Int32) (x4 : Int32) (x5 : Int32) (x7 : Int32) (s0 : Int32) (s1 : Int32) (σ : St) 
    (k1 : Run MX0_waysByRows (d + 39) 30 [some (.ref 21), some (.int x1), some (.int x2), some (.int x3), some (.int x4), some (.int x5), some (.int (s1 + s0)), some (.int (x7 + 2)), none] [] σ Q)
    : Run MX0_waysByRows (d + 39) 112 [some (.ref 21), some (.int x1), some (.int x2), some (.int x3), some (.int x4), some (.int x5), none, some (.int x7), none] [.int s0, .int s1] σ Q := by
  refine (go_iadd eX0_waysByRows_112).run ?_
  refine (go_istore 6 (L' := [some (.ref 21), some (.int x1), some (.int x2), some (.int x3), some (.int x4), some (.int x5), some (.int (s1 + s0)), some (.int x7), none]) eX0_waysByRows_113 (Nat.le_of_ble_eq_true rfl) rfl).run ?_
  refine (go_iinc 7 (v := (x7 + 2)) (L' := [some (.ref 21), some (.int x1), some (.int x2), some (.int x3), some (.int x4), some (.int x5), some (.int (s1 + s0)), some (.int (x7 + 2)), none]) eX0_waysByRows_115 rfl rfl (Nat.le_of_ble_eq_true rfl) rfl).run ?_
  refine (go_goto 30 eX0_waysByRows_118 rfl).run ?_
  exact k1

/-! CarryNets$BestNets.waysOn -/
theorem eX0_waysOn_0 : decode MX0_waysOn.2.1 0 = .ok (.iload_n 1, 1) := by decide +kernel
theorem eX0_waysOn_1 : decode MX0_waysOn.2.1 1 = .ok (.ifCond .ne 17, 3) := by decide +kernel
theorem eX0_waysOn_4 : decode MX0_waysOn.2.1 4 = .ok (.iload_n 3, 1) := by decide +kernel
theorem eX0_waysOn_5 : decode MX0_waysOn.2.1 5 = .ok (.ifCond .ne 11, 3) := by decide +kernel
theorem eX0_waysOn_8 : decode MX0_waysOn.2.1 8 = .ok (.aload_n 0, 1) := by decide +kernel
theorem eX0_waysOn_9 : decode MX0_waysOn.2.1 9 = .ok (.iload_n 2, 1) := by decide +kernel
theorem eX0_waysOn_10 : decode MX0_waysOn.2.1 10 = .ok (.invokevirtual 55, 3) := by decide +kernel
theorem eX0_waysOn_13 : decode MX0_waysOn.2.1 13 = .ok (.goto 4, 3) := by decide +kernel
theorem eX0_waysOn_16 : decode MX0_waysOn.2.1 16 = .ok (.iconst 0, 1) := by decide +kernel
theorem eX0_waysOn_17 : decode MX0_waysOn.2.1 17 = .ok (.ireturn, 1) := by decide +kernel
theorem eX0_waysOn_18 : decode MX0_waysOn.2.1 18 = .ok (.iload_n 2, 1) := by decide +kernel
theorem eX0_waysOn_19 : decode MX0_waysOn.2.1 19 = .ok (.ifCond .le 14, 3) := by decide +kernel
theorem eX0_waysOn_22 : decode MX0_waysOn.2.1 22 = .ok (.aload_n 0, 1) := by decide +kernel
theorem eX0_waysOn_23 : decode MX0_waysOn.2.1 23 = .ok (.iload_n 1, 1) := by decide +kernel
theorem eX0_waysOn_24 : decode MX0_waysOn.2.1 24 = .ok (.invokevirtual 59, 3) := by decide +kernel
theorem eX0_waysOn_27 : decode MX0_waysOn.2.1 27 = .ok (.iconst 1, 1) := by decide +kernel
theorem eX0_waysOn_28 : decode MX0_waysOn.2.1 28 = .ok (.iload_n 2, 1) := by decide +kernel
theorem eX0_waysOn_29 : decode MX0_waysOn.2.1 29 = .ok (.ishl, 1) := by decide +kernel
theorem eX0_waysOn_30 : decode MX0_waysOn.2.1 30 = .ok (.if_icmp .lt 5, 3) := by decide +kernel
theorem eX0_waysOn_33 : decode MX0_waysOn.2.1 33 = .ok (.iconst 0, 1) := by decide +kernel
theorem eX0_waysOn_34 : decode MX0_waysOn.2.1 34 = .ok (.ireturn, 1) := by decide +kernel
theorem eX0_waysOn_35 : decode MX0_waysOn.2.1 35 = .ok (.aload_n 0, 1) := by decide +kernel
theorem eX0_waysOn_36 : decode MX0_waysOn.2.1 36 = .ok (.iload_n 1, 1) := by decide +kernel
theorem eX0_waysOn_37 : decode MX0_waysOn.2.1 37 = .ok (.iload_n 2, 1) := by decide +kernel
theorem eX0_waysOn_38 : decode MX0_waysOn.2.1 38 = .ok (.iload_n 3, 1) := by decide +kernel
theorem eX0_waysOn_39 : decode MX0_waysOn.2.1 39 = .ok (.invokevirtual 62, 3) := by decide +kernel
theorem eX0_waysOn_42 : decode MX0_waysOn.2.1 42 = .ok (.ireturn, 1) := by decide +kernel
set_option maxRecDepth 20000 in
theorem bX0_waysOn_0 {d : Nat} {Q : Option Value → St → Prop} (x1 : Int32) (x2 : Int32) (x3 : Int32) (σ : St) 
    (k1 : ¬ x1 = 0 → x2 ≤ 0 → Q (some (.int 0)) σ)
    (k2 : ¬ x1 = 0 → (0 : Int32) < x2 → Ct yX0_longestChain MX0_longestChain (d + 39) [.ref 21, .int x1] σ (fun v σ1 => Run MX0_waysOn (d + 40) 27 [some (.ref 21), some (.int x1), some (.int x2), some (.int x3)] (v.toList ++ []) σ1 Q))
    (k3 : x1 = 0 → ¬ x3 = 0 → Q (some (.int 0)) σ)
    (k4 : x1 = 0 → x3 = 0 → Ct yX0_found MX0_found (d + 39) [.ref 21, .int x2] σ (fun v σ1 => Run MX0_waysOn (d + 40) 13 [none, none, none, none] (v.toList ++ []) σ1 Q))
    : Run MX0_waysOn (d + 40) 0 [some (.ref 21), some (.int x1), some (.int x2), some (.int x3)] [] σ Q := by
  refine (go_iload_n 1 eX0_waysOn_0 rfl rfl).run ?_
  refine (bz_ne 18 eX0_waysOn_1 rfl).run (fun h1 => ?_) (fun h1 => ?_)
  · refine (go_iload_n 2 eX0_waysOn_18 rfl rfl).run ?_
    refine (bz_le 33 eX0_waysOn_19 rfl).run (fun h2 => ?_) (fun h2 => ?_)
    · refine (go_iconst (v := 0) eX0_waysOn_33 rfl).run ?_
      exact Run.ret (v := some (.int 0)) (k1 h1 h2) ⟨Or.inl rfl, eX0_waysOn_34⟩ rfl
    · refine (go_aload_n 0 eX0_waysOn_22 rfl rfl).run ?_
      refine (go_iload_n 1 eX0_waysOn_23 rfl rfl).run ?_
      exact Run.callV (d := (d + 39)) (As := [.int x1]) mX0_longestChain lkX0_59 kd_21 (by decide) rfl rfl rfl rfl rfl (Nat.le_of_ble_eq_true rfl) eX0_waysOn_24 (k2 h1 h2)
  · refine (go_iload_n 3 eX0_waysOn_4 rfl rfl).run ?_
    refine (bz_ne 16 eX0_waysOn_5 rfl).run (fun h3 => ?_) (fun h3 => ?_)
    · refine (go_iconst (v := 0) eX0_waysOn_16 rfl).run ?_
      exact Run.ret (v := some (.int 0)) (k3 h1 h3) ⟨Or.inl rfl, eX0_waysOn_17⟩ rfl
    · refine (go_aload_n 0 eX0_waysOn_8 rfl rfl).run ?_
      refine (go_iload_n 2 eX0_waysOn_9 rfl rfl).run ?_
      refine (go_sub (L' := [none, none, none, none]) (lsub_drop (lsub_drop (lsub_drop (lsub_drop lsub_nil))))).run ?_
      exact Run.callV (d := (d + 39)) (As := [.int x2]) mX0_found lkX0_55 kd_21 (by decide) rfl rfl rfl rfl rfl (Nat.le_of_ble_eq_true rfl) eX0_waysOn_10 (k4 h1 h3)

set_option maxRecDepth 20000 in
theorem bX0_waysOn_27 {d : Nat} {Q : Option Value → St → Prop} (x1 : Int32) (x2 : Int32) (x3 : Int32) (s0 : Int32) (σ : St) 
    (k1 : s0 < ((1 : Int32) <<< (x2 &&& 31)) → Ct yX0_waysByRows MX0_waysByRows (d + 39) [.ref 21, .int x1, .int x2, .int x3] σ (fun v σ1 => Run MX0_waysOn (d + 40) 42 [none, none, none, none] (v.toList ++ []) σ1 Q))
    (k2 : ((1 : Int32) <<< (x2 &&& 31)) ≤ s0 → Q (some (.int 0)) σ)
    : Run MX0_waysOn (d + 40) 27 [some (.ref 21), some (.int x1), some (.int x2), some (.int x3)] [.int s0] σ Q := by
  refine (go_iconst (v := 1) eX0_waysOn_27 rfl).run ?_
  refine (go_iload_n 2 eX0_waysOn_28 rfl rfl).run ?_
  refine (go_ishl eX0_waysOn_29).run ?_
  refine (bi_lt 35 eX0_waysOn_30 rfl).run (fun h1 => ?_) (fun h1 => ?_)
  · refine (go_aload_n 0 eX0_waysOn_35 rfl rfl).run ?_
    refine (go_iload_n 1 eX0_waysOn_36 rfl rfl).run ?_
    refine (go_iload_n 2 eX0_waysOn_37 rfl rfl).run ?_
    refine (go_iload_n 3 eX0_waysOn_38 rfl rfl).run ?_
    refine (go_sub (L' := [none, none, none, none]) (lsub_drop (lsub_drop (lsub_drop (lsub_drop lsub_nil))))).run ?_
    exact Run.callV (d := (d + 39)) (As := [.int x1, .int x2, .int x3]) mX0_waysByRows lkX0_62 kd_21 (by decide) rfl rfl rfl rfl rfl (Nat.le_of_ble_eq_true rfl) eX0_waysOn_39 (k1 h1)
  · refine (go_iconst (v := 0) eX0_waysOn_33 rfl).run ?_
    exact Run.ret (v := some (.int 0)) (k2 h1) ⟨Or.inl rfl, eX0_waysOn_34⟩ rfl

set_option maxRecDepth 20000 in
theorem bX0_waysOn_13 {d : Nat} {Q : Option Value → St → Prop} (s0 : Int32) (σ : St) 
    (k1 : Q (some (.int s0)) σ)
    : Run MX0_waysOn (d + 40) 13 [none, none, none, none] [.int s0] σ Q := by
  refine (go_goto 17 eX0_waysOn_13 rfl).run ?_
  exact Run.ret (v := some (.int s0)) k1 ⟨Or.inl rfl, eX0_waysOn_17⟩ rfl

set_option maxRecDepth 20000 in
theorem bX0_waysOn_42 {d : Nat} {Q : Option Value → St → Prop} (s0 : Int32) (σ : St) 
    (k1 : Q (some (.int s0)) σ)
    : Run MX0_waysOn (d + 40) 42 [none, none, none, none] [.int s0] σ Q := by
  exact Run.ret (v := some (.int s0)) k1 ⟨Or.inl rfl, eX0_waysOn_42⟩ rfl

/-! CarryNets$BestNets.search -/
theorem eX0_search_0 : decode MX0_search.2.1 0 = .ok (.aload_n 0, 1) := by decide +kernel
theorem eX0_search_1 : decode MX0_search.2.1 1 = .ok (.iload_n 1, 1) := by decide +kernel
theorem eX0_search_2 : decode MX0_search.2.1 2 = .ok (.putfield 18, 3) := by decide +kernel
theorem eX0_search_5 : decode MX0_search.2.1 5 = .ok (.aload_n 0, 1) := by decide +kernel
theorem eX0_search_6 : decode MX0_search.2.1 6 = .ok (.iload_n 2, 1) := by decide +kernel
theorem eX0_search_7 : decode MX0_search.2.1 7 = .ok (.putfield 22, 3) := by decide +kernel
theorem eX0_search_10 : decode MX0_search.2.1 10 = .ok (.aload_n 0, 1) := by decide +kernel
theorem eX0_search_11 : decode MX0_search.2.1 11 = .ok (.iload_n 3, 1) := by decide +kernel
theorem eX0_search_12 : decode MX0_search.2.1 12 = .ok (.putfield 25, 3) := by decide +kernel
theorem eX0_search_15 : decode MX0_search.2.1 15 = .ok (.aload_n 0, 1) := by decide +kernel
theorem eX0_search_16 : decode MX0_search.2.1 16 = .ok (.iconst 0, 1) := by decide +kernel
theorem eX0_search_17 : decode MX0_search.2.1 17 = .ok (.putfield 28, 3) := by decide +kernel
theorem eX0_search_20 : decode MX0_search.2.1 20 = .ok (.iconst 0, 1) := by decide +kernel
theorem eX0_search_21 : decode MX0_search.2.1 21 = .ok (.istore 4, 2) := by decide +kernel
theorem eX0_search_23 : decode MX0_search.2.1 23 = .ok (.iload 4, 2) := by decide +kernel
theorem eX0_search_25 : decode MX0_search.2.1 25 = .ok (.bipush 42, 2) := by decide +kernel
theorem eX0_search_27 : decode MX0_search.2.1 27 = .ok (.if_icmp .gt 43, 3) := by decide +kernel
theorem eX0_search_30 : decode MX0_search.2.1 30 = .ok (.aload_n 0, 1) := by decide +kernel
theorem eX0_search_31 : decode MX0_search.2.1 31 = .ok (.aload_n 0, 1) := by decide +kernel
theorem eX0_search_32 : decode MX0_search.2.1 32 = .ok (.aload_n 0, 1) := by decide +kernel
theorem eX0_search_33 : decode MX0_search.2.1 33 = .ok (.invokevirtual 32, 3) := by decide +kernel
theorem eX0_search_36 : decode MX0_search.2.1 36 = .ok (.iload_n 2, 1) := by decide +kernel
theorem eX0_search_37 : decode MX0_search.2.1 37 = .ok (.iload 4, 2) := by decide +kernel
theorem eX0_search_39 : decode MX0_search.2.1 39 = .ok (.invokevirtual 36, 3) := by decide +kernel
theorem eX0_search_42 : decode MX0_search.2.1 42 = .ok (.putfield 40, 3) := by decide +kernel
theorem eX0_search_45 : decode MX0_search.2.1 45 = .ok (.aload_n 0, 1) := by decide +kernel
theorem eX0_search_46 : decode MX0_search.2.1 46 = .ok (.getfield 40, 3) := by decide +kernel
theorem eX0_search_49 : decode MX0_search.2.1 49 = .ok (.ifCond .le 15, 3) := by decide +kernel
theorem eX0_search_52 : decode MX0_search.2.1 52 = .ok (.aload_n 0, 1) := by decide +kernel
theorem eX0_search_53 : decode MX0_search.2.1 53 = .ok (.iload_n 1, 1) := by decide +kernel
theorem eX0_search_54 : decode MX0_search.2.1 54 = .ok (.iconst 1, 1) := by decide +kernel
theorem eX0_search_55 : decode MX0_search.2.1 55 = .ok (.isub, 1) := by decide +kernel
theorem eX0_search_56 : decode MX0_search.2.1 56 = .ok (.iload 4, 2) := by decide +kernel
theorem eX0_search_58 : decode MX0_search.2.1 58 = .ok (.iadd, 1) := by decide +kernel
theorem eX0_search_59 : decode MX0_search.2.1 59 = .ok (.putfield 43, 3) := by decide +kernel
theorem eX0_search_62 : decode MX0_search.2.1 62 = .ok (.iconst 1, 1) := by decide +kernel
theorem eX0_search_63 : decode MX0_search.2.1 63 = .ok (.ireturn, 1) := by decide +kernel
theorem eX0_search_64 : decode MX0_search.2.1 64 = .ok (.iinc 4 1, 3) := by decide +kernel
theorem eX0_search_67 : decode MX0_search.2.1 67 = .ok (.goto (-44), 3) := by decide +kernel
theorem eX0_search_70 : decode MX0_search.2.1 70 = .ok (.iconst 0, 1) := by decide +kernel
theorem eX0_search_71 : decode MX0_search.2.1 71 = .ok (.ireturn, 1) := by decide +kernel
set_option maxRecDepth 20000 in
theorem bX0_search_0 {d : Nat} {Q : Option Value → St → Prop} (x1 : Int32) (x2 : Int32) (x3 : Int32) (σ : St) 
    (k1 : Run MX0_search (d + 41) 23 [some (.ref 21), some (.int x1), some (.int x2), none, some (.int 0)] [] (sA (sA (sA (sA σ 21 (upd (σ.1 21) 2 x1)) 21 (upd (upd (σ.1 21) 2 x1) 3 x2)) 21 (upd (upd (upd (σ.1 21) 2 x1) 3 x2) 4 x3)) 21 (upd (upd (upd (upd (σ.1 21) 2 x1) 3 x2) 4 x3) 7 0)) Q)
    : Run MX0_search (d + 41) 0 [some (.ref 21), some (.int x1), some (.int x2), some (.int x3), none] [] σ Q := by
  refine (go_aload_n 0 eX0_search_0 rfl rfl).run ?_
  refine (go_iload_n 1 eX0_search_1 rfl rfl).run ?_
  refine (go_puti flX0_18 rf_0_2 rfl pf_0_2 rfl rfl kd_21 eX0_search_2).run ?_
  refine (go_aload_n 0 eX0_search_5 rfl rfl).run ?_
  refine (go_iload_n 2 eX0_search_6 rfl rfl).run ?_
  refine (go_puti flX0_22 rf_0_3 rfl pf_0_3 rfl rfl kd_21 eX0_search_7).run ?_
  refine (go_aload_n 0 eX0_search_10 rfl rfl).run ?_
  refine (go_iload_n 3 eX0_search_11 rfl rfl).run ?_
  refine (go_puti flX0_25 rf_0_4 rfl pf_0_4 rfl rfl kd_21 eX0_search_12).run ?_
  refine (go_aload_n 0 eX0_search_15 rfl rfl).run ?_
  refine (go_iconst (v := 0) eX0_search_16 rfl).run ?_
  refine (go_puti flX0_28 rf_0_7 rfl pf_0_7 rfl rfl kd_21 eX0_search_17).run ?_
  refine (go_iconst (v := 0) eX0_search_20 rfl).run ?_
  refine (go_istore 4 (L' := [some (.ref 21), some (.int x1), some (.int x2), some (.int x3), some (.int 0)]) eX0_search_21 (Nat.le_of_ble_eq_true rfl) rfl).run ?_
  refine (go_sub (L' := [some (.ref 21), some (.int x1), some (.int x2), none, some (.int 0)]) (lsub_keep (lsub_keep (lsub_keep (lsub_drop (lsub_keep lsub_nil)))))).run ?_
  exact k1

set_option maxRecDepth 20000 in
theorem bX0_search_23 {d : Nat} {Q : Option Value → St → Prop} (x1 : Int32) (x2 : Int32) (x4 : Int32) (σ : St) 
    (k1 : (42 : Int32) < x4 → Q (some (.int 0)) σ)
    (k2 : x4 ≤ 42 → Ct yX0_startState MX0_startState (d + 40) [.ref 21] σ (fun v σ1 => Run MX0_search (d + 41) 36 [some (.ref 21), some (.int x1), some (.int x2), none, some (.int x4)] (v.toList ++ [.ref 21, .ref 21]) σ1 Q))
    : Run MX0_search (d + 41) 23 [some (.ref 21), some (.int x1), some (.int x2), none, some (.int x4)] [] σ Q := by
  refine (go_iload 4 eX0_search_23 rfl).run ?_
  refine (go_bipush (v := 42) eX0_search_25 rfl).run ?_
  refine (bi_gt 70 eX0_search_27 rfl).run (fun h1 => ?_) (fun h1 => ?_)
  · refine (go_iconst (v := 0) eX0_search_70 rfl).run ?_
    exact Run.ret (v := some (.int 0)) (k1 h1) ⟨Or.inr ⟨rfl, Or.inl rfl⟩, eX0_search_71⟩ rfl
  · refine (go_aload_n 0 eX0_search_30 rfl rfl).run ?_
    refine (go_aload_n 0 eX0_search_31 rfl rfl).run ?_
    refine (go_aload_n 0 eX0_search_32 rfl rfl).run ?_
    exact Run.callV (d := (d + 40)) (As := []) mX0_startState lkX0_32 kd_21 (by decide) rfl rfl rfl rfl rfl (Nat.le_of_ble_eq_true rfl) eX0_search_33 (k2 h1)

set_option maxRecDepth 20000 in
theorem bX0_search_36 {d : Nat} {Q : Option Value → St → Prop} (x1 : Int32) (x2 : Int32) (x4 : Int32) (s0 : Int32) (σ : St) 
    (k1 : Ct yX0_waysOn MX0_waysOn (d + 40) [.ref 21, .int s0, .int x2, .int x4] σ (fun v σ1 => Run MX0_search (d + 41) 42 [some (.ref 21), some (.int x1), some (.int x2), none, some (.int x4)] (v.toList ++ [.ref 21]) σ1 Q))
    : Run MX0_search (d + 41) 36 [some (.ref 21), some (.int x1), some (.int x2), none, some (.int x4)] [.int s0, .ref 21, .ref 21] σ Q := by
  refine (go_iload_n 2 eX0_search_36 rfl rfl).run ?_
  refine (go_iload 4 eX0_search_37 rfl).run ?_
  exact Run.callV (d := (d + 40)) (As := [.int s0, .int x2, .int x4]) mX0_waysOn lkX0_36 kd_21 (by decide) rfl rfl rfl rfl rfl (Nat.le_of_ble_eq_true rfl) eX0_search_39 k1

set_option maxRecDepth 20000 in
theorem bX0_search_42 {d : Nat} {Q : Option Value → St → Prop} (x1 : Int32) (x2 : Int32) (x4 : Int32) (s0 : Int32) (σ : St) 
    (k1 : s0 ≤ 0 → Run MX0_search (d + 41) 23 [some (.ref 21), some (.int x1), some (.int x2), none, some (.int (x4 + 1))] [] (sA σ 21 (upd (σ.1 21) 1 s0)) Q)
    (k2 : (0 : Int32) < s0 → Q (some (.int 1)) (sA (sA σ 21 (upd (σ.1 21) 1 s0)) 21 (upd (upd (σ.1 21) 1 s0) 0 ((x1 - 1) + x4))))
    : Run MX0_search (d + 41) 42 [some (.ref 21), some (.int x1), some (.int x2), none, some (.int x4)] [.int s0, .ref 21] σ Q := by
  refine (go_puti flX0_40 rf_0_1 rfl pf_0_1 rfl rfl kd_21 eX0_search_42).run ?_
  refine (go_aload_n 0 eX0_search_45 rfl rfl).run ?_
  refine (go_geti flX0_40 rf_0_1 kd_21 eX0_search_46).run ?_
  refine (bz_le 64 eX0_search_49 rfl).run (fun h1 => ?_) (fun h1 => ?_)
  · refine (go_iinc 4 (v := (x4 + 1)) (L' := [some (.ref 21), some (.int x1), some (.int x2), none, some (.int (x4 + 1))]) eX0_search_64 rfl rfl (Nat.le_of_ble_eq_true rfl) rfl).run ?_
    refine (go_goto 23 eX0_search_67 rfl).run ?_
    exact (k1 h1)
  · refine (go_aload_n 0 eX0_search_52 rfl rfl).run ?_
    refine (go_iload_n 1 eX0_search_53 rfl rfl).run ?_
    refine (go_iconst (v := 1) eX0_search_54 rfl).run ?_
    refine (go_isub eX0_search_55).run ?_
    refine (go_iload 4 eX0_search_56 rfl).run ?_
    refine (go_iadd eX0_search_58).run ?_
    refine (go_puti flX0_43 rf_0_0 rfl pf_0_0 rfl rfl kd_21 eX0_search_59).run ?_
    refine (go_iconst (v := 1) eX0_search_62 rfl).run ?_
    exact Run.ret (v := some (.int 1)) (k2 h1) ⟨Or.inr ⟨rfl, Or.inr rfl⟩, eX0_search_63⟩ rfl

/-! CarryNets$Spans.begin -/
theorem eX8_begin_0 : decode MX8_begin.2.1 0 = .ok (.aload_n 0, 1) := by decide +kernel
theorem eX8_begin_1 : decode MX8_begin.2.1 1 = .ok (.iload_n 1, 1) := by decide +kernel
theorem eX8_begin_2 : decode MX8_begin.2.1 2 = .ok (.putfield 21, 3) := by decide +kernel
theorem eX8_begin_5 : decode MX8_begin.2.1 5 = .ok (.iconst 0, 1) := by decide +kernel
theorem eX8_begin_6 : decode MX8_begin.2.1 6 = .ok (.istore_n 2, 1) := by decide +kernel
theorem eX8_begin_7 : decode MX8_begin.2.1 7 = .ok (.iload_n 2, 1) := by decide +kernel
theorem eX8_begin_8 : decode MX8_begin.2.1 8 = .ok (.iload_n 1, 1) := by decide +kernel
theorem eX8_begin_9 : decode MX8_begin.2.1 9 = .ok (.if_icmp .ge 18, 3) := by decide +kernel
theorem eX8_begin_12 : decode MX8_begin.2.1 12 = .ok (.aload_n 0, 1) := by decide +kernel
theorem eX8_begin_13 : decode MX8_begin.2.1 13 = .ok (.getfield 9, 3) := by decide +kernel
theorem eX8_begin_16 : decode MX8_begin.2.1 16 = .ok (.iload_n 2, 1) := by decide +kernel
theorem eX8_begin_17 : decode MX8_begin.2.1 17 = .ok (.iload_n 2, 1) := by decide +kernel
theorem eX8_begin_18 : decode MX8_begin.2.1 18 = .ok (.invokestatic 25, 3) := by decide +kernel
theorem eX8_begin_21 : decode MX8_begin.2.1 21 = .ok (.iinc 2 1, 3) := by decide +kernel
theorem eX8_begin_24 : decode MX8_begin.2.1 24 = .ok (.goto (-17), 3) := by decide +kernel
theorem eX8_begin_27 : decode MX8_begin.2.1 27 = .ok (.return_, 1) := by decide +kernel
set_option maxRecDepth 20000 in
theorem bX8_begin_0 {d : Nat} {Q : Option Value → St → Prop} (o : Nat) (x1 : Int32) (σ : St) (ho : kd o = 7) 
    (k1 : Run MX8_begin (d + 1) 7 [some (.ref o), some (.int x1), some (.int 0)] [] (sA σ o (upd (σ.1 o) 0 x1)) Q)
    : Run MX8_begin (d + 1) 0 [some (.ref o), some (.int x1), none] [] σ Q := by
  refine (go_aload_n 0 eX8_begin_0 rfl rfl).run ?_
  refine (go_iload_n 1 eX8_begin_1 rfl rfl).run ?_
  refine (go_puti flX8_21 rf_7_0 rfl pf_7_0 rfl rfl ho eX8_begin_2).run ?_
  refine (go_iconst (v := 0) eX8_begin_5 rfl).run ?_
  refine (go_istore_n 2 (L' := [some (.ref o), some (.int x1), some (.int 0)]) eX8_begin_6 rfl (Nat.le_of_ble_eq_true rfl) rfl).run ?_
  exact k1

set_option maxRecDepth 20000 in
theorem bX8_begin_7 {d : Nat} {Q : Option Value → St → Prop} (o : Nat) (x1 : Int32) (x2 : Int32) (σ : St) (ho : kd o = 7) 
    (k1 : x1 ≤ x2 → Q (none) σ)
    (k2 : x2 < x1 → Run MX8_begin (d + 1) 7 [some (.ref o), some (.int x1), some (.int (x2 + 1))] [] (aP (gr o 1) x2 x2 σ) Q)
    : Run MX8_begin (d + 1) 7 [some (.ref o), some (.int x1), some (.int x2)] [] σ Q := by
  refine (go_iload_n 2 eX8_begin_7 rfl rfl).run ?_
  refine (go_iload_n 1 eX8_begin_8 rfl rfl).run ?_
  refine (bi_ge 27 eX8_begin_9 rfl).run (fun h1 => ?_) (fun h1 => ?_)
  · exact Run.ret (v := none) (k1 h1) ⟨rfl, eX8_begin_27⟩ rfl
  · refine (go_aload_n 0 eX8_begin_12 rfl rfl).run ?_
    refine (go_getr (r := gr o 1) flX8_9 rf_7_1 ho rfl eX8_begin_13).run ?_
    refine (go_iload_n 2 eX8_begin_16 rfl rfl).run ?_
    refine (go_iload_n 2 eX8_begin_17 rfl rfl).run ?_
    refine Run.callS0 (d := d) (As := [.ref (gr o 1), .int x2, .int x2]) mX10_put lkX8_25 rfl rfl rfl (Nat.le_of_ble_eq_true rfl) eX8_begin_18 (qX10_put d (gr o 1) x2 x2 σ (kf_7_1 ho).1 ) ?_
    refine (go_iinc 2 (v := (x2 + 1)) (L' := [some (.ref o), some (.int x1), some (.int (x2 + 1))]) eX8_begin_21 rfl rfl (Nat.le_of_ble_eq_true rfl) rfl).run ?_
    refine (go_goto 7 eX8_begin_24 rfl).run ?_
    exact (k2 h1)

/-! CarryNets$Net.begin -/
theorem eX6_begin_0 : decode MX6_begin.2.1 0 = .ok (.aload_n 0, 1) := by decide +kernel
theorem eX6_begin_1 : decode MX6_begin.2.1 1 = .ok (.iload_n 1, 1) := by decide +kernel
theorem eX6_begin_2 : decode MX6_begin.2.1 2 = .ok (.putfield 22, 3) := by decide +kernel
theorem eX6_begin_5 : decode MX6_begin.2.1 5 = .ok (.aload_n 0, 1) := by decide +kernel
theorem eX6_begin_6 : decode MX6_begin.2.1 6 = .ok (.iconst 0, 1) := by decide +kernel
theorem eX6_begin_7 : decode MX6_begin.2.1 7 = .ok (.putfield 26, 3) := by decide +kernel
theorem eX6_begin_10 : decode MX6_begin.2.1 10 = .ok (.aload_n 0, 1) := by decide +kernel
theorem eX6_begin_11 : decode MX6_begin.2.1 11 = .ok (.getfield 12, 3) := by decide +kernel
theorem eX6_begin_14 : decode MX6_begin.2.1 14 = .ok (.iload_n 1, 1) := by decide +kernel
theorem eX6_begin_15 : decode MX6_begin.2.1 15 = .ok (.invokevirtual 29, 3) := by decide +kernel
theorem eX6_begin_18 : decode MX6_begin.2.1 18 = .ok (.return_, 1) := by decide +kernel
set_option maxRecDepth 20000 in
theorem bX6_begin_0 {d : Nat} {Q : Option Value → St → Prop} (o : Nat) (x1 : Int32) (σ : St) (ho : kd o = 5) 
    (k1 : Ct yX8_begin MX8_begin (d + 1) [.ref (gr o 2), .int x1] (sA (sA σ o (upd (σ.1 o) 0 x1)) o (upd ((sA σ o (upd (σ.1 o) 0 x1)).1 o) 1 0)) (fun v σ1 => Run MX6_begin (d + 2) 18 [none, none] (v.toList ++ []) σ1 Q))
    : Run MX6_begin (d + 2) 0 [some (.ref o), some (.int x1)] [] σ Q := by
  refine (go_aload_n 0 eX6_begin_0 rfl rfl).run ?_
  refine (go_iload_n 1 eX6_begin_1 rfl rfl).run ?_
  refine (go_puti flX6_22 rf_5_0 rfl pf_5_0 rfl rfl ho eX6_begin_2).run ?_
  refine (go_aload_n 0 eX6_begin_5 rfl rfl).run ?_
  refine (go_iconst (v := 0) eX6_begin_6 rfl).run ?_
  refine (go_puti flX6_26 rf_5_1 rfl pf_5_1 rfl rfl ho eX6_begin_7).run ?_
  refine (go_aload_n 0 eX6_begin_10 rfl rfl).run ?_
  refine (go_getr (r := gr o 2) flX6_12 rf_5_2 ho rfl eX6_begin_11).run ?_
  refine (go_iload_n 1 eX6_begin_14 rfl rfl).run ?_
  refine (go_sub (L' := [none, none]) (lsub_drop (lsub_drop lsub_nil))).run ?_
  exact Run.callV (d := (d + 1)) (As := [.int x1]) mX8_begin lkX6_29 (kf_5_2 ho).1 (by decide) rfl rfl rfl rfl rfl (Nat.le_of_ble_eq_true rfl) eX6_begin_15 k1

set_option maxRecDepth 20000 in
theorem bX6_begin_18 {d : Nat} {Q : Option Value → St → Prop} (σ : St) 
    (k1 : Q (none) σ)
    : Run MX6_begin (d + 2) 18 [none, none] [] σ Q := by
  exact Run.ret (v := none) k1 ⟨rfl, eX6_begin_18⟩ rfl

/-! CarryNets$Spans.openPlaces -/
theorem eX8_openPlaces_0 : decode MX8_openPlaces.2.1 0 = .ok (.iconst 0, 1) := by decide +kernel
theorem eX8_openPlaces_1 : decode MX8_openPlaces.2.1 1 = .ok (.istore_n 1, 1) := by decide +kernel
theorem eX8_openPlaces_2 : decode MX8_openPlaces.2.1 2 = .ok (.iconst 0, 1) := by decide +kernel
theorem eX8_openPlaces_3 : decode MX8_openPlaces.2.1 3 = .ok (.istore_n 2, 1) := by decide +kernel
theorem eX8_openPlaces_4 : decode MX8_openPlaces.2.1 4 = .ok (.iload_n 2, 1) := by decide +kernel
theorem eX8_openPlaces_5 : decode MX8_openPlaces.2.1 5 = .ok (.aload_n 0, 1) := by decide +kernel
theorem eX8_openPlaces_6 : decode MX8_openPlaces.2.1 6 = .ok (.getfield 21, 3) := by decide +kernel
theorem eX8_openPlaces_9 : decode MX8_openPlaces.2.1 9 = .ok (.if_icmp .ge 26, 3) := by decide +kernel
theorem eX8_openPlaces_12 : decode MX8_openPlaces.2.1 12 = .ok (.aload_n 0, 1) := by decide +kernel
theorem eX8_openPlaces_13 : decode MX8_openPlaces.2.1 13 = .ok (.getfield 9, 3) := by decide +kernel
theorem eX8_openPlaces_16 : decode MX8_openPlaces.2.1 16 = .ok (.iload_n 2, 1) := by decide +kernel
theorem eX8_openPlaces_17 : decode MX8_openPlaces.2.1 17 = .ok (.invokestatic 29, 3) := by decide +kernel
theorem eX8_openPlaces_20 : decode MX8_openPlaces.2.1 20 = .ok (.ifCond .le 9, 3) := by decide +kernel
theorem eX8_openPlaces_23 : decode MX8_openPlaces.2.1 23 = .ok (.iload_n 1, 1) := by decide +kernel
theorem eX8_openPlaces_24 : decode MX8_openPlaces.2.1 24 = .ok (.iconst 1, 1) := by decide +kernel
theorem eX8_openPlaces_25 : decode MX8_openPlaces.2.1 25 = .ok (.iload_n 2, 1) := by decide +kernel
theorem eX8_openPlaces_26 : decode MX8_openPlaces.2.1 26 = .ok (.ishl, 1) := by decide +kernel
theorem eX8_openPlaces_27 : decode MX8_openPlaces.2.1 27 = .ok (.ior, 1) := by decide +kernel
theorem eX8_openPlaces_28 : decode MX8_openPlaces.2.1 28 = .ok (.istore_n 1, 1) := by decide +kernel
theorem eX8_openPlaces_29 : decode MX8_openPlaces.2.1 29 = .ok (.iinc 2 1, 3) := by decide +kernel
theorem eX8_openPlaces_32 : decode MX8_openPlaces.2.1 32 = .ok (.goto (-28), 3) := by decide +kernel
theorem eX8_openPlaces_35 : decode MX8_openPlaces.2.1 35 = .ok (.iload_n 1, 1) := by decide +kernel
theorem eX8_openPlaces_36 : decode MX8_openPlaces.2.1 36 = .ok (.ireturn, 1) := by decide +kernel
set_option maxRecDepth 20000 in
theorem bX8_openPlaces_0 {d : Nat} {Q : Option Value → St → Prop} (o : Nat) (σ : St) (ho : kd o = 7) 
    (k1 : Run MX8_openPlaces (d + 1) 4 [some (.ref o), some (.int 0), some (.int 0)] [] σ Q)
    : Run MX8_openPlaces (d + 1) 0 [some (.ref o), none, none] [] σ Q := by
  refine (go_iconst (v := 0) eX8_openPlaces_0 rfl).run ?_
  refine (go_istore_n 1 (L' := [some (.ref o), some (.int 0), none]) eX8_openPlaces_1 rfl (Nat.le_of_ble_eq_true rfl) rfl).run ?_
  refine (go_iconst (v := 0) eX8_openPlaces_2 rfl).run ?_
  refine (go_istore_n 2 (L' := [some (.ref o), some (.int 0), some (.int 0)]) eX8_openPlaces_3 rfl (Nat.le_of_ble_eq_true rfl) rfl).run ?_
  exact k1

set_option maxRecDepth 20000 in
theorem bX8_openPlaces_4 {d : Nat} {Q : Option Value → St → Prop} (o : Nat) (x1 : Int32) (x2 : Int32) (σ : St) (ho : kd o = 7) 
    (k1 : (σ.1 o 0) ≤ x2 → Q (some (.int x1)) σ)
    (k2 : x2 < (σ.1 o 0) → Run MX8_openPlaces (d + 1) 4 [some (.ref o), some (.int (if ((aG (gr o 1) x2 σ)) ≤ 0 then x1 else (x1 ||| ((1 : Int32) <<< (x2 &&& 31))))), some (.int (x2 + 1))] [] σ Q)
    : Run MX8_openPlaces (d + 1) 4 [some (.ref o), some (.int x1), some (.int x2)] [] σ Q := by
  refine (go_iload_n 2 eX8_openPlaces_4 rfl rfl).run ?_
  refine (go_aload_n 0 eX8_openPlaces_5 rfl rfl).run ?_
  refine (go_geti flX8_21 rf_7_0 ho eX8_openPlaces_6).run ?_
  refine (bi_ge 35 eX8_openPlaces_9 rfl).run (fun h1 => ?_) (fun h1 => ?_)
  · refine (go_iload_n 1 eX8_openPlaces_35 rfl rfl).run ?_
    exact Run.ret (v := some (.int x1)) (k1 h1) ⟨Or.inl rfl, eX8_openPlaces_36⟩ rfl
  · refine (go_aload_n 0 eX8_openPlaces_12 rfl rfl).run ?_
    refine (go_getr (r := gr o 1) flX8_9 rf_7_1 ho rfl eX8_openPlaces_13).run ?_
    refine (go_iload_n 2 eX8_openPlaces_16 rfl rfl).run ?_
    refine Run.callS1 (d := d) (As := [.ref (gr o 1), .int x2]) (r := .int ((aG (gr o 1) x2 σ))) mX10_at lkX8_29 rfl rfl rfl (Nat.le_of_ble_eq_true rfl) eX8_openPlaces_17 (qX10_at d (gr o 1) x2 σ (kf_7_1 ho).1 ) ?_
    have hJh2 : Run MX8_openPlaces (d + 1) 29 [some (.ref o), some (.int (if ((aG (gr o 1) x2 σ)) ≤ 0 then x1 else (x1 ||| ((1 : Int32) <<< (x2 &&& 31))))), some (.int x2)] [] σ Q := by
      refine (go_iinc 2 (v := (x2 + 1)) (L' := [some (.ref o), some (.int (if ((aG (gr o 1) x2 σ)) ≤ 0 then x1 else (x1 ||| ((1 : Int32) <<< (x2 &&& 31))))), some (.int (x2 + 1))]) eX8_openPlaces_29 rfl rfl (Nat.le_of_ble_eq_true rfl) rfl).run ?_
      refine (go_goto 4 eX8_openPlaces_32 rfl).run ?_
      exact (k2 h1)
    refine (bz_le 29 eX8_openPlaces_20 rfl).run (fun h2 => ?_) (fun h2 => ?_)
    · first | exact hJh2 | (simp only [if_pos h2] at hJh2; exact hJh2) | (simp only [eq_true h2, eq_false (i32_nlt.mpr h2), true_and, and_true, false_and, and_false, true_or, or_true, false_or, or_false, not_true_eq_false, not_false_eq_true] at hJh2; exact hJh2) | exact Run.eq (by simp [eq_true h2, eq_false (i32_nlt.mpr h2), bI]) (by simp [eq_true h2, eq_false (i32_nlt.mpr h2), bI]) rfl hJh2
    · refine (go_iload_n 1 eX8_openPlaces_23 rfl rfl).run ?_
      refine (go_iconst (v := 1) eX8_openPlaces_24 rfl).run ?_
      refine (go_iload_n 2 eX8_openPlaces_25 rfl rfl).run ?_
      refine (go_ishl eX8_openPlaces_26).run ?_
      refine (go_ior eX8_openPlaces_27).run ?_
      refine (go_istore_n 1 (L' := [some (.ref o), some (.int (x1 ||| ((1 : Int32) <<< (x2 &&& 31)))), some (.int x2)]) eX8_openPlaces_28 rfl (Nat.le_of_ble_eq_true rfl) rfl).run ?_
      first | exact hJh2 | (simp only [if_neg (i32_nle.mpr h2)] at hJh2; exact hJh2) | (simp only [eq_true h2, eq_false (i32_nle.mpr h2), true_and, and_true, false_and, and_false, true_or, or_true, false_or, or_false, not_true_eq_false, not_false_eq_true] at hJh2; exact hJh2) | exact Run.eq (by simp [eq_true h2, eq_false (i32_nle.mpr h2), bI]) (by simp [eq_true h2, eq_false (i32_nle.mpr h2), bI]) rfl hJh2

/-! CarryNets$Spans.join -/
theorem eX8_join_0 : decode MX8_join.2.1 0 = .ok (.iconst 0, 1) := by decide +kernel
theorem eX8_join_1 : decode MX8_join.2.1 1 = .ok (.istore_n 2, 1) := by decide +kernel
theorem eX8_join_2 : decode MX8_join.2.1 2 = .ok (.iload_n 2, 1) := by decide +kernel
theorem eX8_join_3 : decode MX8_join.2.1 3 = .ok (.aload_n 0, 1) := by decide +kernel
theorem eX8_join_4 : decode MX8_join.2.1 4 = .ok (.getfield 21, 3) := by decide +kernel
theorem eX8_join_7 : decode MX8_join.2.1 7 = .ok (.if_icmp .ge 28, 3) := by decide +kernel
theorem eX8_join_10 : decode MX8_join.2.1 10 = .ok (.aload_n 0, 1) := by decide +kernel
theorem eX8_join_11 : decode MX8_join.2.1 11 = .ok (.getfield 15, 3) := by decide +kernel
theorem eX8_join_14 : decode MX8_join.2.1 14 = .ok (.iload_n 2, 1) := by decide +kernel
theorem eX8_join_15 : decode MX8_join.2.1 15 = .ok (.bipush (-4), 2) := by decide +kernel
theorem eX8_join_17 : decode MX8_join.2.1 17 = .ok (.invokestatic 25, 3) := by decide +kernel
theorem eX8_join_20 : decode MX8_join.2.1 20 = .ok (.aload_n 0, 1) := by decide +kernel
theorem eX8_join_21 : decode MX8_join.2.1 21 = .ok (.getfield 18, 3) := by decide +kernel
theorem eX8_join_24 : decode MX8_join.2.1 24 = .ok (.iload_n 2, 1) := by decide +kernel
theorem eX8_join_25 : decode MX8_join.2.1 25 = .ok (.iconst 0, 1) := by decide +kernel
theorem eX8_join_26 : decode MX8_join.2.1 26 = .ok (.invokestatic 25, 3) := by decide +kernel
theorem eX8_join_29 : decode MX8_join.2.1 29 = .ok (.iinc 2 1, 3) := by decide +kernel
theorem eX8_join_32 : decode MX8_join.2.1 32 = .ok (.goto (-30), 3) := by decide +kernel
theorem eX8_join_35 : decode MX8_join.2.1 35 = .ok (.aload_n 0, 1) := by decide +kernel
theorem eX8_join_36 : decode MX8_join.2.1 36 = .ok (.getfield 21, 3) := by decide +kernel
theorem eX8_join_39 : decode MX8_join.2.1 39 = .ok (.iconst 1, 1) := by decide +kernel
theorem eX8_join_40 : decode MX8_join.2.1 40 = .ok (.isub, 1) := by decide +kernel
theorem eX8_join_41 : decode MX8_join.2.1 41 = .ok (.istore_n 2, 1) := by decide +kernel
theorem eX8_join_42 : decode MX8_join.2.1 42 = .ok (.iload_n 2, 1) := by decide +kernel
theorem eX8_join_43 : decode MX8_join.2.1 43 = .ok (.ifCond .le 75, 3) := by decide +kernel
theorem eX8_join_46 : decode MX8_join.2.1 46 = .ok (.aload_n 0, 1) := by decide +kernel
theorem eX8_join_47 : decode MX8_join.2.1 47 = .ok (.getfield 9, 3) := by decide +kernel
theorem eX8_join_50 : decode MX8_join.2.1 50 = .ok (.iload_n 2, 1) := by decide +kernel
theorem eX8_join_51 : decode MX8_join.2.1 51 = .ok (.invokestatic 29, 3) := by decide +kernel
theorem eX8_join_54 : decode MX8_join.2.1 54 = .ok (.iconst 1, 1) := by decide +kernel
theorem eX8_join_55 : decode MX8_join.2.1 55 = .ok (.isub, 1) := by decide +kernel
theorem eX8_join_56 : decode MX8_join.2.1 56 = .ok (.istore_n 3, 1) := by decide +kernel
theorem eX8_join_57 : decode MX8_join.2.1 57 = .ok (.iload_n 1, 1) := by decide +kernel
theorem eX8_join_58 : decode MX8_join.2.1 58 = .ok (.iload_n 2, 1) := by decide +kernel
theorem eX8_join_59 : decode MX8_join.2.1 59 = .ok (.iushr, 1) := by decide +kernel
theorem eX8_join_60 : decode MX8_join.2.1 60 = .ok (.iconst 1, 1) := by decide +kernel
theorem eX8_join_61 : decode MX8_join.2.1 61 = .ok (.iand, 1) := by decide +kernel
theorem eX8_join_62 : decode MX8_join.2.1 62 = .ok (.ifCond .eq 50, 3) := by decide +kernel
theorem eX8_join_65 : decode MX8_join.2.1 65 = .ok (.iload_n 3, 1) := by decide +kernel
theorem eX8_join_66 : decode MX8_join.2.1 66 = .ok (.ifCond .lt 46, 3) := by decide +kernel
theorem eX8_join_69 : decode MX8_join.2.1 69 = .ok (.aload_n 0, 1) := by decide +kernel
theorem eX8_join_70 : decode MX8_join.2.1 70 = .ok (.getfield 15, 3) := by decide +kernel
theorem eX8_join_73 : decode MX8_join.2.1 73 = .ok (.iload_n 2, 1) := by decide +kernel
theorem eX8_join_74 : decode MX8_join.2.1 74 = .ok (.iload_n 3, 1) := by decide +kernel
theorem eX8_join_75 : decode MX8_join.2.1 75 = .ok (.invokestatic 25, 3) := by decide +kernel
theorem eX8_join_78 : decode MX8_join.2.1 78 = .ok (.aload_n 0, 1) := by decide +kernel
theorem eX8_join_79 : decode MX8_join.2.1 79 = .ok (.getfield 18, 3) := by decide +kernel
theorem eX8_join_82 : decode MX8_join.2.1 82 = .ok (.iload_n 3, 1) := by decide +kernel
theorem eX8_join_83 : decode MX8_join.2.1 83 = .ok (.aload_n 0, 1) := by decide +kernel
theorem eX8_join_84 : decode MX8_join.2.1 84 = .ok (.getfield 18, 3) := by decide +kernel
theorem eX8_join_87 : decode MX8_join.2.1 87 = .ok (.iload_n 3, 1) := by decide +kernel
theorem eX8_join_88 : decode MX8_join.2.1 88 = .ok (.invokestatic 29, 3) := by decide +kernel
theorem eX8_join_91 : decode MX8_join.2.1 91 = .ok (.iconst 1, 1) := by decide +kernel
theorem eX8_join_92 : decode MX8_join.2.1 92 = .ok (.iadd, 1) := by decide +kernel
theorem eX8_join_93 : decode MX8_join.2.1 93 = .ok (.invokestatic 25, 3) := by decide +kernel
theorem eX8_join_96 : decode MX8_join.2.1 96 = .ok (.aload_n 0, 1) := by decide +kernel
theorem eX8_join_97 : decode MX8_join.2.1 97 = .ok (.getfield 9, 3) := by decide +kernel
theorem eX8_join_100 : decode MX8_join.2.1 100 = .ok (.iload_n 2, 1) := by decide +kernel
theorem eX8_join_101 : decode MX8_join.2.1 101 = .ok (.aload_n 0, 1) := by decide +kernel
theorem eX8_join_102 : decode MX8_join.2.1 102 = .ok (.getfield 9, 3) := by decide +kernel
theorem eX8_join_105 : decode MX8_join.2.1 105 = .ok (.iload_n 3, 1) := by decide +kernel
theorem eX8_join_106 : decode MX8_join.2.1 106 = .ok (.invokestatic 29, 3) := by decide +kernel
theorem eX8_join_109 : decode MX8_join.2.1 109 = .ok (.invokestatic 25, 3) := by decide +kernel
theorem eX8_join_112 : decode MX8_join.2.1 112 = .ok (.iinc 2 (-1), 3) := by decide +kernel
theorem eX8_join_115 : decode MX8_join.2.1 115 = .ok (.goto (-73), 3) := by decide +kernel
theorem eX8_join_118 : decode MX8_join.2.1 118 = .ok (.return_, 1) := by decide +kernel
set_option maxRecDepth 20000 in
theorem bX8_join_0 {d : Nat} {Q : Option Value → St → Prop} (o : Nat) (x1 : Int32) (σ : St) (ho : kd o = 7) 
    (k1 : Run MX8_join (d + 1) 2 [some (.ref o), some (.int x1), some (.int 0), none] [] σ Q)
    : Run MX8_join (d + 1) 0 [some (.ref o), some (.int x1), none, none] [] σ Q := by
  refine (go_iconst (v := 0) eX8_join_0 rfl).run ?_
  refine (go_istore_n 2 (L' := [some (.ref o), some (.int x1), some (.int 0), none]) eX8_join_1 rfl (Nat.le_of_ble_eq_true rfl) rfl).run ?_
  exact k1

set_option maxRecDepth 20000 in
theorem bX8_join_2 {d : Nat} {Q : Option Value → St → Prop} (o : Nat) (x1 : Int32) (x2 : Int32) (σ : St) (ho : kd o = 7) 
    (k1 : (σ.1 o 0) ≤ x2 → Run MX8_join (d + 1) 42 [some (.ref o), some (.int x1), some (.int ((σ.1 o 0) - 1)), none] [] σ Q)
    (k2 : x2 < (σ.1 o 0) → Run MX8_join (d + 1) 2 [some (.ref o), some (.int x1), some (.int (x2 + 1)), none] [] (aP (gr o 3) x2 (0 : Int32) (aP (gr o 2) x2 (-4 : Int32) σ)) Q)
    : Run MX8_join (d + 1) 2 [some (.ref o), some (.int x1), some (.int x2), none] [] σ Q := by
  refine (go_iload_n 2 eX8_join_2 rfl rfl).run ?_
  refine (go_aload_n 0 eX8_join_3 rfl rfl).run ?_
  refine (go_geti flX8_21 rf_7_0 ho eX8_join_4).run ?_
  refine (bi_ge 35 eX8_join_7 rfl).run (fun h1 => ?_) (fun h1 => ?_)
  · refine (go_aload_n 0 eX8_join_35 rfl rfl).run ?_
    refine (go_geti flX8_21 rf_7_0 ho eX8_join_36).run ?_
    refine (go_iconst (v := 1) eX8_join_39 rfl).run ?_
    refine (go_isub eX8_join_40).run ?_
    refine (go_istore_n 2 (L' := [some (.ref o), some (.int x1), some (.int ((σ.1 o 0) - 1)), none]) eX8_join_41 rfl (Nat.le_of_ble_eq_true rfl) rfl).run ?_
    exact (k1 h1)
  · refine (go_aload_n 0 eX8_join_10 rfl rfl).run ?_
    refine (go_getr (r := gr o 2) flX8_15 rf_7_2 ho rfl eX8_join_11).run ?_
    refine (go_iload_n 2 eX8_join_14 rfl rfl).run ?_
    refine (go_bipush (v := -4) eX8_join_15 rfl).run ?_
    refine Run.callS0 (d := d) (As := [.ref (gr o 2), .int x2, .int (-4)]) mX10_put lkX8_25 rfl rfl rfl (Nat.le_of_ble_eq_true rfl) eX8_join_17 (qX10_put d (gr o 2) x2 (-4 : Int32) σ (kf_7_2 ho).1 ) ?_
    refine (go_aload_n 0 eX8_join_20 rfl rfl).run ?_
    refine (go_getr (r := gr o 3) flX8_18 rf_7_3 ho rfl eX8_join_21).run ?_
    refine (go_iload_n 2 eX8_join_24 rfl rfl).run ?_
    refine (go_iconst (v := 0) eX8_join_25 rfl).run ?_
    refine Run.callS0 (d := d) (As := [.ref (gr o 3), .int x2, .int 0]) mX10_put lkX8_25 rfl rfl rfl (Nat.le_of_ble_eq_true rfl) eX8_join_26 (qX10_put d (gr o 3) x2 (0 : Int32) (aP (gr o 2) x2 (-4 : Int32) σ) (kf_7_3 ho).1 ) ?_
    refine (go_iinc 2 (v := (x2 + 1)) (L' := [some (.ref o), some (.int x1), some (.int (x2 + 1)), none]) eX8_join_29 rfl rfl (Nat.le_of_ble_eq_true rfl) rfl).run ?_
    refine (go_goto 2 eX8_join_32 rfl).run ?_
    exact (k2 h1)

set_option maxRecDepth 20000 in
theorem bX8_join_42 {d : Nat} {Q : Option Value → St → Prop} (o : Nat) (x1 : Int32) (x2 : Int32) (σ : St) (ho : kd o = 7) 
    (k1 : x2 ≤ 0 → Q (none) σ)
    (k2 : (0 : Int32) < x2 → (((x1.toUInt32 >>> (x2.toUInt32 &&& Int32.toUInt32 31)).toInt32) &&& 1) = 0 → Run MX8_join (d + 1) 42 [some (.ref o), some (.int x1), some (.int (x2 + (-1))), none] [] σ Q)
    (k3 : (0 : Int32) < x2 → ¬ (((x1.toUInt32 >>> (x2.toUInt32 &&& Int32.toUInt32 31)).toInt32) &&& 1) = 0 → (((aG (gr o 1) x2 σ)) - 1) < 0 → Run MX8_join (d + 1) 42 [some (.ref o), some (.int x1), some (.int (x2 + (-1))), none] [] σ Q)
    (k4 : (0 : Int32) < x2 → ¬ (((x1.toUInt32 >>> (x2.toUInt32 &&& Int32.toUInt32 31)).toInt32) &&& 1) = 0 → (0 : Int32) ≤ (((aG (gr o 1) x2 σ)) - 1) → Run MX8_join (d + 1) 42 [some (.ref o), some (.int x1), some (.int (x2 + (-1))), none] [] (aP (gr o 1) x2 ((aG (gr o 1) (((aG (gr o 1) x2 σ)) - 1) (aP (gr o 3) (((aG (gr o 1) x2 σ)) - 1) (((aG (gr o 3) (((aG (gr o 1) x2 σ)) - 1) (aP (gr o 2) x2 (((aG (gr o 1) x2 σ)) - 1) σ))) + 1) (aP (gr o 2) x2 (((aG (gr o 1) x2 σ)) - 1) σ)))) (aP (gr o 3) (((aG (gr o 1) x2 σ)) - 1) (((aG (gr o 3) (((aG (gr o 1) x2 σ)) - 1) (aP (gr o 2) x2 (((aG (gr o 1) x2 σ)) - 1) σ))) + 1) (aP (gr o 2) x2 (((aG (gr o 1) x2 σ)) - 1) σ))) Q)
    : Run MX8_join (d + 1) 42 [some (.ref o), some (.int x1), some (.int x2), none] [] σ Q := by
  refine (go_iload_n 2 eX8_join_42 rfl rfl).run ?_
  refine (bz_le 118 eX8_join_43 rfl).run (fun h1 => ?_) (fun h1 => ?_)
  · exact Run.ret (v := none) (k1 h1) ⟨rfl, eX8_join_118⟩ rfl
  · refine (go_aload_n 0 eX8_join_46 rfl rfl).run ?_
    refine (go_getr (r := gr o 1) flX8_9 rf_7_1 ho rfl eX8_join_47).run ?_
    refine (go_iload_n 2 eX8_join_50 rfl rfl).run ?_
    refine Run.callS1 (d := d) (As := [.ref (gr o 1), .int x2]) (r := .int ((aG (gr o 1) x2 σ))) mX10_at lkX8_29 rfl rfl rfl (Nat.le_of_ble_eq_true rfl) eX8_join_51 (qX10_at d (gr o 1) x2 σ (kf_7_1 ho).1 ) ?_
    refine (go_iconst (v := 1) eX8_join_54 rfl).run ?_
    refine (go_isub eX8_join_55).run ?_
    refine (go_istore_n 3 (L' := [some (.ref o), some (.int x1), some (.int x2), some (.int (((aG (gr o 1) x2 σ)) - 1))]) eX8_join_56 rfl (Nat.le_of_ble_eq_true rfl) rfl).run ?_
    refine (go_iload_n 1 eX8_join_57 rfl rfl).run ?_
    refine (go_iload_n 2 eX8_join_58 rfl rfl).run ?_
    refine (go_iushr eX8_join_59).run ?_
    refine (go_iconst (v := 1) eX8_join_60 rfl).run ?_
    refine (go_iand eX8_join_61).run ?_
    refine (bz_eq 112 eX8_join_62 rfl).run (fun h2 => ?_) (fun h2 => ?_)
    · refine (go_iinc 2 (v := (x2 + (-1))) (L' := [some (.ref o), some (.int x1), some (.int (x2 + (-1))), some (.int (((aG (gr o 1) x2 σ)) - 1))]) eX8_join_112 rfl rfl (Nat.le_of_ble_eq_true rfl) rfl).run ?_
      refine (go_goto 42 eX8_join_115 rfl).run ?_
      refine (go_sub (L' := [some (.ref o), some (.int x1), some (.int (x2 + (-1))), none]) (lsub_keep (lsub_keep (lsub_keep (lsub_drop lsub_nil))))).run ?_
      exact (k2 h1 h2)
    · refine (go_iload_n 3 eX8_join_65 rfl rfl).run ?_
      refine (bz_lt 112 eX8_join_66 rfl).run (fun h3 => ?_) (fun h3 => ?_)
      · refine (go_iinc 2 (v := (x2 + (-1))) (L' := [some (.ref o), some (.int x1), some (.int (x2 + (-1))), some (.int (((aG (gr o 1) x2 σ)) - 1))]) eX8_join_112 rfl rfl (Nat.le_of_ble_eq_true rfl) rfl).run ?_
        refine (go_goto 42 eX8_join_115 rfl).run ?_
        refine (go_sub (L' := [some (.ref o), some (.int x1), some (.int (x2 + (-1))), none]) (lsub_keep (lsub_keep (lsub_keep (lsub_drop lsub_nil))))).run ?_
        exact (k3 h1 h2 h3)
      · refine (go_aload_n 0 eX8_join_69 rfl rfl).run ?_
        refine (go_getr (r := gr o 2) flX8_15 rf_7_2 ho rfl eX8_join_70).run ?_
        refine (go_iload_n 2 eX8_join_73 rfl rfl).run ?_
        refine (go_iload_n 3 eX8_join_74 rfl rfl).run ?_
        refine Run.callS0 (d := d) (As := [.ref (gr o 2), .int x2, .int (((aG (gr o 1) x2 σ)) - 1)]) mX10_put lkX8_25 rfl rfl rfl (Nat.le_of_ble_eq_true rfl) eX8_join_75 (qX10_put d (gr o 2) x2 (((aG (gr o 1) x2 σ)) - 1) σ (kf_7_2 ho).1 ) ?_
        refine (go_aload_n 0 eX8_join_78 rfl rfl).run ?_
        refine (go_getr (r := gr o 3) flX8_18 rf_7_3 ho rfl eX8_join_79).run ?_
        refine (go_iload_n 3 eX8_join_82 rfl rfl).run ?_
        refine (go_aload_n 0 eX8_join_83 rfl rfl).run ?_
        refine (go_getr (r := gr o 3) flX8_18 rf_7_3 ho rfl eX8_join_84).run ?_
        refine (go_iload_n 3 eX8_join_87 rfl rfl).run ?_
        refine Run.callS1 (d := d) (As := [.ref (gr o 3), .int (((aG (gr o 1) x2 σ)) - 1)]) (r := .int ((aG (gr o 3) (((aG (gr o 1) x2 σ)) - 1) (aP (gr o 2) x2 (((aG (gr o 1) x2 σ)) - 1) σ)))) mX10_at lkX8_29 rfl rfl rfl (Nat.le_of_ble_eq_true rfl) eX8_join_88 (qX10_at d (gr o 3) (((aG (gr o 1) x2 σ)) - 1) (aP (gr o 2) x2 (((aG (gr o 1) x2 σ)) - 1) σ) (kf_7_3 ho).1 ) ?_
        refine (go_iconst (v := 1) eX8_join_91 rfl).run ?_
        refine (go_iadd eX8_join_92).run ?_
        refine Run.callS0 (d := d) (As := [.ref (gr o 3), .int (((aG (gr o 1) x2 σ)) - 1), .int (((aG (gr o 3) (((aG (gr o 1) x2 σ)) - 1) (aP (gr o 2) x2 (((aG (gr o 1) x2 σ)) - 1) σ))) + 1)]) mX10_put lkX8_25 rfl rfl rfl (Nat.le_of_ble_eq_true rfl) eX8_join_93 (qX10_put d (gr o 3) (((aG (gr o 1) x2 σ)) - 1) (((aG (gr o 3) (((aG (gr o 1) x2 σ)) - 1) (aP (gr o 2) x2 (((aG (gr o 1) x2 σ)) - 1) σ))) + 1) (aP (gr o 2) x2 (((aG (gr o 1) x2 σ)) - 1) σ) (kf_7_3 ho).1 ) ?_
        refine (go_aload_n 0 eX8_join_96 rfl rfl).run ?_
        refine (go_getr (r := gr o 1) flX8_9 rf_7_1 ho rfl eX8_join_97).run ?_
        refine (go_iload_n 2 eX8_join_100 rfl rfl).run ?_
        refine (go_aload_n 0 eX8_join_101 rfl rfl).run ?_
        refine (go_getr (r := gr o 1) flX8_9 rf_7_1 ho rfl eX8_join_102).run ?_
        refine (go_iload_n 3 eX8_join_105 rfl rfl).run ?_
        refine Run.callS1 (d := d) (As := [.ref (gr o 1), .int (((aG (gr o 1) x2 σ)) - 1)]) (r := .int ((aG (gr o 1) (((aG (gr o 1) x2 σ)) - 1) (aP (gr o 3) (((aG (gr o 1) x2 σ)) - 1) (((aG (gr o 3) (((aG (gr o 1) x2 σ)) - 1) (aP (gr o 2) x2 (((aG (gr o 1) x2 σ)) - 1) σ))) + 1) (aP (gr o 2) x2 (((aG (gr o 1) x2 σ)) - 1) σ))))) mX10_at lkX8_29 rfl rfl rfl (Nat.le_of_ble_eq_true rfl) eX8_join_106 (qX10_at d (gr o 1) (((aG (gr o 1) x2 σ)) - 1) (aP (gr o 3) (((aG (gr o 1) x2 σ)) - 1) (((aG (gr o 3) (((aG (gr o 1) x2 σ)) - 1) (aP (gr o 2) x2 (((aG (gr o 1) x2 σ)) - 1) σ))) + 1) (aP (gr o 2) x2 (((aG (gr o 1) x2 σ)) - 1) σ)) (kf_7_1 ho).1 ) ?_
        refine Run.callS0 (d := d) (As := [.ref (gr o 1), .int x2, .int ((aG (gr o 1) (((aG (gr o 1) x2 σ)) - 1) (aP (gr o 3) (((aG (gr o 1) x2 σ)) - 1) (((aG (gr o 3) (((aG (gr o 1) x2 σ)) - 1) (aP (gr o 2) x2 (((aG (gr o 1) x2 σ)) - 1) σ))) + 1) (aP (gr o 2) x2 (((aG (gr o 1) x2 σ)) - 1) σ))))]) mX10_put lkX8_25 rfl rfl rfl (Nat.le_of_ble_eq_true rfl) eX8_join_109 (qX10_put d (gr o 1) x2 ((aG (gr o 1) (((aG (gr o 1) x2 σ)) - 1) (aP (gr o 3) (((aG (gr o 1) x2 σ)) - 1) (((aG (gr o 3) (((aG (gr o 1) x2 σ)) - 1) (aP (gr o 2) x2 (((aG (gr o 1) x2 σ)) - 1) σ))) + 1) (aP (gr o 2) x2 (((aG (gr o 1) x2 σ)) - 1) σ)))) (aP (gr o 3) (((aG (gr o 1) x2 σ)) - 1) (((aG (gr o 3) (((aG (gr o 1) x2 σ)) - 1) (aP (gr o 2) x2 (((aG (gr o 1) x2 σ)) - 1) σ))) + 1) (aP (gr o 2) x2 (((aG (gr o 1) x2 σ)) - 1) σ)) (kf_7_1 ho).1 ) ?_
        refine (go_iinc 2 (v := (x2 + (-1))) (L' := [some (.ref o), some (.int x1), some (.int (x2 + (-1))), some (.int (((aG (gr o 1) x2 σ)) - 1))]) eX8_join_112 rfl rfl (Nat.le_of_ble_eq_true rfl) rfl).run ?_
        refine (go_goto 42 eX8_join_115 rfl).run ?_
        refine (go_sub (L' := [some (.ref o), some (.int x1), some (.int (x2 + (-1))), none]) (lsub_keep (lsub_keep (lsub_keep (lsub_drop lsub_nil))))).run ?_
        exact (k4 h1 h2 h3)

/-! CarryNets$Net.addRow -/
theorem eX6_addRow_0 : decode MX6_addRow.2.1 0 = .ok (.iload_n 1, 1) := by decide +kernel
theorem eX6_addRow_1 : decode MX6_addRow.2.1 1 = .ok (.aload_n 0, 1) := by decide +kernel
theorem eX6_addRow_2 : decode MX6_addRow.2.1 2 = .ok (.getfield 12, 3) := by decide +kernel
theorem eX6_addRow_5 : decode MX6_addRow.2.1 5 = .ok (.invokevirtual 33, 3) := by decide +kernel
theorem eX6_addRow_8 : decode MX6_addRow.2.1 8 = .ok (.iand, 1) := by decide +kernel
theorem eX6_addRow_9 : decode MX6_addRow.2.1 9 = .ok (.istore_n 2, 1) := by decide +kernel
theorem eX6_addRow_10 : decode MX6_addRow.2.1 10 = .ok (.iload_n 2, 1) := by decide +kernel
theorem eX6_addRow_11 : decode MX6_addRow.2.1 11 = .ok (.ifCond .eq 42, 3) := by decide +kernel
theorem eX6_addRow_14 : decode MX6_addRow.2.1 14 = .ok (.aload_n 0, 1) := by decide +kernel
theorem eX6_addRow_15 : decode MX6_addRow.2.1 15 = .ok (.getfield 26, 3) := by decide +kernel
theorem eX6_addRow_18 : decode MX6_addRow.2.1 18 = .ok (.bipush 32, 2) := by decide +kernel
theorem eX6_addRow_20 : decode MX6_addRow.2.1 20 = .ok (.if_icmp .ge 33, 3) := by decide +kernel
theorem eX6_addRow_23 : decode MX6_addRow.2.1 23 = .ok (.aload_n 0, 1) := by decide +kernel
theorem eX6_addRow_24 : decode MX6_addRow.2.1 24 = .ok (.getfield 18, 3) := by decide +kernel
theorem eX6_addRow_27 : decode MX6_addRow.2.1 27 = .ok (.aload_n 0, 1) := by decide +kernel
theorem eX6_addRow_28 : decode MX6_addRow.2.1 28 = .ok (.getfield 26, 3) := by decide +kernel
theorem eX6_addRow_31 : decode MX6_addRow.2.1 31 = .ok (.iload_n 2, 1) := by decide +kernel
theorem eX6_addRow_32 : decode MX6_addRow.2.1 32 = .ok (.invokestatic 37, 3) := by decide +kernel
theorem eX6_addRow_35 : decode MX6_addRow.2.1 35 = .ok (.aload_n 0, 1) := by decide +kernel
theorem eX6_addRow_36 : decode MX6_addRow.2.1 36 = .ok (.dup, 1) := by decide +kernel
theorem eX6_addRow_37 : decode MX6_addRow.2.1 37 = .ok (.getfield 26, 3) := by decide +kernel
theorem eX6_addRow_40 : decode MX6_addRow.2.1 40 = .ok (.iconst 1, 1) := by decide +kernel
theorem eX6_addRow_41 : decode MX6_addRow.2.1 41 = .ok (.iadd, 1) := by decide +kernel
theorem eX6_addRow_42 : decode MX6_addRow.2.1 42 = .ok (.putfield 26, 3) := by decide +kernel
theorem eX6_addRow_45 : decode MX6_addRow.2.1 45 = .ok (.aload_n 0, 1) := by decide +kernel
theorem eX6_addRow_46 : decode MX6_addRow.2.1 46 = .ok (.getfield 12, 3) := by decide +kernel
theorem eX6_addRow_49 : decode MX6_addRow.2.1 49 = .ok (.iload_n 2, 1) := by decide +kernel
theorem eX6_addRow_50 : decode MX6_addRow.2.1 50 = .ok (.invokevirtual 41, 3) := by decide +kernel
theorem eX6_addRow_53 : decode MX6_addRow.2.1 53 = .ok (.return_, 1) := by decide +kernel
set_option maxRecDepth 20000 in
theorem bX6_addRow_0 {d : Nat} {Q : Option Value → St → Prop} (o : Nat) (x1 : Int32) (σ : St) (ho : kd o = 5) 
    (k1 : Ct yX8_openPlaces MX8_openPlaces (d + 1) [.ref (gr o 2)] σ (fun v σ1 => Run MX6_addRow (d + 2) 8 [some (.ref o), none, none] (v.toList ++ [.int x1]) σ1 Q))
    : Run MX6_addRow (d + 2) 0 [some (.ref o), some (.int x1), none] [] σ Q := by
  refine (go_iload_n 1 eX6_addRow_0 rfl rfl).run ?_
  refine (go_aload_n 0 eX6_addRow_1 rfl rfl).run ?_
  refine (go_getr (r := gr o 2) flX6_12 rf_5_2 ho rfl eX6_addRow_2).run ?_
  refine (go_sub (L' := [some (.ref o), none, none]) (lsub_keep (lsub_drop (lsub_keep lsub_nil)))).run ?_
  exact Run.callV (d := (d + 1)) (As := []) mX8_openPlaces lkX6_33 (kf_5_2 ho).1 (by decide) rfl rfl rfl rfl rfl (Nat.le_of_ble_eq_true rfl) eX6_addRow_5 k1

set_option maxRecDepth 20000 in
theorem bX6_addRow_8 {d : Nat} {Q : Option Value → St → Prop} (o : Nat) (s0 : Int32) (s1 : Int32) (σ : St) (ho : kd o = 5) 
    (k1 : (s1 &&& s0) = 0 → Q (none) σ)
    (k2 : ¬ (s1 &&& s0) = 0 → (32 : Int32) ≤ (σ.1 o 1) → Q (none) σ)
    (k3 : ¬ (s1 &&& s0) = 0 → (σ.1 o 1) < 32 → Ct yX8_join MX8_join (d + 1) [.ref (gr o 2), .int (s1 &&& s0)] (sA (aP (gr o 3) (σ.1 o 1) (s1 &&& s0) σ) o (upd ((aP (gr o 3) (σ.1 o 1) (s1 &&& s0) σ).1 o) 1 (((aP (gr o 3) (σ.1 o 1) (s1 &&& s0) σ).1 o 1) + 1))) (fun v σ1 => Run MX6_addRow (d + 2) 53 [none, none, none] (v.toList ++ []) σ1 Q))
    : Run MX6_addRow (d + 2) 8 [some (.ref o), none, none] [.int s0, .int s1] σ Q := by
  refine (go_iand eX6_addRow_8).run ?_
  refine (go_istore_n 2 (L' := [some (.ref o), none, some (.int (s1 &&& s0))]) eX6_addRow_9 rfl (Nat.le_of_ble_eq_true rfl) rfl).run ?_
  refine (go_iload_n 2 eX6_addRow_10 rfl rfl).run ?_
  refine (bz_eq 53 eX6_addRow_11 rfl).run (fun h1 => ?_) (fun h1 => ?_)
  · exact Run.ret (v := none) (k1 h1) ⟨rfl, eX6_addRow_53⟩ rfl
  · refine (go_aload_n 0 eX6_addRow_14 rfl rfl).run ?_
    refine (go_geti flX6_26 rf_5_1 ho eX6_addRow_15).run ?_
    refine (go_bipush (v := 32) eX6_addRow_18 rfl).run ?_
    refine (bi_ge 53 eX6_addRow_20 rfl).run (fun h2 => ?_) (fun h2 => ?_)
    · exact Run.ret (v := none) (k2 h1 h2) ⟨rfl, eX6_addRow_53⟩ rfl
    · refine (go_aload_n 0 eX6_addRow_23 rfl rfl).run ?_
      refine (go_getr (r := gr o 3) flX6_18 rf_5_3 ho rfl eX6_addRow_24).run ?_
      refine (go_aload_n 0 eX6_addRow_27 rfl rfl).run ?_
      refine (go_geti flX6_26 rf_5_1 ho eX6_addRow_28).run ?_
      refine (go_iload_n 2 eX6_addRow_31 rfl rfl).run ?_
      refine Run.callS0 (d := (d + 1)) (As := [.ref (gr o 3), .int (σ.1 o 1), .int (s1 &&& s0)]) mX10_put lkX6_37 rfl rfl rfl (Nat.le_of_ble_eq_true rfl) eX6_addRow_32 (qX10_put (d + 1) (gr o 3) (σ.1 o 1) (s1 &&& s0) σ (kf_5_3 ho).1 ) ?_
      refine (go_aload_n 0 eX6_addRow_35 rfl rfl).run ?_
      refine (go_dup eX6_addRow_36 rfl).run ?_
      refine (go_geti flX6_26 rf_5_1 ho eX6_addRow_37).run ?_
      refine (go_iconst (v := 1) eX6_addRow_40 rfl).run ?_
      refine (go_iadd eX6_addRow_41).run ?_
      refine (go_puti flX6_26 rf_5_1 rfl pf_5_1 rfl rfl ho eX6_addRow_42).run ?_
      refine (go_aload_n 0 eX6_addRow_45 rfl rfl).run ?_
      refine (go_getr (r := gr o 2) flX6_12 rf_5_2 ho rfl eX6_addRow_46).run ?_
      refine (go_iload_n 2 eX6_addRow_49 rfl rfl).run ?_
      refine (go_sub (L' := [none, none, none]) (lsub_drop (lsub_keep (lsub_drop lsub_nil)))).run ?_
      exact Run.callV (d := (d + 1)) (As := [.int (s1 &&& s0)]) mX8_join lkX6_41 (kf_5_2 ho).1 (by decide) rfl rfl rfl rfl rfl (Nat.le_of_ble_eq_true rfl) eX6_addRow_50 (k3 h1 h2)

set_option maxRecDepth 20000 in
theorem bX6_addRow_53 {d : Nat} {Q : Option Value → St → Prop} (σ : St) 
    (k1 : Q (none) σ)
    : Run MX6_addRow (d + 2) 53 [none, none, none] [] σ Q := by
  exact Run.ret (v := none) k1 ⟨rfl, eX6_addRow_53⟩ rfl

/-! CarryNets$BestNets.fillLeast -/
theorem eX0_fillLeast_0 : decode MX0_fillLeast.2.1 0 = .ok (.aload_n 1, 1) := by decide +kernel
theorem eX0_fillLeast_1 : decode MX0_fillLeast.2.1 1 = .ok (.aload_n 0, 1) := by decide +kernel
theorem eX0_fillLeast_2 : decode MX0_fillLeast.2.1 2 = .ok (.getfield 18, 3) := by decide +kernel
theorem eX0_fillLeast_5 : decode MX0_fillLeast.2.1 5 = .ok (.invokevirtual 46, 3) := by decide +kernel
theorem eX0_fillLeast_8 : decode MX0_fillLeast.2.1 8 = .ok (.aload_n 0, 1) := by decide +kernel
theorem eX0_fillLeast_9 : decode MX0_fillLeast.2.1 9 = .ok (.getfield 15, 3) := by decide +kernel
theorem eX0_fillLeast_12 : decode MX0_fillLeast.2.1 12 = .ok (.astore_n 2, 1) := by decide +kernel
theorem eX0_fillLeast_13 : decode MX0_fillLeast.2.1 13 = .ok (.aload_n 2, 1) := by decide +kernel
theorem eX0_fillLeast_14 : decode MX0_fillLeast.2.1 14 = .ok (.arraylength, 1) := by decide +kernel
theorem eX0_fillLeast_15 : decode MX0_fillLeast.2.1 15 = .ok (.istore_n 3, 1) := by decide +kernel
theorem eX0_fillLeast_16 : decode MX0_fillLeast.2.1 16 = .ok (.iconst 0, 1) := by decide +kernel
theorem eX0_fillLeast_17 : decode MX0_fillLeast.2.1 17 = .ok (.istore 4, 2) := by decide +kernel
theorem eX0_fillLeast_19 : decode MX0_fillLeast.2.1 19 = .ok (.iload 4, 2) := by decide +kernel
theorem eX0_fillLeast_21 : decode MX0_fillLeast.2.1 21 = .ok (.iload_n 3, 1) := by decide +kernel
theorem eX0_fillLeast_22 : decode MX0_fillLeast.2.1 22 = .ok (.if_icmp .ge 21, 3) := by decide +kernel
theorem eX0_fillLeast_25 : decode MX0_fillLeast.2.1 25 = .ok (.aload_n 2, 1) := by decide +kernel
theorem eX0_fillLeast_26 : decode MX0_fillLeast.2.1 26 = .ok (.iload 4, 2) := by decide +kernel
theorem eX0_fillLeast_28 : decode MX0_fillLeast.2.1 28 = .ok (.iaload, 1) := by decide +kernel
theorem eX0_fillLeast_29 : decode MX0_fillLeast.2.1 29 = .ok (.istore 5, 2) := by decide +kernel
theorem eX0_fillLeast_31 : decode MX0_fillLeast.2.1 31 = .ok (.aload_n 1, 1) := by decide +kernel
theorem eX0_fillLeast_32 : decode MX0_fillLeast.2.1 32 = .ok (.iload 5, 2) := by decide +kernel
theorem eX0_fillLeast_34 : decode MX0_fillLeast.2.1 34 = .ok (.invokevirtual 52, 3) := by decide +kernel
theorem eX0_fillLeast_37 : decode MX0_fillLeast.2.1 37 = .ok (.iinc 4 1, 3) := by decide +kernel
theorem eX0_fillLeast_40 : decode MX0_fillLeast.2.1 40 = .ok (.goto (-21), 3) := by decide +kernel
theorem eX0_fillLeast_43 : decode MX0_fillLeast.2.1 43 = .ok (.return_, 1) := by decide +kernel
set_option maxRecDepth 20000 in
theorem bX0_fillLeast_0 {d : Nat} {Q : Option Value → St → Prop} (o1 : Nat) (σ : St) (ho1 : kd o1 = 5) 
    (k1 : Ct yX6_begin MX6_begin (d + 2) [.ref o1, .int (σ.1 21 2)] σ (fun v σ1 => Run MX0_fillLeast (d + 3) 8 [some (.ref 21), some (.ref o1), none, none, none, none] (v.toList ++ []) σ1 Q))
    : Run MX0_fillLeast (d + 3) 0 [some (.ref 21), some (.ref o1), none, none, none, none] [] σ Q := by
  refine (go_aload_n 1 eX0_fillLeast_0 rfl rfl).run ?_
  refine (go_aload_n 0 eX0_fillLeast_1 rfl rfl).run ?_
  refine (go_geti flX0_18 rf_0_2 kd_21 eX0_fillLeast_2).run ?_
  exact Run.callV (d := (d + 2)) (As := [.int (σ.1 21 2)]) mX6_begin lkX0_46 ho1 (by decide) rfl rfl rfl rfl rfl (Nat.le_of_ble_eq_true rfl) eX0_fillLeast_5 k1

set_option maxRecDepth 20000 in
theorem bX0_fillLeast_8 {d : Nat} {Q : Option Value → St → Prop} (o1 : Nat) (σ : St) (ho1 : kd o1 = 5) 
    (k1 : Run MX0_fillLeast (d + 3) 19 [none, some (.ref o1), some (.ref 23), some (.int 6), some (.int 0), none] [] σ Q)
    : Run MX0_fillLeast (d + 3) 8 [some (.ref 21), some (.ref o1), none, none, none, none] [] σ Q := by
  refine (go_aload_n 0 eX0_fillLeast_8 rfl rfl).run ?_
  refine (go_getr flX0_15 rf_0_6 kd_21 gr_21_6 eX0_fillLeast_9).run ?_
  refine (go_astore_n 2 (L' := [some (.ref 21), some (.ref o1), some (.ref 23), none, none, none]) eX0_fillLeast_12 rfl (Nat.le_of_ble_eq_true rfl) rfl).run ?_
  refine (go_aload_n 2 eX0_fillLeast_13 rfl rfl).run ?_
  refine (go_alen100 (v := 6) kd_23 ln_23 rfl eX0_fillLeast_14).run ?_
  refine (go_istore_n 3 (L' := [some (.ref 21), some (.ref o1), some (.ref 23), some (.int 6), none, none]) eX0_fillLeast_15 rfl (Nat.le_of_ble_eq_true rfl) rfl).run ?_
  refine (go_iconst (v := 0) eX0_fillLeast_16 rfl).run ?_
  refine (go_istore 4 (L' := [some (.ref 21), some (.ref o1), some (.ref 23), some (.int 6), some (.int 0), none]) eX0_fillLeast_17 (Nat.le_of_ble_eq_true rfl) rfl).run ?_
  refine (go_sub (L' := [none, some (.ref o1), some (.ref 23), some (.int 6), some (.int 0), none]) (lsub_drop (lsub_keep (lsub_keep (lsub_keep (lsub_keep (lsub_keep lsub_nil))))))).run ?_
  exact k1

set_option maxRecDepth 20000 in
theorem bX0_fillLeast_19 {d : Nat} {Q : Option Value → St → Prop} (o1 : Nat) (x3 : Int32) (x4 : Int32) (σ : St) (ho1 : kd o1 = 5) 
    (g1 : x4 < x3 → vp_in x4 6)
    (k1 : x3 ≤ x4 → Q (none) σ)
    (k2 : x4 < x3 → Ct yX6_addRow MX6_addRow (d + 2) [.ref o1, .int (σ.1 23 x4.toNatClampNeg)] σ (fun v σ1 => Run MX0_fillLeast (d + 3) 37 [none, some (.ref o1), some (.ref 23), some (.int x3), some (.int x4), none] (v.toList ++ []) σ1 Q))
    : Run MX0_fillLeast (d + 3) 19 [none, some (.ref o1), some (.ref 23), some (.int x3), some (.int x4), none] [] σ Q := by
  refine (go_iload 4 eX0_fillLeast_19 rfl).run ?_
  refine (go_iload_n 3 eX0_fillLeast_21 rfl rfl).run ?_
  refine (bi_ge 43 eX0_fillLeast_22 rfl).run (fun h1 => ?_) (fun h1 => ?_)
  · exact Run.ret (v := none) (k1 h1) ⟨rfl, eX0_fillLeast_43⟩ rfl
  · refine (go_aload_n 2 eX0_fillLeast_25 rfl rfl).run ?_
    refine (go_iload 4 eX0_fillLeast_26 rfl).run ?_
    refine (go_iald kd_23 ln_23 (g1 h1) eX0_fillLeast_28).run ?_
    refine (go_istore 5 (L' := [none, some (.ref o1), some (.ref 23), some (.int x3), some (.int x4), some (.int (σ.1 23 x4.toNatClampNeg))]) eX0_fillLeast_29 (Nat.le_of_ble_eq_true rfl) rfl).run ?_
    refine (go_aload_n 1 eX0_fillLeast_31 rfl rfl).run ?_
    refine (go_iload 5 eX0_fillLeast_32 rfl).run ?_
    refine (go_sub (L' := [none, some (.ref o1), some (.ref 23), some (.int x3), some (.int x4), none]) (lsub_keep (lsub_keep (lsub_keep (lsub_keep (lsub_keep (lsub_drop lsub_nil))))))).run ?_
    exact Run.callV (d := (d + 2)) (As := [.int (σ.1 23 x4.toNatClampNeg)]) mX6_addRow lkX0_52 ho1 (by decide) rfl rfl rfl rfl rfl (Nat.le_of_ble_eq_true rfl) eX0_fillLeast_34 (k2 h1)

set_option maxRecDepth 20000 in
theorem bX0_fillLeast_37 {d : Nat} {Q : Option Value → St → Prop} (o1 : Nat) (x3 : Int32) (x4 : Int32) (σ : St) (ho1 : kd o1 = 5) 
    (k1 : Run MX0_fillLeast (d + 3) 19 [none, some (.ref o1), some (.ref 23), some (.int x3), some (.int (x4 + 1)), none] [] σ Q)
    : Run MX0_fillLeast (d + 3) 37 [none, some (.ref o1), some (.ref 23), some (.int x3), some (.int x4), none] [] σ Q := by
  refine (go_iinc 4 (v := (x4 + 1)) (L' := [none, some (.ref o1), some (.ref 23), some (.int x3), some (.int (x4 + 1)), none]) eX0_fillLeast_37 rfl rfl (Nat.le_of_ble_eq_true rfl) rfl).run ?_
  refine (go_goto 19 eX0_fillLeast_40 rfl).run ?_
  exact k1

/-! CarryNets$Blocks.size -/
theorem eX1_size_0 : decode MX1_size.2.1 0 = .ok (.lload_n 0, 1) := by decide +kernel
theorem eX1_size_1 : decode MX1_size.2.1 1 = .ok (.iconst 4, 1) := by decide +kernel
theorem eX1_size_2 : decode MX1_size.2.1 2 = .ok (.iload_n 2, 1) := by decide +kernel
theorem eX1_size_3 : decode MX1_size.2.1 3 = .ok (.imul, 1) := by decide +kernel
theorem eX1_size_4 : decode MX1_size.2.1 4 = .ok (.lshr, 1) := by decide +kernel
theorem eX1_size_5 : decode MX1_size.2.1 5 = .ok (.l2i, 1) := by decide +kernel
theorem eX1_size_6 : decode MX1_size.2.1 6 = .ok (.bipush 15, 2) := by decide +kernel
theorem eX1_size_8 : decode MX1_size.2.1 8 = .ok (.iand, 1) := by decide +kernel
theorem eX1_size_9 : decode MX1_size.2.1 9 = .ok (.ireturn, 1) := by decide +kernel
set_option maxRecDepth 20000 in
theorem bX1_size_0 {d : Nat} {Q : Option Value → St → Prop} (x0 : Int64) (x2 : Int32) (σ : St) 
    (k1 : Q (some (.int (((x0 >>> (((4 : Int32) * x2).toInt64 &&& 63)).toInt32) &&& 15))) σ)
    : Run MX1_size d 0 [some (.long x0), none, some (.int x2)] [] σ Q := by
  refine (go_lload_n 0 eX1_size_0 rfl rfl).run ?_
  refine (go_iconst (v := 4) eX1_size_1 rfl).run ?_
  refine (go_iload_n 2 eX1_size_2 rfl rfl).run ?_
  refine (go_imul eX1_size_3).run ?_
  refine (go_lshr eX1_size_4).run ?_
  refine (go_l2i eX1_size_5).run ?_
  refine (go_bipush (v := 15) eX1_size_6 rfl).run ?_
  refine (go_iand eX1_size_8).run ?_
  exact Run.ret (v := some (.int (((x0 >>> (((4 : Int32) * x2).toInt64 &&& 63)).toInt32) &&& 15))) k1 ⟨Or.inl rfl, eX1_size_9⟩ rfl

def rX1_size (x0 : Int64) (x2 : Int32) (σ : St) : Int32 := (((x0 >>> (((4 : Int32) * x2).toInt64 &&& 63)).toInt32) &&& 15)
theorem qX1_size (d : Nat) (x0 : Int64) (x2 : Int32) (σ : St) : Ct yX1_size MX1_size d [.long x0, .int x2] σ (fun v σ1 => v = some (.int (rX1_size x0 x2 σ)) ∧ σ1 = σ) :=
  Ct.of mX1_size.1 (Nat.le_of_ble_eq_true rfl) (bX1_size_0 x0 x2 σ   (⟨by first | rfl | (simp only [rX1_size, true_and, and_true, false_and, and_false, true_or, or_true, false_or, or_false, not_true_eq_false, not_false_eq_true, if_true, if_false]; done) | (simp [rX1_size, bI]; done), by first | rfl | (simp only [rX1_size, true_and, and_true, false_and, and_false, true_or, or_true, false_or, or_false, not_true_eq_false, not_false_eq_true, if_true, if_false]; done) | (simp [rX1_size, bI]; done)⟩))

/-! CarryNets$Blocks.areTold -/
theorem eX1_areTold_0 : decode MX1_areTold.2.1 0 = .ok (.lload_n 0, 1) := by decide +kernel
theorem eX1_areTold_1 : decode MX1_areTold.2.1 1 = .ok (.lconst 0, 1) := by decide +kernel
theorem eX1_areTold_2 : decode MX1_areTold.2.1 2 = .ok (.lcmp, 1) := by decide +kernel
theorem eX1_areTold_3 : decode MX1_areTold.2.1 3 = .ok (.ifCond .le 12, 3) := by decide +kernel
theorem eX1_areTold_6 : decode MX1_areTold.2.1 6 = .ok (.lload_n 0, 1) := by decide +kernel
theorem eX1_areTold_7 : decode MX1_areTold.2.1 7 = .ok (.bipush 48, 2) := by decide +kernel
theorem eX1_areTold_9 : decode MX1_areTold.2.1 9 = .ok (.lshr, 1) := by decide +kernel
theorem eX1_areTold_10 : decode MX1_areTold.2.1 10 = .ok (.lconst 0, 1) := by decide +kernel
theorem eX1_areTold_11 : decode MX1_areTold.2.1 11 = .ok (.lcmp, 1) := by decide +kernel
theorem eX1_areTold_12 : decode MX1_areTold.2.1 12 = .ok (.ifCond .eq 5, 3) := by decide +kernel
theorem eX1_areTold_15 : decode MX1_areTold.2.1 15 = .ok (.iconst 0, 1) := by decide +kernel
theorem eX1_areTold_16 : decode MX1_areTold.2.1 16 = .ok (.ireturn, 1) := by decide +kernel
theorem eX1_areTold_17 : decode MX1_areTold.2.1 17 = .ok (.iconst 0, 1) := by decide +kernel
theorem eX1_areTold_18 : decode MX1_areTold.2.1 18 = .ok (.istore_n 2, 1) := by decide +kernel
theorem eX1_areTold_19 : decode MX1_areTold.2.1 19 = .ok (.iconst 0, 1) := by decide +kernel
theorem eX1_areTold_20 : decode MX1_areTold.2.1 20 = .ok (.istore_n 3, 1) := by decide +kernel
theorem eX1_areTold_21 : decode MX1_areTold.2.1 21 = .ok (.iload_n 3, 1) := by decide +kernel
theorem eX1_areTold_22 : decode MX1_areTold.2.1 22 = .ok (.bipush 12, 2) := by decide +kernel
theorem eX1_areTold_24 : decode MX1_areTold.2.1 24 = .ok (.if_icmp .ge 37, 3) := by decide +kernel
theorem eX1_areTold_27 : decode MX1_areTold.2.1 27 = .ok (.lload_n 0, 1) := by decide +kernel
theorem eX1_areTold_28 : decode MX1_areTold.2.1 28 = .ok (.iconst 4, 1) := by decide +kernel
theorem eX1_areTold_29 : decode MX1_areTold.2.1 29 = .ok (.iload_n 3, 1) := by decide +kernel
theorem eX1_areTold_30 : decode MX1_areTold.2.1 30 = .ok (.imul, 1) := by decide +kernel
theorem eX1_areTold_31 : decode MX1_areTold.2.1 31 = .ok (.lshr, 1) := by decide +kernel
theorem eX1_areTold_32 : decode MX1_areTold.2.1 32 = .ok (.lconst 0, 1) := by decide +kernel
theorem eX1_areTold_33 : decode MX1_areTold.2.1 33 = .ok (.lcmp, 1) := by decide +kernel
theorem eX1_areTold_34 : decode MX1_areTold.2.1 34 = .ok (.ifCond .eq 27, 3) := by decide +kernel
theorem eX1_areTold_37 : decode MX1_areTold.2.1 37 = .ok (.lload_n 0, 1) := by decide +kernel
theorem eX1_areTold_38 : decode MX1_areTold.2.1 38 = .ok (.iload_n 3, 1) := by decide +kernel
theorem eX1_areTold_39 : decode MX1_areTold.2.1 39 = .ok (.invokestatic 15, 3) := by decide +kernel
theorem eX1_areTold_42 : decode MX1_areTold.2.1 42 = .ok (.ifCond .ne 5, 3) := by decide +kernel
theorem eX1_areTold_45 : decode MX1_areTold.2.1 45 = .ok (.iconst 0, 1) := by decide +kernel
theorem eX1_areTold_46 : decode MX1_areTold.2.1 46 = .ok (.ireturn, 1) := by decide +kernel
theorem eX1_areTold_47 : decode MX1_areTold.2.1 47 = .ok (.iload_n 2, 1) := by decide +kernel
theorem eX1_areTold_48 : decode MX1_areTold.2.1 48 = .ok (.lload_n 0, 1) := by decide +kernel
theorem eX1_areTold_49 : decode MX1_areTold.2.1 49 = .ok (.iload_n 3, 1) := by decide +kernel
theorem eX1_areTold_50 : decode MX1_areTold.2.1 50 = .ok (.invokestatic 15, 3) := by decide +kernel
theorem eX1_areTold_53 : decode MX1_areTold.2.1 53 = .ok (.iadd, 1) := by decide +kernel
theorem eX1_areTold_54 : decode MX1_areTold.2.1 54 = .ok (.istore_n 2, 1) := by decide +kernel
theorem eX1_areTold_55 : decode MX1_areTold.2.1 55 = .ok (.iinc 3 1, 3) := by decide +kernel
theorem eX1_areTold_58 : decode MX1_areTold.2.1 58 = .ok (.goto (-37), 3) := by decide +kernel
theorem eX1_areTold_61 : decode MX1_areTold.2.1 61 = .ok (.iload_n 2, 1) := by decide +kernel
theorem eX1_areTold_62 : decode MX1_areTold.2.1 62 = .ok (.bipush 32, 2) := by decide +kernel
theorem eX1_areTold_64 : decode MX1_areTold.2.1 64 = .ok (.if_icmp .gt 7, 3) := by decide +kernel
theorem eX1_areTold_67 : decode MX1_areTold.2.1 67 = .ok (.iconst 1, 1) := by decide +kernel
theorem eX1_areTold_68 : decode MX1_areTold.2.1 68 = .ok (.goto 4, 3) := by decide +kernel
theorem eX1_areTold_71 : decode MX1_areTold.2.1 71 = .ok (.iconst 0, 1) := by decide +kernel
theorem eX1_areTold_72 : decode MX1_areTold.2.1 72 = .ok (.ireturn, 1) := by decide +kernel
set_option maxRecDepth 20000 in
theorem bX1_areTold_0 {d : Nat} {Q : Option Value → St → Prop} (x0 : Int64) (σ : St) 
    (k1 : x0 ≤ 0 → Q (some (.int 0)) σ)
    (k2 : (0 : Int64) < x0 → (x0 >>> ((48 : Int32).toInt64 &&& 63)) = 0 → Run MX1_areTold (d + 1) 21 [some (.long x0), none, some (.int 0), some (.int 0)] [] σ Q)
    (k3 : (0 : Int64) < x0 → ¬ (x0 >>> ((48 : Int32).toInt64 &&& 63)) = 0 → Q (some (.int 0)) σ)
    : Run MX1_areTold (d + 1) 0 [some (.long x0), none, none, none] [] σ Q := by
  refine (go_lload_n 0 eX1_areTold_0 rfl rfl).run ?_
  refine (go_lconst (v := 0) eX1_areTold_1 rfl).run ?_
  refine (go_lcmp eX1_areTold_2).run ?_
  refine (brl_le 15 eX1_areTold_3 rfl).run (fun h1 => ?_) (fun h1 => ?_)
  · refine (go_iconst (v := 0) eX1_areTold_15 rfl).run ?_
    exact Run.ret (v := some (.int 0)) (k1 h1) ⟨Or.inr ⟨rfl, Or.inl rfl⟩, eX1_areTold_16⟩ rfl
  · refine (go_lload_n 0 eX1_areTold_6 rfl rfl).run ?_
    refine (go_bipush (v := 48) eX1_areTold_7 rfl).run ?_
    refine (go_lshr eX1_areTold_9).run ?_
    refine (go_lconst (v := 0) eX1_areTold_10 rfl).run ?_
    refine (go_lcmp eX1_areTold_11).run ?_
    refine (brl_eq 17 eX1_areTold_12 rfl).run (fun h2 => ?_) (fun h2 => ?_)
    · refine (go_iconst (v := 0) eX1_areTold_17 rfl).run ?_
      refine (go_istore_n 2 (L' := [some (.long x0), none, some (.int 0), none]) eX1_areTold_18 rfl (Nat.le_of_ble_eq_true rfl) rfl).run ?_
      refine (go_iconst (v := 0) eX1_areTold_19 rfl).run ?_
      refine (go_istore_n 3 (L' := [some (.long x0), none, some (.int 0), some (.int 0)]) eX1_areTold_20 rfl (Nat.le_of_ble_eq_true rfl) rfl).run ?_
      exact (k2 h1 h2)
    · refine (go_iconst (v := 0) eX1_areTold_15 rfl).run ?_
      exact Run.ret (v := some (.int 0)) (k3 h1 h2) ⟨Or.inr ⟨rfl, Or.inl rfl⟩, eX1_areTold_16⟩ rfl

set_option maxRecDepth 20000 in
theorem bX1_areTold_21 {d : Nat} {Q : Option Value → St → Prop} (x0 : Int64) (x2 : Int32) (x3 : Int32) (σ : St) 
    (k1 : (12 : Int32) ≤ x3 → Q (some (.int (bI (x2 ≤ 32)))) σ)
    (k2 : x3 < 12 → (x0 >>> (((4 : Int32) * x3).toInt64 &&& 63)) = 0 → Q (some (.int (bI (x2 ≤ 32)))) σ)
    (k3 : x3 < 12 → ¬ (x0 >>> (((4 : Int32) * x3).toInt64 &&& 63)) = 0 → ¬ ((rX1_size x0 x3 σ)) = 0 → Run MX1_areTold (d + 1) 21 [some (.long x0), none, some (.int (x2 + ((rX1_size x0 x3 σ)))), some (.int (x3 + 1))] [] σ Q)
    (k4 : x3 < 12 → ¬ (x0 >>> (((4 : Int32) * x3).toInt64 &&& 63)) = 0 → ((rX1_size x0 x3 σ)) = 0 → Q (some (.int 0)) σ)
    : Run MX1_areTold (d + 1) 21 [some (.long x0), none, some (.int x2), some (.int x3)] [] σ Q := by
  refine (go_iload_n 3 eX1_areTold_21 rfl rfl).run ?_
  refine (go_bipush (v := 12) eX1_areTold_22 rfl).run ?_
  refine (bi_ge 61 eX1_areTold_24 rfl).run (fun h1 => ?_) (fun h1 => ?_)
  · refine (go_iload_n 2 eX1_areTold_61 rfl rfl).run ?_
    refine (go_bipush (v := 32) eX1_areTold_62 rfl).run ?_
    have hJh2 : Run MX1_areTold (d + 1) 72 [none, none, none, none] [.int (bI (x2 ≤ 32))] σ Q := by
      exact Run.ret (v := some (.int (bI (x2 ≤ 32)))) (k1 h1) ⟨Or.inr ⟨rfl, bI_01⟩, eX1_areTold_72⟩ rfl
    refine (bi_gt 71 eX1_areTold_64 rfl).run (fun h2 => ?_) (fun h2 => ?_)
    · refine (go_iconst (v := 0) eX1_areTold_71 rfl).run ?_
      refine (go_sub (L' := [none, none, none, none]) (lsub_drop (lsub_keep (lsub_drop (lsub_drop lsub_nil))))).run ?_
      first | exact hJh2 | (simp only [if_pos h2] at hJh2; exact hJh2) | (simp only [eq_true h2, eq_false (i32_nle.mpr h2), true_and, and_true, false_and, and_false, true_or, or_true, false_or, or_false, not_true_eq_false, not_false_eq_true] at hJh2; exact hJh2) | exact Run.eq (by simp [eq_true h2, eq_false (i32_nle.mpr h2), bI]) (by simp [eq_true h2, eq_false (i32_nle.mpr h2), bI]) rfl hJh2
    · refine (go_iconst (v := 1) eX1_areTold_67 rfl).run ?_
      refine (go_goto 72 eX1_areTold_68 rfl).run ?_
      refine (go_sub (L' := [none, none, none, none]) (lsub_drop (lsub_keep (lsub_drop (lsub_drop lsub_nil))))).run ?_
      first | exact hJh2 | (simp only [if_neg (i32_nlt.mpr h2)] at hJh2; exact hJh2) | (simp only [eq_true h2, eq_false (i32_nlt.mpr h2), true_and, and_true, false_and, and_false, true_or, or_true, false_or, or_false, not_true_eq_false, not_false_eq_true] at hJh2; exact hJh2) | exact Run.eq (by simp [eq_true h2, eq_false (i32_nlt.mpr h2), bI]) (by simp [eq_true h2, eq_false (i32_nlt.mpr h2), bI]) rfl hJh2
  · refine (go_lload_n 0 eX1_areTold_27 rfl rfl).run ?_
    refine (go_iconst (v := 4) eX1_areTold_28 rfl).run ?_
    refine (go_iload_n 3 eX1_areTold_29 rfl rfl).run ?_
    refine (go_imul eX1_areTold_30).run ?_
    refine (go_lshr eX1_areTold_31).run ?_
    refine (go_lconst (v := 0) eX1_areTold_32 rfl).run ?_
    refine (go_lcmp eX1_areTold_33).run ?_
    refine (brl_eq 61 eX1_areTold_34 rfl).run (fun h3 => ?_) (fun h3 => ?_)
    · refine (go_iload_n 2 eX1_areTold_61 rfl rfl).run ?_
      refine (go_bipush (v := 32) eX1_areTold_62 rfl).run ?_
      have hJh4 : Run MX1_areTold (d + 1) 72 [none, none, none, none] [.int (bI (x2 ≤ 32))] σ Q := by
        exact Run.ret (v := some (.int (bI (x2 ≤ 32)))) (k2 h1 h3) ⟨Or.inr ⟨rfl, bI_01⟩, eX1_areTold_72⟩ rfl
      refine (bi_gt 71 eX1_areTold_64 rfl).run (fun h4 => ?_) (fun h4 => ?_)
      · refine (go_iconst (v := 0) eX1_areTold_71 rfl).run ?_
        refine (go_sub (L' := [none, none, none, none]) (lsub_drop (lsub_keep (lsub_drop (lsub_drop lsub_nil))))).run ?_
        first | exact hJh4 | (simp only [if_pos h4] at hJh4; exact hJh4) | (simp only [eq_true h4, eq_false (i32_nle.mpr h4), true_and, and_true, false_and, and_false, true_or, or_true, false_or, or_false, not_true_eq_false, not_false_eq_true] at hJh4; exact hJh4) | exact Run.eq (by simp [eq_true h4, eq_false (i32_nle.mpr h4), bI]) (by simp [eq_true h4, eq_false (i32_nle.mpr h4), bI]) rfl hJh4
      · refine (go_iconst (v := 1) eX1_areTold_67 rfl).run ?_
        refine (go_goto 72 eX1_areTold_68 rfl).run ?_
        refine (go_sub (L' := [none, none, none, none]) (lsub_drop (lsub_keep (lsub_drop (lsub_drop lsub_nil))))).run ?_
        first | exact hJh4 | (simp only [if_neg (i32_nlt.mpr h4)] at hJh4; exact hJh4) | (simp only [eq_true h4, eq_false (i32_nlt.mpr h4), true_and, and_true, false_and, and_false, true_or, or_true, false_or, or_false, not_true_eq_false, not_false_eq_true] at hJh4; exact hJh4) | exact Run.eq (by simp [eq_true h4, eq_false (i32_nlt.mpr h4), bI]) (by simp [eq_true h4, eq_false (i32_nlt.mpr h4), bI]) rfl hJh4
    · refine (go_lload_n 0 eX1_areTold_37 rfl rfl).run ?_
      refine (go_iload_n 3 eX1_areTold_38 rfl rfl).run ?_
      refine Run.callS1 (d := d) (As := [.long x0, .int x3]) (r := .int ((rX1_size x0 x3 σ))) mX1_size lkX1_15 rfl rfl rfl (Nat.le_of_ble_eq_true rfl) eX1_areTold_39 (qX1_size d x0 x3 σ  ) ?_
      refine (bz_ne 47 eX1_areTold_42 rfl).run (fun h5 => ?_) (fun h5 => ?_)
      · refine (go_iload_n 2 eX1_areTold_47 rfl rfl).run ?_
        refine (go_lload_n 0 eX1_areTold_48 rfl rfl).run ?_
        refine (go_iload_n 3 eX1_areTold_49 rfl rfl).run ?_
        refine Run.callS1 (d := d) (As := [.long x0, .int x3]) (r := .int ((rX1_size x0 x3 σ))) mX1_size lkX1_15 rfl rfl rfl (Nat.le_of_ble_eq_true rfl) eX1_areTold_50 (qX1_size d x0 x3 σ  ) ?_
        refine (go_iadd eX1_areTold_53).run ?_
        refine (go_istore_n 2 (L' := [some (.long x0), none, some (.int (x2 + ((rX1_size x0 x3 σ)))), some (.int x3)]) eX1_areTold_54 rfl (Nat.le_of_ble_eq_true rfl) rfl).run ?_
        refine (go_iinc 3 (v := (x3 + 1)) (L' := [some (.long x0), none, some (.int (x2 + ((rX1_size x0 x3 σ)))), some (.int (x3 + 1))]) eX1_areTold_55 rfl rfl (Nat.le_of_ble_eq_true rfl) rfl).run ?_
        refine (go_goto 21 eX1_areTold_58 rfl).run ?_
        exact (k3 h1 h3 h5)
      · refine (go_iconst (v := 0) eX1_areTold_45 rfl).run ?_
        exact Run.ret (v := some (.int 0)) (k4 h1 h3 h5) ⟨Or.inr ⟨rfl, Or.inl rfl⟩, eX1_areTold_46⟩ rfl

/-! CarryNets$Blocks.skipWorst -/
theorem eX1_skipWorst_0 : decode MX1_skipWorst.2.1 0 = .ok (.iconst 0, 1) := by decide +kernel
theorem eX1_skipWorst_1 : decode MX1_skipWorst.2.1 1 = .ok (.istore_n 3, 1) := by decide +kernel
theorem eX1_skipWorst_2 : decode MX1_skipWorst.2.1 2 = .ok (.iload_n 2, 1) := by decide +kernel
theorem eX1_skipWorst_3 : decode MX1_skipWorst.2.1 3 = .ok (.ineg, 1) := by decide +kernel
theorem eX1_skipWorst_4 : decode MX1_skipWorst.2.1 4 = .ok (.istore 4, 2) := by decide +kernel
theorem eX1_skipWorst_6 : decode MX1_skipWorst.2.1 6 = .ok (.iconst 0, 1) := by decide +kernel
theorem eX1_skipWorst_7 : decode MX1_skipWorst.2.1 7 = .ok (.istore 5, 2) := by decide +kernel
theorem eX1_skipWorst_9 : decode MX1_skipWorst.2.1 9 = .ok (.iload 5, 2) := by decide +kernel
theorem eX1_skipWorst_11 : decode MX1_skipWorst.2.1 11 = .ok (.bipush 12, 2) := by decide +kernel
theorem eX1_skipWorst_13 : decode MX1_skipWorst.2.1 13 = .ok (.if_icmp .ge 56, 3) := by decide +kernel
theorem eX1_skipWorst_16 : decode MX1_skipWorst.2.1 16 = .ok (.lload_n 0, 1) := by decide +kernel
theorem eX1_skipWorst_17 : decode MX1_skipWorst.2.1 17 = .ok (.iconst 4, 1) := by decide +kernel
theorem eX1_skipWorst_18 : decode MX1_skipWorst.2.1 18 = .ok (.iload 5, 2) := by decide +kernel
theorem eX1_skipWorst_20 : decode MX1_skipWorst.2.1 20 = .ok (.imul, 1) := by decide +kernel
theorem eX1_skipWorst_21 : decode MX1_skipWorst.2.1 21 = .ok (.lshr, 1) := by decide +kernel
theorem eX1_skipWorst_22 : decode MX1_skipWorst.2.1 22 = .ok (.lconst 0, 1) := by decide +kernel
theorem eX1_skipWorst_23 : decode MX1_skipWorst.2.1 23 = .ok (.lcmp, 1) := by decide +kernel
theorem eX1_skipWorst_24 : decode MX1_skipWorst.2.1 24 = .ok (.ifCond .eq 45, 3) := by decide +kernel
theorem eX1_skipWorst_27 : decode MX1_skipWorst.2.1 27 = .ok (.lload_n 0, 1) := by decide +kernel
theorem eX1_skipWorst_28 : decode MX1_skipWorst.2.1 28 = .ok (.iload 5, 2) := by decide +kernel
theorem eX1_skipWorst_30 : decode MX1_skipWorst.2.1 30 = .ok (.invokestatic 15, 3) := by decide +kernel
theorem eX1_skipWorst_33 : decode MX1_skipWorst.2.1 33 = .ok (.istore 6, 2) := by decide +kernel
theorem eX1_skipWorst_35 : decode MX1_skipWorst.2.1 35 = .ok (.iload_n 3, 1) := by decide +kernel
theorem eX1_skipWorst_36 : decode MX1_skipWorst.2.1 36 = .ok (.iload 6, 2) := by decide +kernel
theorem eX1_skipWorst_38 : decode MX1_skipWorst.2.1 38 = .ok (.iload 4, 2) := by decide +kernel
theorem eX1_skipWorst_40 : decode MX1_skipWorst.2.1 40 = .ok (.iload 6, 2) := by decide +kernel
theorem eX1_skipWorst_42 : decode MX1_skipWorst.2.1 42 = .ok (.iadd, 1) := by decide +kernel
theorem eX1_skipWorst_43 : decode MX1_skipWorst.2.1 43 = .ok (.iconst 1, 1) := by decide +kernel
theorem eX1_skipWorst_44 : decode MX1_skipWorst.2.1 44 = .ok (.isub, 1) := by decide +kernel
theorem eX1_skipWorst_45 : decode MX1_skipWorst.2.1 45 = .ok (.invokestatic 26, 3) := by decide +kernel
theorem eX1_skipWorst_48 : decode MX1_skipWorst.2.1 48 = .ok (.invokestatic 26, 3) := by decide +kernel
theorem eX1_skipWorst_51 : decode MX1_skipWorst.2.1 51 = .ok (.istore_n 3, 1) := by decide +kernel
theorem eX1_skipWorst_52 : decode MX1_skipWorst.2.1 52 = .ok (.iload 4, 2) := by decide +kernel
theorem eX1_skipWorst_54 : decode MX1_skipWorst.2.1 54 = .ok (.iload_n 2, 1) := by decide +kernel
theorem eX1_skipWorst_55 : decode MX1_skipWorst.2.1 55 = .ok (.iadd, 1) := by decide +kernel
theorem eX1_skipWorst_56 : decode MX1_skipWorst.2.1 56 = .ok (.iload 6, 2) := by decide +kernel
theorem eX1_skipWorst_58 : decode MX1_skipWorst.2.1 58 = .ok (.invokestatic 26, 3) := by decide +kernel
theorem eX1_skipWorst_61 : decode MX1_skipWorst.2.1 61 = .ok (.istore 4, 2) := by decide +kernel
theorem eX1_skipWorst_63 : decode MX1_skipWorst.2.1 63 = .ok (.iinc 5 1, 3) := by decide +kernel
theorem eX1_skipWorst_66 : decode MX1_skipWorst.2.1 66 = .ok (.goto (-57), 3) := by decide +kernel
theorem eX1_skipWorst_69 : decode MX1_skipWorst.2.1 69 = .ok (.iload_n 3, 1) := by decide +kernel
theorem eX1_skipWorst_70 : decode MX1_skipWorst.2.1 70 = .ok (.ireturn, 1) := by decide +kernel
set_option maxRecDepth 20000 in
theorem bX1_skipWorst_0 {d : Nat} {Q : Option Value → St → Prop} (x0 : Int64) (x2 : Int32) (σ : St) 
    (k1 : Run MX1_skipWorst (d + 1) 9 [some (.long x0), none, some (.int x2), some (.int 0), some (.int (-x2)), some (.int 0), none] [] σ Q)
    : Run MX1_skipWorst (d + 1) 0 [some (.long x0), none, some (.int x2), none, none, none, none] [] σ Q := by
  refine (go_iconst (v := 0) eX1_skipWorst_0 rfl).run ?_
  refine (go_istore_n 3 (L' := [some (.long x0), none, some (.int x2), some (.int 0), none, none, none]) eX1_skipWorst_1 rfl (Nat.le_of_ble_eq_true rfl) rfl).run ?_
  refine (go_iload_n 2 eX1_skipWorst_2 rfl rfl).run ?_
  refine (go_ineg eX1_skipWorst_3).run ?_
  refine (go_istore 4 (L' := [some (.long x0), none, some (.int x2), some (.int 0), some (.int (-x2)), none, none]) eX1_skipWorst_4 (Nat.le_of_ble_eq_true rfl) rfl).run ?_
  refine (go_iconst (v := 0) eX1_skipWorst_6 rfl).run ?_
  refine (go_istore 5 (L' := [some (.long x0), none, some (.int x2), some (.int 0), some (.int (-x2)), some (.int 0), none]) eX1_skipWorst_7 (Nat.le_of_ble_eq_true rfl) rfl).run ?_
  exact k1

set_option maxRecDepth 20000 in
theorem bX1_skipWorst_9 {d : Nat} {Q : Option Value → St → Prop} (x0 : Int64) (x2 : Int32) (x3 : Int32) (x4 : Int32) (x5 : Int32) (σ : St) 
    (k1 : (12 : Int32) ≤ x5 → Q (some (.int x3)) σ)
    (k2 : x5 < 12 → (x0 >>> (((4 : Int32) * x5).toInt64 &&& 63)) = 0 → Q (some (.int x3)) σ)
    (k3 : x5 < 12 → ¬ (x0 >>> (((4 : Int32) * x5).toInt64 &&& 63)) = 0 → Run MX1_skipWorst (d + 1) 9 [some (.long x0), none, some (.int x2), some (.int (mxI x3 (mxI ((rX1_size x0 x5 σ)) ((x4 + ((rX1_size x0 x5 σ))) - 1)))), some (.int (mxI (x4 + x2) ((rX1_size x0 x5 σ)))), some (.int (x5 + 1)), none] [] σ Q)
    : Run MX1_skipWorst (d + 1) 9 [some (.long x0), none, some (.int x2), some (.int x3), some (.int x4), some (.int x5), none] [] σ Q := by
  refine (go_iload 5 eX1_skipWorst_9 rfl).run ?_
  refine (go_bipush (v := 12) eX1_skipWorst_11 rfl).run ?_
  refine (bi_ge 69 eX1_skipWorst_13 rfl).run (fun h1 => ?_) (fun h1 => ?_)
  · refine (go_iload_n 3 eX1_skipWorst_69 rfl rfl).run ?_
    exact Run.ret (v := some (.int x3)) (k1 h1) ⟨Or.inl rfl, eX1_skipWorst_70⟩ rfl
  · refine (go_lload_n 0 eX1_skipWorst_16 rfl rfl).run ?_
    refine (go_iconst (v := 4) eX1_skipWorst_17 rfl).run ?_
    refine (go_iload 5 eX1_skipWorst_18 rfl).run ?_
    refine (go_imul eX1_skipWorst_20).run ?_
    refine (go_lshr eX1_skipWorst_21).run ?_
    refine (go_lconst (v := 0) eX1_skipWorst_22 rfl).run ?_
    refine (go_lcmp eX1_skipWorst_23).run ?_
    refine (brl_eq 69 eX1_skipWorst_24 rfl).run (fun h2 => ?_) (fun h2 => ?_)
    · refine (go_iload_n 3 eX1_skipWorst_69 rfl rfl).run ?_
      exact Run.ret (v := some (.int x3)) (k2 h1 h2) ⟨Or.inl rfl, eX1_skipWorst_70⟩ rfl
    · refine (go_lload_n 0 eX1_skipWorst_27 rfl rfl).run ?_
      refine (go_iload 5 eX1_skipWorst_28 rfl).run ?_
      refine Run.callS1 (d := d) (As := [.long x0, .int x5]) (r := .int ((rX1_size x0 x5 σ))) mX1_size lkX1_15 rfl rfl rfl (Nat.le_of_ble_eq_true rfl) eX1_skipWorst_30 (qX1_size d x0 x5 σ  ) ?_
      refine (go_istore 6 (L' := [some (.long x0), none, some (.int x2), some (.int x3), some (.int x4), some (.int x5), some (.int ((rX1_size x0 x5 σ)))]) eX1_skipWorst_33 (Nat.le_of_ble_eq_true rfl) rfl).run ?_
      refine (go_iload_n 3 eX1_skipWorst_35 rfl rfl).run ?_
      refine (go_iload 6 eX1_skipWorst_36 rfl).run ?_
      refine (go_iload 4 eX1_skipWorst_38 rfl).run ?_
      refine (go_iload 6 eX1_skipWorst_40 rfl).run ?_
      refine (go_iadd eX1_skipWorst_42).run ?_
      refine (go_iconst (v := 1) eX1_skipWorst_43 rfl).run ?_
      refine (go_isub eX1_skipWorst_44).run ?_
      refine (go_maxN mm_ok lkX1_26 rfl (Nat.le_of_ble_eq_true rfl) (by omega) eX1_skipWorst_45).run ?_
      refine (go_maxN mm_ok lkX1_26 rfl (Nat.le_of_ble_eq_true rfl) (by omega) eX1_skipWorst_48).run ?_
      refine (go_istore_n 3 (L' := [some (.long x0), none, some (.int x2), some (.int (mxI x3 (mxI ((rX1_size x0 x5 σ)) ((x4 + ((rX1_size x0 x5 σ))) - 1)))), some (.int x4), some (.int x5), some (.int ((rX1_size x0 x5 σ)))]) eX1_skipWorst_51 rfl (Nat.le_of_ble_eq_true rfl) rfl).run ?_
      refine (go_iload 4 eX1_skipWorst_52 rfl).run ?_
      refine (go_iload_n 2 eX1_skipWorst_54 rfl rfl).run ?_
      refine (go_iadd eX1_skipWorst_55).run ?_
      refine (go_iload 6 eX1_skipWorst_56 rfl).run ?_
      refine (go_maxN mm_ok lkX1_26 rfl (Nat.le_of_ble_eq_true rfl) (by omega) eX1_skipWorst_58).run ?_
      refine (go_istore 4 (L' := [some (.long x0), none, some (.int x2), some (.int (mxI x3 (mxI ((rX1_size x0 x5 σ)) ((x4 + ((rX1_size x0 x5 σ))) - 1)))), some (.int (mxI (x4 + x2) ((rX1_size x0 x5 σ)))), some (.int x5), some (.int ((rX1_size x0 x5 σ)))]) eX1_skipWorst_61 (Nat.le_of_ble_eq_true rfl) rfl).run ?_
      refine (go_iinc 5 (v := (x5 + 1)) (L' := [some (.long x0), none, some (.int x2), some (.int (mxI x3 (mxI ((rX1_size x0 x5 σ)) ((x4 + ((rX1_size x0 x5 σ))) - 1)))), some (.int (mxI (x4 + x2) ((rX1_size x0 x5 σ)))), some (.int (x5 + 1)), some (.int ((rX1_size x0 x5 σ)))]) eX1_skipWorst_63 rfl rfl (Nat.le_of_ble_eq_true rfl) rfl).run ?_
      refine (go_goto 9 eX1_skipWorst_66 rfl).run ?_
      refine (go_sub (L' := [some (.long x0), none, some (.int x2), some (.int (mxI x3 (mxI ((rX1_size x0 x5 σ)) ((x4 + ((rX1_size x0 x5 σ))) - 1)))), some (.int (mxI (x4 + x2) ((rX1_size x0 x5 σ)))), some (.int (x5 + 1)), none]) (lsub_keep (lsub_keep (lsub_keep (lsub_keep (lsub_keep (lsub_keep (lsub_drop lsub_nil)))))))).run ?_
      exact (k3 h1 h2)

/-! CarryNets$Blocks.choiceWorst -/
theorem eX1_choiceWorst_0 : decode MX1_choiceWorst.2.1 0 = .ok (.lload_n 0, 1) := by decide +kernel
theorem eX1_choiceWorst_1 : decode MX1_choiceWorst.2.1 1 = .ok (.iconst 0, 1) := by decide +kernel
theorem eX1_choiceWorst_2 : decode MX1_choiceWorst.2.1 2 = .ok (.invokestatic 15, 3) := by decide +kernel
theorem eX1_choiceWorst_5 : decode MX1_choiceWorst.2.1 5 = .ok (.istore_n 2, 1) := by decide +kernel
theorem eX1_choiceWorst_6 : decode MX1_choiceWorst.2.1 6 = .ok (.iconst 1, 1) := by decide +kernel
theorem eX1_choiceWorst_7 : decode MX1_choiceWorst.2.1 7 = .ok (.istore_n 3, 1) := by decide +kernel
theorem eX1_choiceWorst_8 : decode MX1_choiceWorst.2.1 8 = .ok (.iload_n 3, 1) := by decide +kernel
theorem eX1_choiceWorst_9 : decode MX1_choiceWorst.2.1 9 = .ok (.bipush 12, 2) := by decide +kernel
theorem eX1_choiceWorst_11 : decode MX1_choiceWorst.2.1 11 = .ok (.if_icmp .ge 31, 3) := by decide +kernel
theorem eX1_choiceWorst_14 : decode MX1_choiceWorst.2.1 14 = .ok (.lload_n 0, 1) := by decide +kernel
theorem eX1_choiceWorst_15 : decode MX1_choiceWorst.2.1 15 = .ok (.iconst 4, 1) := by decide +kernel
theorem eX1_choiceWorst_16 : decode MX1_choiceWorst.2.1 16 = .ok (.iload_n 3, 1) := by decide +kernel
theorem eX1_choiceWorst_17 : decode MX1_choiceWorst.2.1 17 = .ok (.imul, 1) := by decide +kernel
theorem eX1_choiceWorst_18 : decode MX1_choiceWorst.2.1 18 = .ok (.lshr, 1) := by decide +kernel
theorem eX1_choiceWorst_19 : decode MX1_choiceWorst.2.1 19 = .ok (.lconst 0, 1) := by decide +kernel
theorem eX1_choiceWorst_20 : decode MX1_choiceWorst.2.1 20 = .ok (.lcmp, 1) := by decide +kernel
theorem eX1_choiceWorst_21 : decode MX1_choiceWorst.2.1 21 = .ok (.ifCond .eq 21, 3) := by decide +kernel
theorem eX1_choiceWorst_24 : decode MX1_choiceWorst.2.1 24 = .ok (.iconst 1, 1) := by decide +kernel
theorem eX1_choiceWorst_25 : decode MX1_choiceWorst.2.1 25 = .ok (.iload_n 2, 1) := by decide +kernel
theorem eX1_choiceWorst_26 : decode MX1_choiceWorst.2.1 26 = .ok (.lload_n 0, 1) := by decide +kernel
theorem eX1_choiceWorst_27 : decode MX1_choiceWorst.2.1 27 = .ok (.iload_n 3, 1) := by decide +kernel
theorem eX1_choiceWorst_28 : decode MX1_choiceWorst.2.1 28 = .ok (.invokestatic 15, 3) := by decide +kernel
theorem eX1_choiceWorst_31 : decode MX1_choiceWorst.2.1 31 = .ok (.invokestatic 26, 3) := by decide +kernel
theorem eX1_choiceWorst_34 : decode MX1_choiceWorst.2.1 34 = .ok (.iadd, 1) := by decide +kernel
theorem eX1_choiceWorst_35 : decode MX1_choiceWorst.2.1 35 = .ok (.istore_n 2, 1) := by decide +kernel
theorem eX1_choiceWorst_36 : decode MX1_choiceWorst.2.1 36 = .ok (.iinc 3 1, 3) := by decide +kernel
theorem eX1_choiceWorst_39 : decode MX1_choiceWorst.2.1 39 = .ok (.goto (-31), 3) := by decide +kernel
theorem eX1_choiceWorst_42 : decode MX1_choiceWorst.2.1 42 = .ok (.iload_n 2, 1) := by decide +kernel
theorem eX1_choiceWorst_43 : decode MX1_choiceWorst.2.1 43 = .ok (.ireturn, 1) := by decide +kernel
set_option maxRecDepth 20000 in
theorem bX1_choiceWorst_0 {d : Nat} {Q : Option Value → St → Prop} (x0 : Int64) (σ : St) 
    (k1 : Run MX1_choiceWorst (d + 1) 8 [some (.long x0), none, some (.int ((rX1_size x0 (0 : Int32) σ))), some (.int 1)] [] σ Q)
    : Run MX1_choiceWorst (d + 1) 0 [some (.long x0), none, none, none] [] σ Q := by
  refine (go_lload_n 0 eX1_choiceWorst_0 rfl rfl).run ?_
  refine (go_iconst (v := 0) eX1_choiceWorst_1 rfl).run ?_
  refine Run.callS1 (d := d) (As := [.long x0, .int 0]) (r := .int ((rX1_size x0 (0 : Int32) σ))) mX1_size lkX1_15 rfl rfl rfl (Nat.le_of_ble_eq_true rfl) eX1_choiceWorst_2 (qX1_size d x0 (0 : Int32) σ  ) ?_
  refine (go_istore_n 2 (L' := [some (.long x0), none, some (.int ((rX1_size x0 (0 : Int32) σ))), none]) eX1_choiceWorst_5 rfl (Nat.le_of_ble_eq_true rfl) rfl).run ?_
  refine (go_iconst (v := 1) eX1_choiceWorst_6 rfl).run ?_
  refine (go_istore_n 3 (L' := [some (.long x0), none, some (.int ((rX1_size x0 (0 : Int32) σ))), some (.int 1)]) eX1_choiceWorst_7 rfl (Nat.le_of_ble_eq_true rfl) rfl).run ?_
  exact k1

set_option maxRecDepth 20000 in
theorem bX1_choiceWorst_8 {d : Nat} {Q : Option Value → St → Prop} (x0 : Int64) (x2 : Int32) (x3 : Int32) (σ : St) 
    (k1 : (12 : Int32) ≤ x3 → Q (some (.int x2)) σ)
    (k2 : x3 < 12 → (x0 >>> (((4 : Int32) * x3).toInt64 &&& 63)) = 0 → Q (some (.int x2)) σ)
    (k3 : x3 < 12 → ¬ (x0 >>> (((4 : Int32) * x3).toInt64 &&& 63)) = 0 → Run MX1_choiceWorst (d + 1) 8 [some (.long x0), none, some (.int ((1 : Int32) + (mxI x2 ((rX1_size x0 x3 σ))))), some (.int (x3 + 1))] [] σ Q)
    : Run MX1_choiceWorst (d + 1) 8 [some (.long x0), none, some (.int x2), some (.int x3)] [] σ Q := by
  refine (go_iload_n 3 eX1_choiceWorst_8 rfl rfl).run ?_
  refine (go_bipush (v := 12) eX1_choiceWorst_9 rfl).run ?_
  refine (bi_ge 42 eX1_choiceWorst_11 rfl).run (fun h1 => ?_) (fun h1 => ?_)
  · refine (go_iload_n 2 eX1_choiceWorst_42 rfl rfl).run ?_
    exact Run.ret (v := some (.int x2)) (k1 h1) ⟨Or.inl rfl, eX1_choiceWorst_43⟩ rfl
  · refine (go_lload_n 0 eX1_choiceWorst_14 rfl rfl).run ?_
    refine (go_iconst (v := 4) eX1_choiceWorst_15 rfl).run ?_
    refine (go_iload_n 3 eX1_choiceWorst_16 rfl rfl).run ?_
    refine (go_imul eX1_choiceWorst_17).run ?_
    refine (go_lshr eX1_choiceWorst_18).run ?_
    refine (go_lconst (v := 0) eX1_choiceWorst_19 rfl).run ?_
    refine (go_lcmp eX1_choiceWorst_20).run ?_
    refine (brl_eq 42 eX1_choiceWorst_21 rfl).run (fun h2 => ?_) (fun h2 => ?_)
    · refine (go_iload_n 2 eX1_choiceWorst_42 rfl rfl).run ?_
      exact Run.ret (v := some (.int x2)) (k2 h1 h2) ⟨Or.inl rfl, eX1_choiceWorst_43⟩ rfl
    · refine (go_iconst (v := 1) eX1_choiceWorst_24 rfl).run ?_
      refine (go_iload_n 2 eX1_choiceWorst_25 rfl rfl).run ?_
      refine (go_lload_n 0 eX1_choiceWorst_26 rfl rfl).run ?_
      refine (go_iload_n 3 eX1_choiceWorst_27 rfl rfl).run ?_
      refine Run.callS1 (d := d) (As := [.long x0, .int x3]) (r := .int ((rX1_size x0 x3 σ))) mX1_size lkX1_15 rfl rfl rfl (Nat.le_of_ble_eq_true rfl) eX1_choiceWorst_28 (qX1_size d x0 x3 σ  ) ?_
      refine (go_maxN mm_ok lkX1_26 rfl (Nat.le_of_ble_eq_true rfl) (by omega) eX1_choiceWorst_31).run ?_
      refine (go_iadd eX1_choiceWorst_34).run ?_
      refine (go_istore_n 2 (L' := [some (.long x0), none, some (.int ((1 : Int32) + (mxI x2 ((rX1_size x0 x3 σ))))), some (.int x3)]) eX1_choiceWorst_35 rfl (Nat.le_of_ble_eq_true rfl) rfl).run ?_
      refine (go_iinc 3 (v := (x3 + 1)) (L' := [some (.long x0), none, some (.int ((1 : Int32) + (mxI x2 ((rX1_size x0 x3 σ))))), some (.int (x3 + 1))]) eX1_choiceWorst_36 rfl rfl (Nat.le_of_ble_eq_true rfl) rfl).run ?_
      refine (go_goto 8 eX1_choiceWorst_39 rfl).run ?_
      exact (k3 h1 h2)

/-! CarryNets$Blocks.worst -/
theorem eX1_worst_0 : decode MX1_worst.2.1 0 = .ok (.iload_n 2, 1) := by decide +kernel
theorem eX1_worst_1 : decode MX1_worst.2.1 1 = .ok (.ifCond .ne 11, 3) := by decide +kernel
theorem eX1_worst_4 : decode MX1_worst.2.1 4 = .ok (.lload_n 0, 1) := by decide +kernel
theorem eX1_worst_5 : decode MX1_worst.2.1 5 = .ok (.iload_n 3, 1) := by decide +kernel
theorem eX1_worst_6 : decode MX1_worst.2.1 6 = .ok (.invokestatic 19, 3) := by decide +kernel
theorem eX1_worst_9 : decode MX1_worst.2.1 9 = .ok (.goto 7, 3) := by decide +kernel
theorem eX1_worst_12 : decode MX1_worst.2.1 12 = .ok (.lload_n 0, 1) := by decide +kernel
theorem eX1_worst_13 : decode MX1_worst.2.1 13 = .ok (.invokestatic 22, 3) := by decide +kernel
theorem eX1_worst_16 : decode MX1_worst.2.1 16 = .ok (.ireturn, 1) := by decide +kernel
set_option maxRecDepth 20000 in
theorem bX1_worst_0 {d : Nat} {Q : Option Value → St → Prop} (x0 : Int64) (x2 : Int32) (x3 : Int32) (σ : St) 
    (k1 : ¬ x2 = 0 → Ct yX1_choiceWorst MX1_choiceWorst (d + 1) [.long x0] σ (fun v σ1 => Run MX1_worst (d + 2) 16 [none, none, none, none] (v.toList ++ []) σ1 Q))
    (k2 : x2 = 0 → Ct yX1_skipWorst MX1_skipWorst (d + 1) [.long x0, .int x3] σ (fun v σ1 => Run MX1_worst (d + 2) 9 [none, none, none, none] (v.toList ++ []) σ1 Q))
    : Run MX1_worst (d + 2) 0 [some (.long x0), none, some (.int x2), some (.int x3)] [] σ Q := by
  refine (go_iload_n 2 eX1_worst_0 rfl rfl).run ?_
  refine (bz_ne 12 eX1_worst_1 rfl).run (fun h1 => ?_) (fun h1 => ?_)
  · refine (go_lload_n 0 eX1_worst_12 rfl rfl).run ?_
    refine (go_sub (L' := [none, none, none, none]) (lsub_drop (lsub_keep (lsub_drop (lsub_drop lsub_nil))))).run ?_
    exact Run.callS (d := (d + 1)) (As := [.long x0]) mX1_choiceWorst lkX1_22 rfl rfl rfl (Nat.le_of_ble_eq_true rfl) eX1_worst_13 (k1 h1)
  · refine (go_lload_n 0 eX1_worst_4 rfl rfl).run ?_
    refine (go_iload_n 3 eX1_worst_5 rfl rfl).run ?_
    refine (go_sub (L' := [none, none, none, none]) (lsub_drop (lsub_keep (lsub_drop (lsub_drop lsub_nil))))).run ?_
    exact Run.callS (d := (d + 1)) (As := [.long x0, .int x3]) mX1_skipWorst lkX1_19 rfl rfl rfl (Nat.le_of_ble_eq_true rfl) eX1_worst_6 (k2 h1)

set_option maxRecDepth 20000 in
theorem bX1_worst_16 {d : Nat} {Q : Option Value → St → Prop} (s0 : Int32) (σ : St) 
    (k1 : Q (some (.int s0)) σ)
    : Run MX1_worst (d + 2) 16 [none, none, none, none] [.int s0] σ Q := by
  exact Run.ret (v := some (.int s0)) k1 ⟨Or.inl rfl, eX1_worst_16⟩ rfl

set_option maxRecDepth 20000 in
theorem bX1_worst_9 {d : Nat} {Q : Option Value → St → Prop} (s0 : Int32) (σ : St) 
    (k1 : Q (some (.int s0)) σ)
    : Run MX1_worst (d + 2) 9 [none, none, none, none] [.int s0] σ Q := by
  refine (go_goto 16 eX1_worst_9 rfl).run ?_
  exact Run.ret (v := some (.int s0)) k1 ⟨Or.inl rfl, eX1_worst_16⟩ rfl

/-! CarryNets$Blocks.allowNoBlocks -/
theorem eX1_allowNoBlocks_0 : decode MX1_allowNoBlocks.2.1 0 = .ok (.iconst 0, 1) := by decide +kernel
theorem eX1_allowNoBlocks_1 : decode MX1_allowNoBlocks.2.1 1 = .ok (.istore_n 2, 1) := by decide +kernel
theorem eX1_allowNoBlocks_2 : decode MX1_allowNoBlocks.2.1 2 = .ok (.iload_n 2, 1) := by decide +kernel
theorem eX1_allowNoBlocks_3 : decode MX1_allowNoBlocks.2.1 3 = .ok (.iload_n 1, 1) := by decide +kernel
theorem eX1_allowNoBlocks_4 : decode MX1_allowNoBlocks.2.1 4 = .ok (.if_icmp .gt 30, 3) := by decide +kernel
theorem eX1_allowNoBlocks_7 : decode MX1_allowNoBlocks.2.1 7 = .ok (.aload_n 0, 1) := by decide +kernel
theorem eX1_allowNoBlocks_8 : decode MX1_allowNoBlocks.2.1 8 = .ok (.getfield 11, 3) := by decide +kernel
theorem eX1_allowNoBlocks_11 : decode MX1_allowNoBlocks.2.1 11 = .ok (.iload_n 2, 1) := by decide +kernel
theorem eX1_allowNoBlocks_12 : decode MX1_allowNoBlocks.2.1 12 = .ok (.iload_n 2, 1) := by decide +kernel
theorem eX1_allowNoBlocks_13 : decode MX1_allowNoBlocks.2.1 13 = .ok (.ifCond .ne 9, 3) := by decide +kernel
theorem eX1_allowNoBlocks_16 : decode MX1_allowNoBlocks.2.1 16 = .ok (.sipush 1000, 3) := by decide +kernel
theorem eX1_allowNoBlocks_19 : decode MX1_allowNoBlocks.2.1 19 = .ok (.goto 6, 3) := by decide +kernel
theorem eX1_allowNoBlocks_22 : decode MX1_allowNoBlocks.2.1 22 = .ok (.sipush (-1000), 3) := by decide +kernel
theorem eX1_allowNoBlocks_25 : decode MX1_allowNoBlocks.2.1 25 = .ok (.invokestatic 57, 3) := by decide +kernel
theorem eX1_allowNoBlocks_28 : decode MX1_allowNoBlocks.2.1 28 = .ok (.iinc 2 1, 3) := by decide +kernel
theorem eX1_allowNoBlocks_31 : decode MX1_allowNoBlocks.2.1 31 = .ok (.goto (-29), 3) := by decide +kernel
theorem eX1_allowNoBlocks_34 : decode MX1_allowNoBlocks.2.1 34 = .ok (.return_, 1) := by decide +kernel
set_option maxRecDepth 20000 in
theorem bX1_allowNoBlocks_0 {d : Nat} {Q : Option Value → St → Prop} (x1 : Int32) (σ : St) 
    (k1 : Run MX1_allowNoBlocks (d + 1) 2 [some (.ref 24), some (.int x1), some (.int 0)] [] σ Q)
    : Run MX1_allowNoBlocks (d + 1) 0 [some (.ref 24), some (.int x1), none] [] σ Q := by
  refine (go_iconst (v := 0) eX1_allowNoBlocks_0 rfl).run ?_
  refine (go_istore_n 2 (L' := [some (.ref 24), some (.int x1), some (.int 0)]) eX1_allowNoBlocks_1 rfl (Nat.le_of_ble_eq_true rfl) rfl).run ?_
  exact k1

set_option maxRecDepth 20000 in
theorem bX1_allowNoBlocks_2 {d : Nat} {Q : Option Value → St → Prop} (x1 : Int32) (x2 : Int32) (σ : St) 
    (k1 : x1 < x2 → Q (none) σ)
    (k2 : x2 ≤ x1 → Run MX1_allowNoBlocks (d + 1) 2 [some (.ref 24), some (.int x1), some (.int (x2 + 1))] [] (aP 25 x2 (if x2 = 0 then (1000 : Int32) else (-1000)) σ) Q)
    : Run MX1_allowNoBlocks (d + 1) 2 [some (.ref 24), some (.int x1), some (.int x2)] [] σ Q := by
  refine (go_iload_n 2 eX1_allowNoBlocks_2 rfl rfl).run ?_
  refine (go_iload_n 1 eX1_allowNoBlocks_3 rfl rfl).run ?_
  refine (bi_gt 34 eX1_allowNoBlocks_4 rfl).run (fun h1 => ?_) (fun h1 => ?_)
  · exact Run.ret (v := none) (k1 h1) ⟨rfl, eX1_allowNoBlocks_34⟩ rfl
  · refine (go_aload_n 0 eX1_allowNoBlocks_7 rfl rfl).run ?_
    refine (go_getr flX1_11 rf_1_0 kd_24 gr_24_0 eX1_allowNoBlocks_8).run ?_
    refine (go_iload_n 2 eX1_allowNoBlocks_11 rfl rfl).run ?_
    refine (go_iload_n 2 eX1_allowNoBlocks_12 rfl rfl).run ?_
    have hJh2 : Run MX1_allowNoBlocks (d + 1) 25 [some (.ref 24), some (.int x1), some (.int x2)] [.int (if x2 = 0 then (1000 : Int32) else (-1000)), .int x2, .ref 25] σ Q := by
      refine Run.callS0 (d := d) (As := [.ref 25, .int x2, .int (if x2 = 0 then (1000 : Int32) else (-1000))]) mX10_put lkX1_57 rfl rfl rfl (Nat.le_of_ble_eq_true rfl) eX1_allowNoBlocks_25 (qX10_put d 25 x2 (if x2 = 0 then (1000 : Int32) else (-1000)) σ kd_25 ) ?_
      refine (go_iinc 2 (v := (x2 + 1)) (L' := [some (.ref 24), some (.int x1), some (.int (x2 + 1))]) eX1_allowNoBlocks_28 rfl rfl (Nat.le_of_ble_eq_true rfl) rfl).run ?_
      refine (go_goto 2 eX1_allowNoBlocks_31 rfl).run ?_
      exact (k2 h1)
    refine (bz_ne 22 eX1_allowNoBlocks_13 rfl).run (fun h2 => ?_) (fun h2 => ?_)
    · refine (go_sipush (v := -1000) eX1_allowNoBlocks_22 rfl).run ?_
      first | exact hJh2 | (simp only [if_neg (h2)] at hJh2; exact hJh2) | (simp only [eq_false h2, not_false_eq_true, true_and, and_true, false_and, and_false, true_or, or_true, false_or, or_false, not_true_eq_false, not_false_eq_true] at hJh2; exact hJh2) | exact Run.eq (by simp [eq_false h2, not_false_eq_true, bI]) (by simp [eq_false h2, not_false_eq_true, bI]) rfl hJh2
    · refine (go_sipush (v := 1000) eX1_allowNoBlocks_16 rfl).run ?_
      refine (go_goto 25 eX1_allowNoBlocks_19 rfl).run ?_
      first | exact hJh2 | (simp only [if_pos h2] at hJh2; exact hJh2) | (simp only [eq_true h2, not_true_eq_false, true_and, and_true, false_and, and_false, true_or, or_true, false_or, or_false, not_true_eq_false, not_false_eq_true] at hJh2; exact hJh2) | exact Run.eq (by simp [eq_true h2, not_true_eq_false, bI]) (by simp [eq_true h2, not_true_eq_false, bI]) rfl hJh2

/-! CarryNets$Blocks.greatestSize -/
theorem eX1_greatestSize_0 : decode MX1_greatestSize.2.1 0 = .ok (.iload_n 1, 1) := by decide +kernel
theorem eX1_greatestSize_1 : decode MX1_greatestSize.2.1 1 = .ok (.aload_n 0, 1) := by decide +kernel
theorem eX1_greatestSize_2 : decode MX1_greatestSize.2.1 2 = .ok (.getfield 43, 3) := by decide +kernel
theorem eX1_greatestSize_5 : decode MX1_greatestSize.2.1 5 = .ok (.bipush 15, 2) := by decide +kernel
theorem eX1_greatestSize_7 : decode MX1_greatestSize.2.1 7 = .ok (.invokestatic 65, 3) := by decide +kernel
theorem eX1_greatestSize_10 : decode MX1_greatestSize.2.1 10 = .ok (.invokestatic 65, 3) := by decide +kernel
theorem eX1_greatestSize_13 : decode MX1_greatestSize.2.1 13 = .ok (.ireturn, 1) := by decide +kernel
set_option maxRecDepth 20000 in
theorem bX1_greatestSize_0 {d : Nat} {Q : Option Value → St → Prop} (x1 : Int32) (σ : St) 
    (k1 : Q (some (.int (mnI x1 (mnI (σ.1 24 2) 15)))) σ)
    : Run MX1_greatestSize (d + 1) 0 [some (.ref 24), some (.int x1)] [] σ Q := by
  refine (go_iload_n 1 eX1_greatestSize_0 rfl rfl).run ?_
  refine (go_aload_n 0 eX1_greatestSize_1 rfl rfl).run ?_
  refine (go_geti flX1_43 rf_1_2 kd_24 eX1_greatestSize_2).run ?_
  refine (go_bipush (v := 15) eX1_greatestSize_5 rfl).run ?_
  refine (go_minN mm_ok lkX1_65 rfl (Nat.le_of_ble_eq_true rfl) (by omega) eX1_greatestSize_7).run ?_
  refine (go_minN mm_ok lkX1_65 rfl (Nat.le_of_ble_eq_true rfl) (by omega) eX1_greatestSize_10).run ?_
  exact Run.ret (v := some (.int (mnI x1 (mnI (σ.1 24 2) 15)))) k1 ⟨Or.inl rfl, eX1_greatestSize_13⟩ rfl

theorem qX1_greatestSize (d : Nat) (x1 : Int32) (σ : St) : Ct yX1_greatestSize MX1_greatestSize (d + 1) [.ref 24, .int x1] σ (fun v σ1 => v = some (.int (mnI x1 (mnI (σ.1 24 2) 15))) ∧ σ1 = σ) :=
  Ct.of mX1_greatestSize.1 (Nat.le_of_ble_eq_true rfl) (bX1_greatestSize_0 x1 σ   (⟨by first | rfl | (simp only [true_and, and_true, false_and, and_false, true_or, or_true, false_or, or_false, not_true_eq_false, not_false_eq_true, if_true, if_false]; done) | (simp [bI]; done), by first | rfl | (simp only [true_and, and_true, false_and, and_false, true_or, or_true, false_or, or_false, not_true_eq_false, not_false_eq_true, if_true, if_false]; done) | (simp [bI]; done)⟩))

/-! CarryNets$Blocks.wayAllowed -/
theorem eX1_wayAllowed_0 : decode MX1_wayAllowed.2.1 0 = .ok (.aload_n 0, 1) := by decide +kernel
theorem eX1_wayAllowed_1 : decode MX1_wayAllowed.2.1 1 = .ok (.getfield 11, 3) := by decide +kernel
theorem eX1_wayAllowed_4 : decode MX1_wayAllowed.2.1 4 = .ok (.iload_n 1, 1) := by decide +kernel
theorem eX1_wayAllowed_5 : decode MX1_wayAllowed.2.1 5 = .ok (.bipush 33, 2) := by decide +kernel
theorem eX1_wayAllowed_7 : decode MX1_wayAllowed.2.1 7 = .ok (.imul, 1) := by decide +kernel
theorem eX1_wayAllowed_8 : decode MX1_wayAllowed.2.1 8 = .ok (.iload_n 2, 1) := by decide +kernel
theorem eX1_wayAllowed_9 : decode MX1_wayAllowed.2.1 9 = .ok (.iadd, 1) := by decide +kernel
theorem eX1_wayAllowed_10 : decode MX1_wayAllowed.2.1 10 = .ok (.invokestatic 72, 3) := by decide +kernel
theorem eX1_wayAllowed_13 : decode MX1_wayAllowed.2.1 13 = .ok (.ireturn, 1) := by decide +kernel
set_option maxRecDepth 20000 in
theorem bX1_wayAllowed_0 {d : Nat} {Q : Option Value → St → Prop} (x1 : Int32) (x2 : Int32) (σ : St) 
    (k1 : Q (some (.int ((aG 25 ((x1 * 33) + x2) σ)))) σ)
    : Run MX1_wayAllowed (d + 1) 0 [some (.ref 24), some (.int x1), some (.int x2)] [] σ Q := by
  refine (go_aload_n 0 eX1_wayAllowed_0 rfl rfl).run ?_
  refine (go_getr flX1_11 rf_1_0 kd_24 gr_24_0 eX1_wayAllowed_1).run ?_
  refine (go_iload_n 1 eX1_wayAllowed_4 rfl rfl).run ?_
  refine (go_bipush (v := 33) eX1_wayAllowed_5 rfl).run ?_
  refine (go_imul eX1_wayAllowed_7).run ?_
  refine (go_iload_n 2 eX1_wayAllowed_8 rfl rfl).run ?_
  refine (go_iadd eX1_wayAllowed_9).run ?_
  refine Run.callS1 (d := d) (As := [.ref 25, .int ((x1 * 33) + x2)]) (r := .int ((aG 25 ((x1 * 33) + x2) σ))) mX10_at lkX1_72 rfl rfl rfl (Nat.le_of_ble_eq_true rfl) eX1_wayAllowed_10 (qX10_at d 25 ((x1 * 33) + x2) σ kd_25 ) ?_
  exact Run.ret (v := some (.int ((aG 25 ((x1 * 33) + x2) σ)))) k1 ⟨Or.inl rfl, eX1_wayAllowed_13⟩ rfl

theorem qX1_wayAllowed (d : Nat) (x1 : Int32) (x2 : Int32) (σ : St) : Ct yX1_wayAllowed MX1_wayAllowed (d + 1) [.ref 24, .int x1, .int x2] σ (fun v σ1 => v = some (.int ((aG 25 ((x1 * 33) + x2) σ))) ∧ σ1 = σ) :=
  Ct.of mX1_wayAllowed.1 (Nat.le_of_ble_eq_true rfl) (bX1_wayAllowed_0 x1 x2 σ   (⟨by first | rfl | (simp only [true_and, and_true, false_and, and_false, true_or, or_true, false_or, or_false, not_true_eq_false, not_false_eq_true, if_true, if_false]; done) | (simp [bI]; done), by first | rfl | (simp only [true_and, and_true, false_and, and_false, true_or, or_true, false_or, or_false, not_true_eq_false, not_false_eq_true, if_true, if_false]; done) | (simp [bI]; done)⟩))

/-! CarryNets$Blocks.allowBlocks -/
theorem eX1_allowBlocks_0 : decode MX1_allowBlocks.2.1 0 = .ok (.iconst 0, 1) := by decide +kernel
theorem eX1_allowBlocks_1 : decode MX1_allowBlocks.2.1 1 = .ok (.istore_n 3, 1) := by decide +kernel
theorem eX1_allowBlocks_2 : decode MX1_allowBlocks.2.1 2 = .ok (.iload_n 3, 1) := by decide +kernel
theorem eX1_allowBlocks_3 : decode MX1_allowBlocks.2.1 3 = .ok (.iload_n 2, 1) := by decide +kernel
theorem eX1_allowBlocks_4 : decode MX1_allowBlocks.2.1 4 = .ok (.if_icmp .gt 98, 3) := by decide +kernel
theorem eX1_allowBlocks_7 : decode MX1_allowBlocks.2.1 7 = .ok (.sipush (-1000), 3) := by decide +kernel
theorem eX1_allowBlocks_10 : decode MX1_allowBlocks.2.1 10 = .ok (.istore 4, 2) := by decide +kernel
theorem eX1_allowBlocks_12 : decode MX1_allowBlocks.2.1 12 = .ok (.aload_n 0, 1) := by decide +kernel
theorem eX1_allowBlocks_13 : decode MX1_allowBlocks.2.1 13 = .ok (.iload_n 3, 1) := by decide +kernel
theorem eX1_allowBlocks_14 : decode MX1_allowBlocks.2.1 14 = .ok (.invokevirtual 61, 3) := by decide +kernel
theorem eX1_allowBlocks_17 : decode MX1_allowBlocks.2.1 17 = .ok (.istore 5, 2) := by decide +kernel
theorem eX1_allowBlocks_19 : decode MX1_allowBlocks.2.1 19 = .ok (.iconst 1, 1) := by decide +kernel
theorem eX1_allowBlocks_20 : decode MX1_allowBlocks.2.1 20 = .ok (.istore 6, 2) := by decide +kernel
theorem eX1_allowBlocks_22 : decode MX1_allowBlocks.2.1 22 = .ok (.iload 6, 2) := by decide +kernel
theorem eX1_allowBlocks_24 : decode MX1_allowBlocks.2.1 24 = .ok (.iload 5, 2) := by decide +kernel
theorem eX1_allowBlocks_26 : decode MX1_allowBlocks.2.1 26 = .ok (.if_icmp .gt 55, 3) := by decide +kernel
theorem eX1_allowBlocks_29 : decode MX1_allowBlocks.2.1 29 = .ok (.aload_n 0, 1) := by decide +kernel
theorem eX1_allowBlocks_30 : decode MX1_allowBlocks.2.1 30 = .ok (.iload_n 1, 1) := by decide +kernel
theorem eX1_allowBlocks_31 : decode MX1_allowBlocks.2.1 31 = .ok (.iconst 1, 1) := by decide +kernel
theorem eX1_allowBlocks_32 : decode MX1_allowBlocks.2.1 32 = .ok (.isub, 1) := by decide +kernel
theorem eX1_allowBlocks_33 : decode MX1_allowBlocks.2.1 33 = .ok (.iload_n 3, 1) := by decide +kernel
theorem eX1_allowBlocks_34 : decode MX1_allowBlocks.2.1 34 = .ok (.iload 6, 2) := by decide +kernel
theorem eX1_allowBlocks_36 : decode MX1_allowBlocks.2.1 36 = .ok (.isub, 1) := by decide +kernel
theorem eX1_allowBlocks_37 : decode MX1_allowBlocks.2.1 37 = .ok (.invokevirtual 54, 3) := by decide +kernel
theorem eX1_allowBlocks_40 : decode MX1_allowBlocks.2.1 40 = .ok (.istore 7, 2) := by decide +kernel
theorem eX1_allowBlocks_42 : decode MX1_allowBlocks.2.1 42 = .ok (.iload 6, 2) := by decide +kernel
theorem eX1_allowBlocks_44 : decode MX1_allowBlocks.2.1 44 = .ok (.iload 7, 2) := by decide +kernel
theorem eX1_allowBlocks_46 : decode MX1_allowBlocks.2.1 46 = .ok (.if_icmp .gt 29, 3) := by decide +kernel
theorem eX1_allowBlocks_49 : decode MX1_allowBlocks.2.1 49 = .ok (.iload 4, 2) := by decide +kernel
theorem eX1_allowBlocks_51 : decode MX1_allowBlocks.2.1 51 = .ok (.aload_n 0, 1) := by decide +kernel
theorem eX1_allowBlocks_52 : decode MX1_allowBlocks.2.1 52 = .ok (.getfield 43, 3) := by decide +kernel
theorem eX1_allowBlocks_55 : decode MX1_allowBlocks.2.1 55 = .ok (.iconst 1, 1) := by decide +kernel
theorem eX1_allowBlocks_56 : decode MX1_allowBlocks.2.1 56 = .ok (.iadd, 1) := by decide +kernel
theorem eX1_allowBlocks_57 : decode MX1_allowBlocks.2.1 57 = .ok (.iload 6, 2) := by decide +kernel
theorem eX1_allowBlocks_59 : decode MX1_allowBlocks.2.1 59 = .ok (.isub, 1) := by decide +kernel
theorem eX1_allowBlocks_60 : decode MX1_allowBlocks.2.1 60 = .ok (.iload 7, 2) := by decide +kernel
theorem eX1_allowBlocks_62 : decode MX1_allowBlocks.2.1 62 = .ok (.aload_n 0, 1) := by decide +kernel
theorem eX1_allowBlocks_63 : decode MX1_allowBlocks.2.1 63 = .ok (.getfield 32, 3) := by decide +kernel
theorem eX1_allowBlocks_66 : decode MX1_allowBlocks.2.1 66 = .ok (.isub, 1) := by decide +kernel
theorem eX1_allowBlocks_67 : decode MX1_allowBlocks.2.1 67 = .ok (.invokestatic 65, 3) := by decide +kernel
theorem eX1_allowBlocks_70 : decode MX1_allowBlocks.2.1 70 = .ok (.invokestatic 26, 3) := by decide +kernel
theorem eX1_allowBlocks_73 : decode MX1_allowBlocks.2.1 73 = .ok (.istore 4, 2) := by decide +kernel
theorem eX1_allowBlocks_75 : decode MX1_allowBlocks.2.1 75 = .ok (.iinc 6 1, 3) := by decide +kernel
theorem eX1_allowBlocks_78 : decode MX1_allowBlocks.2.1 78 = .ok (.goto (-56), 3) := by decide +kernel
theorem eX1_allowBlocks_81 : decode MX1_allowBlocks.2.1 81 = .ok (.aload_n 0, 1) := by decide +kernel
theorem eX1_allowBlocks_82 : decode MX1_allowBlocks.2.1 82 = .ok (.getfield 11, 3) := by decide +kernel
theorem eX1_allowBlocks_85 : decode MX1_allowBlocks.2.1 85 = .ok (.iload_n 1, 1) := by decide +kernel
theorem eX1_allowBlocks_86 : decode MX1_allowBlocks.2.1 86 = .ok (.bipush 33, 2) := by decide +kernel
theorem eX1_allowBlocks_88 : decode MX1_allowBlocks.2.1 88 = .ok (.imul, 1) := by decide +kernel
theorem eX1_allowBlocks_89 : decode MX1_allowBlocks.2.1 89 = .ok (.iload_n 3, 1) := by decide +kernel
theorem eX1_allowBlocks_90 : decode MX1_allowBlocks.2.1 90 = .ok (.iadd, 1) := by decide +kernel
theorem eX1_allowBlocks_91 : decode MX1_allowBlocks.2.1 91 = .ok (.iload 4, 2) := by decide +kernel
theorem eX1_allowBlocks_93 : decode MX1_allowBlocks.2.1 93 = .ok (.invokestatic 57, 3) := by decide +kernel
theorem eX1_allowBlocks_96 : decode MX1_allowBlocks.2.1 96 = .ok (.iinc 3 1, 3) := by decide +kernel
theorem eX1_allowBlocks_99 : decode MX1_allowBlocks.2.1 99 = .ok (.goto (-97), 3) := by decide +kernel
theorem eX1_allowBlocks_102 : decode MX1_allowBlocks.2.1 102 = .ok (.return_, 1) := by decide +kernel
set_option maxRecDepth 20000 in
theorem bX1_allowBlocks_0 {d : Nat} {Q : Option Value → St → Prop} (x1 : Int32) (x2 : Int32) (σ : St) 
    (k1 : Run MX1_allowBlocks (d + 2) 2 [some (.ref 24), some (.int x1), some (.int x2), some (.int 0), none, none, none, none] [] σ Q)
    : Run MX1_allowBlocks (d + 2) 0 [some (.ref 24), some (.int x1), some (.int x2), none, none, none, none, none] [] σ Q := by
  refine (go_iconst (v := 0) eX1_allowBlocks_0 rfl).run ?_
  refine (go_istore_n 3 (L' := [some (.ref 24), some (.int x1), some (.int x2), some (.int 0), none, none, none, none]) eX1_allowBlocks_1 rfl (Nat.le_of_ble_eq_true rfl) rfl).run ?_
  exact k1

set_option maxRecDepth 20000 in
theorem bX1_allowBlocks_2 {d : Nat} {Q : Option Value → St → Prop} (x1 : Int32) (x2 : Int32) (x3 : Int32) (σ : St) 
    (k1 : x2 < x3 → Q (none) σ)
    (k2 : x3 ≤ x2 → Run MX1_allowBlocks (d + 2) 22 [some (.ref 24), some (.int x1), some (.int x2), some (.int x3), some (.int (-1000)), some (.int ((mnI x3 (mnI (σ.1 24 2) 15)))), some (.int 1), none] [] σ Q)
    : Run MX1_allowBlocks (d + 2) 2 [some (.ref 24), some (.int x1), some (.int x2), some (.int x3), none, none, none, none] [] σ Q := by
  refine (go_iload_n 3 eX1_allowBlocks_2 rfl rfl).run ?_
  refine (go_iload_n 2 eX1_allowBlocks_3 rfl rfl).run ?_
  refine (bi_gt 102 eX1_allowBlocks_4 rfl).run (fun h1 => ?_) (fun h1 => ?_)
  · exact Run.ret (v := none) (k1 h1) ⟨rfl, eX1_allowBlocks_102⟩ rfl
  · refine (go_sipush (v := -1000) eX1_allowBlocks_7 rfl).run ?_
    refine (go_istore 4 (L' := [some (.ref 24), some (.int x1), some (.int x2), some (.int x3), some (.int (-1000)), none, none, none]) eX1_allowBlocks_10 (Nat.le_of_ble_eq_true rfl) rfl).run ?_
    refine (go_aload_n 0 eX1_allowBlocks_12 rfl rfl).run ?_
    refine (go_iload_n 3 eX1_allowBlocks_13 rfl rfl).run ?_
    refine Run.callV1 (d := (d + 1)) (As := [.int x3]) (r := .int ((mnI x3 (mnI (σ.1 24 2) 15)))) mX1_greatestSize lkX1_61 kd_24 (by decide) rfl rfl rfl rfl rfl (Nat.le_of_ble_eq_true rfl) eX1_allowBlocks_14 (qX1_greatestSize d x3 σ  ) ?_
    refine (go_istore 5 (L' := [some (.ref 24), some (.int x1), some (.int x2), some (.int x3), some (.int (-1000)), some (.int ((mnI x3 (mnI (σ.1 24 2) 15)))), none, none]) eX1_allowBlocks_17 (Nat.le_of_ble_eq_true rfl) rfl).run ?_
    refine (go_iconst (v := 1) eX1_allowBlocks_19 rfl).run ?_
    refine (go_istore 6 (L' := [some (.ref 24), some (.int x1), some (.int x2), some (.int x3), some (.int (-1000)), some (.int ((mnI x3 (mnI (σ.1 24 2) 15)))), some (.int 1), none]) eX1_allowBlocks_20 (Nat.le_of_ble_eq_true rfl) rfl).run ?_
    exact (k2 h1)

set_option maxRecDepth 20000 in
theorem bX1_allowBlocks_22 {d : Nat} {Q : Option Value → St → Prop} (x1 : Int32) (x2 : Int32) (x3 : Int32) (x4 : Int32) (x5 : Int32) (x6 : Int32) (σ : St) 
    (k1 : x5 < x6 → Run MX1_allowBlocks (d + 2) 2 [some (.ref 24), some (.int x1), some (.int x2), some (.int (x3 + 1)), none, none, none, none] [] (aP 25 ((x1 * 33) + x3) x4 σ) Q)
    (k2 : x6 ≤ x5 → Run MX1_allowBlocks (d + 2) 22 [some (.ref 24), some (.int x1), some (.int x2), some (.int x3), some (.int (if (((aG 25 (((x1 - 1) * 33) + (x3 - x6)) σ))) < x6 then x4 else (mxI x4 (mnI (((σ.1 24 2) + 1) - x6) ((((aG 25 (((x1 - 1) * 33) + (x3 - x6)) σ))) - (σ.1 24 1)))))), some (.int x5), some (.int (x6 + 1)), none] [] σ Q)
    : Run MX1_allowBlocks (d + 2) 22 [some (.ref 24), some (.int x1), some (.int x2), some (.int x3), some (.int x4), some (.int x5), some (.int x6), none] [] σ Q := by
  refine (go_iload 6 eX1_allowBlocks_22 rfl).run ?_
  refine (go_iload 5 eX1_allowBlocks_24 rfl).run ?_
  refine (bi_gt 81 eX1_allowBlocks_26 rfl).run (fun h1 => ?_) (fun h1 => ?_)
  · refine (go_aload_n 0 eX1_allowBlocks_81 rfl rfl).run ?_
    refine (go_getr flX1_11 rf_1_0 kd_24 gr_24_0 eX1_allowBlocks_82).run ?_
    refine (go_iload_n 1 eX1_allowBlocks_85 rfl rfl).run ?_
    refine (go_bipush (v := 33) eX1_allowBlocks_86 rfl).run ?_
    refine (go_imul eX1_allowBlocks_88).run ?_
    refine (go_iload_n 3 eX1_allowBlocks_89 rfl rfl).run ?_
    refine (go_iadd eX1_allowBlocks_90).run ?_
    refine (go_iload 4 eX1_allowBlocks_91 rfl).run ?_
    refine Run.callS0 (d := (d + 1)) (As := [.ref 25, .int ((x1 * 33) + x3), .int x4]) mX10_put lkX1_57 rfl rfl rfl (Nat.le_of_ble_eq_true rfl) eX1_allowBlocks_93 (qX10_put (d + 1) 25 ((x1 * 33) + x3) x4 σ kd_25 ) ?_
    refine (go_iinc 3 (v := (x3 + 1)) (L' := [some (.ref 24), some (.int x1), some (.int x2), some (.int (x3 + 1)), some (.int x4), some (.int x5), some (.int x6), none]) eX1_allowBlocks_96 rfl rfl (Nat.le_of_ble_eq_true rfl) rfl).run ?_
    refine (go_goto 2 eX1_allowBlocks_99 rfl).run ?_
    refine (go_sub (L' := [some (.ref 24), some (.int x1), some (.int x2), some (.int (x3 + 1)), none, none, none, none]) (lsub_keep (lsub_keep (lsub_keep (lsub_keep (lsub_drop (lsub_drop (lsub_drop (lsub_keep lsub_nil))))))))).run ?_
    exact (k1 h1)
  · refine (go_aload_n 0 eX1_allowBlocks_29 rfl rfl).run ?_
    refine (go_iload_n 1 eX1_allowBlocks_30 rfl rfl).run ?_
    refine (go_iconst (v := 1) eX1_allowBlocks_31 rfl).run ?_
    refine (go_isub eX1_allowBlocks_32).run ?_
    refine (go_iload_n 3 eX1_allowBlocks_33 rfl rfl).run ?_
    refine (go_iload 6 eX1_allowBlocks_34 rfl).run ?_
    refine (go_isub eX1_allowBlocks_36).run ?_
    refine Run.callV1 (d := (d + 1)) (As := [.int (x1 - 1), .int (x3 - x6)]) (r := .int (((aG 25 (((x1 - 1) * 33) + (x3 - x6)) σ)))) mX1_wayAllowed lkX1_54 kd_24 (by decide) rfl rfl rfl rfl rfl (Nat.le_of_ble_eq_true rfl) eX1_allowBlocks_37 (qX1_wayAllowed d (x1 - 1) (x3 - x6) σ  ) ?_
    refine (go_istore 7 (L' := [some (.ref 24), some (.int x1), some (.int x2), some (.int x3), some (.int x4), some (.int x5), some (.int x6), some (.int (((aG 25 (((x1 - 1) * 33) + (x3 - x6)) σ))))]) eX1_allowBlocks_40 (Nat.le_of_ble_eq_true rfl) rfl).run ?_
    refine (go_iload 6 eX1_allowBlocks_42 rfl).run ?_
    refine (go_iload 7 eX1_allowBlocks_44 rfl).run ?_
    have hJh2 : Run MX1_allowBlocks (d + 2) 75 [some (.ref 24), some (.int x1), some (.int x2), some (.int x3), some (.int (if (((aG 25 (((x1 - 1) * 33) + (x3 - x6)) σ))) < x6 then x4 else (mxI x4 (mnI (((σ.1 24 2) + 1) - x6) ((((aG 25 (((x1 - 1) * 33) + (x3 - x6)) σ))) - (σ.1 24 1)))))), some (.int x5), some (.int x6), none] [] σ Q := by
      refine (go_iinc 6 (v := (x6 + 1)) (L' := [some (.ref 24), some (.int x1), some (.int x2), some (.int x3), some (.int (if (((aG 25 (((x1 - 1) * 33) + (x3 - x6)) σ))) < x6 then x4 else (mxI x4 (mnI (((σ.1 24 2) + 1) - x6) ((((aG 25 (((x1 - 1) * 33) + (x3 - x6)) σ))) - (σ.1 24 1)))))), some (.int x5), some (.int (x6 + 1)), none]) eX1_allowBlocks_75 rfl rfl (Nat.le_of_ble_eq_true rfl) rfl).run ?_
      refine (go_goto 22 eX1_allowBlocks_78 rfl).run ?_
      exact (k2 h1)
    refine (bi_gt 75 eX1_allowBlocks_46 rfl).run (fun h2 => ?_) (fun h2 => ?_)
    · refine (go_sub (L' := [some (.ref 24), some (.int x1), some (.int x2), some (.int x3), some (.int x4), some (.int x5), some (.int x6), none]) (lsub_keep (lsub_keep (lsub_keep (lsub_keep (lsub_keep (lsub_keep (lsub_keep (lsub_drop lsub_nil))))))))).run ?_
      first | exact hJh2 | (simp only [if_pos h2] at hJh2; exact hJh2) | (simp only [eq_true h2, eq_false (i32_nle.mpr h2), true_and, and_true, false_and, and_false, true_or, or_true, false_or, or_false, not_true_eq_false, not_false_eq_true] at hJh2; exact hJh2) | exact Run.eq (by simp [eq_true h2, eq_false (i32_nle.mpr h2), bI]) (by simp [eq_true h2, eq_false (i32_nle.mpr h2), bI]) rfl hJh2
    · refine (go_iload 4 eX1_allowBlocks_49 rfl).run ?_
      refine (go_aload_n 0 eX1_allowBlocks_51 rfl rfl).run ?_
      refine (go_geti flX1_43 rf_1_2 kd_24 eX1_allowBlocks_52).run ?_
      refine (go_iconst (v := 1) eX1_allowBlocks_55 rfl).run ?_
      refine (go_iadd eX1_allowBlocks_56).run ?_
      refine (go_iload 6 eX1_allowBlocks_57 rfl).run ?_
      refine (go_isub eX1_allowBlocks_59).run ?_
      refine (go_iload 7 eX1_allowBlocks_60 rfl).run ?_
      refine (go_aload_n 0 eX1_allowBlocks_62 rfl rfl).run ?_
      refine (go_geti flX1_32 rf_1_1 kd_24 eX1_allowBlocks_63).run ?_
      refine (go_isub eX1_allowBlocks_66).run ?_
      refine (go_minN mm_ok lkX1_65 rfl (Nat.le_of_ble_eq_true rfl) (by omega) eX1_allowBlocks_67).run ?_
      refine (go_maxN mm_ok lkX1_26 rfl (Nat.le_of_ble_eq_true rfl) (by omega) eX1_allowBlocks_70).run ?_
      refine (go_istore 4 (L' := [some (.ref 24), some (.int x1), some (.int x2), some (.int x3), some (.int (mxI x4 (mnI (((σ.1 24 2) + 1) - x6) ((((aG 25 (((x1 - 1) * 33) + (x3 - x6)) σ))) - (σ.1 24 1))))), some (.int x5), some (.int x6), some (.int (((aG 25 (((x1 - 1) * 33) + (x3 - x6)) σ))))]) eX1_allowBlocks_73 (Nat.le_of_ble_eq_true rfl) rfl).run ?_
      refine (go_sub (L' := [some (.ref 24), some (.int x1), some (.int x2), some (.int x3), some (.int (mxI x4 (mnI (((σ.1 24 2) + 1) - x6) ((((aG 25 (((x1 - 1) * 33) + (x3 - x6)) σ))) - (σ.1 24 1))))), some (.int x5), some (.int x6), none]) (lsub_keep (lsub_keep (lsub_keep (lsub_keep (lsub_keep (lsub_keep (lsub_keep (lsub_drop lsub_nil))))))))).run ?_
      first | exact hJh2 | (simp only [if_neg (i32_nlt.mpr h2)] at hJh2; exact hJh2) | (simp only [eq_true h2, eq_false (i32_nlt.mpr h2), true_and, and_true, false_and, and_false, true_or, or_true, false_or, or_false, not_true_eq_false, not_false_eq_true] at hJh2; exact hJh2) | exact Run.eq (by simp [eq_true h2, eq_false (i32_nlt.mpr h2), bI]) (by simp [eq_true h2, eq_false (i32_nlt.mpr h2), bI]) rfl hJh2

/-! CarryNets$Blocks.fewestSkipBlocks -/
theorem eX1_fewestSkipBlocks_0 : decode MX1_fewestSkipBlocks.2.1 0 = .ok (.aload_n 0, 1) := by decide +kernel
theorem eX1_fewestSkipBlocks_1 : decode MX1_fewestSkipBlocks.2.1 1 = .ok (.iload_n 2, 1) := by decide +kernel
theorem eX1_fewestSkipBlocks_2 : decode MX1_fewestSkipBlocks.2.1 2 = .ok (.putfield 43, 3) := by decide +kernel
theorem eX1_fewestSkipBlocks_5 : decode MX1_fewestSkipBlocks.2.1 5 = .ok (.aload_n 0, 1) := by decide +kernel
theorem eX1_fewestSkipBlocks_6 : decode MX1_fewestSkipBlocks.2.1 6 = .ok (.iload_n 1, 1) := by decide +kernel
theorem eX1_fewestSkipBlocks_7 : decode MX1_fewestSkipBlocks.2.1 7 = .ok (.invokevirtual 46, 3) := by decide +kernel
theorem eX1_fewestSkipBlocks_10 : decode MX1_fewestSkipBlocks.2.1 10 = .ok (.iconst 1, 1) := by decide +kernel
theorem eX1_fewestSkipBlocks_11 : decode MX1_fewestSkipBlocks.2.1 11 = .ok (.istore_n 3, 1) := by decide +kernel
theorem eX1_fewestSkipBlocks_12 : decode MX1_fewestSkipBlocks.2.1 12 = .ok (.iload_n 3, 1) := by decide +kernel
theorem eX1_fewestSkipBlocks_13 : decode MX1_fewestSkipBlocks.2.1 13 = .ok (.bipush 12, 2) := by decide +kernel
theorem eX1_fewestSkipBlocks_15 : decode MX1_fewestSkipBlocks.2.1 15 = .ok (.if_icmp .gt 45, 3) := by decide +kernel
theorem eX1_fewestSkipBlocks_18 : decode MX1_fewestSkipBlocks.2.1 18 = .ok (.iconst 1, 1) := by decide +kernel
theorem eX1_fewestSkipBlocks_19 : decode MX1_fewestSkipBlocks.2.1 19 = .ok (.aload_n 0, 1) := by decide +kernel
theorem eX1_fewestSkipBlocks_20 : decode MX1_fewestSkipBlocks.2.1 20 = .ok (.getfield 32, 3) := by decide +kernel
theorem eX1_fewestSkipBlocks_23 : decode MX1_fewestSkipBlocks.2.1 23 = .ok (.iload_n 3, 1) := by decide +kernel
theorem eX1_fewestSkipBlocks_24 : decode MX1_fewestSkipBlocks.2.1 24 = .ok (.iconst 2, 1) := by decide +kernel
theorem eX1_fewestSkipBlocks_25 : decode MX1_fewestSkipBlocks.2.1 25 = .ok (.isub, 1) := by decide +kernel
theorem eX1_fewestSkipBlocks_26 : decode MX1_fewestSkipBlocks.2.1 26 = .ok (.imul, 1) := by decide +kernel
theorem eX1_fewestSkipBlocks_27 : decode MX1_fewestSkipBlocks.2.1 27 = .ok (.iadd, 1) := by decide +kernel
theorem eX1_fewestSkipBlocks_28 : decode MX1_fewestSkipBlocks.2.1 28 = .ok (.iload_n 2, 1) := by decide +kernel
theorem eX1_fewestSkipBlocks_29 : decode MX1_fewestSkipBlocks.2.1 29 = .ok (.if_icmp .gt 31, 3) := by decide +kernel
theorem eX1_fewestSkipBlocks_32 : decode MX1_fewestSkipBlocks.2.1 32 = .ok (.aload_n 0, 1) := by decide +kernel
theorem eX1_fewestSkipBlocks_33 : decode MX1_fewestSkipBlocks.2.1 33 = .ok (.iload_n 3, 1) := by decide +kernel
theorem eX1_fewestSkipBlocks_34 : decode MX1_fewestSkipBlocks.2.1 34 = .ok (.iload_n 1, 1) := by decide +kernel
theorem eX1_fewestSkipBlocks_35 : decode MX1_fewestSkipBlocks.2.1 35 = .ok (.invokevirtual 50, 3) := by decide +kernel
theorem eX1_fewestSkipBlocks_38 : decode MX1_fewestSkipBlocks.2.1 38 = .ok (.aload_n 0, 1) := by decide +kernel
theorem eX1_fewestSkipBlocks_39 : decode MX1_fewestSkipBlocks.2.1 39 = .ok (.iload_n 3, 1) := by decide +kernel
theorem eX1_fewestSkipBlocks_40 : decode MX1_fewestSkipBlocks.2.1 40 = .ok (.iload_n 1, 1) := by decide +kernel
theorem eX1_fewestSkipBlocks_41 : decode MX1_fewestSkipBlocks.2.1 41 = .ok (.invokevirtual 54, 3) := by decide +kernel
theorem eX1_fewestSkipBlocks_44 : decode MX1_fewestSkipBlocks.2.1 44 = .ok (.aload_n 0, 1) := by decide +kernel
theorem eX1_fewestSkipBlocks_45 : decode MX1_fewestSkipBlocks.2.1 45 = .ok (.getfield 32, 3) := by decide +kernel
theorem eX1_fewestSkipBlocks_48 : decode MX1_fewestSkipBlocks.2.1 48 = .ok (.ineg, 1) := by decide +kernel
theorem eX1_fewestSkipBlocks_49 : decode MX1_fewestSkipBlocks.2.1 49 = .ok (.if_icmp .lt 5, 3) := by decide +kernel
theorem eX1_fewestSkipBlocks_52 : decode MX1_fewestSkipBlocks.2.1 52 = .ok (.iload_n 3, 1) := by decide +kernel
theorem eX1_fewestSkipBlocks_53 : decode MX1_fewestSkipBlocks.2.1 53 = .ok (.ireturn, 1) := by decide +kernel
theorem eX1_fewestSkipBlocks_54 : decode MX1_fewestSkipBlocks.2.1 54 = .ok (.iinc 3 1, 3) := by decide +kernel
theorem eX1_fewestSkipBlocks_57 : decode MX1_fewestSkipBlocks.2.1 57 = .ok (.goto (-45), 3) := by decide +kernel
theorem eX1_fewestSkipBlocks_60 : decode MX1_fewestSkipBlocks.2.1 60 = .ok (.iconst 0, 1) := by decide +kernel
theorem eX1_fewestSkipBlocks_61 : decode MX1_fewestSkipBlocks.2.1 61 = .ok (.ireturn, 1) := by decide +kernel
set_option maxRecDepth 20000 in
theorem bX1_fewestSkipBlocks_0 {d : Nat} {Q : Option Value → St → Prop} (x1 : Int32) (x2 : Int32) (σ : St) 
    (k1 : Ct yX1_allowNoBlocks MX1_allowNoBlocks (d + 2) [.ref 24, .int x1] (sA σ 24 (upd (σ.1 24) 2 x2)) (fun v σ1 => Run MX1_fewestSkipBlocks (d + 3) 10 [some (.ref 24), some (.int x1), some (.int x2), none] (v.toList ++ []) σ1 Q))
    : Run MX1_fewestSkipBlocks (d + 3) 0 [some (.ref 24), some (.int x1), some (.int x2), none] [] σ Q := by
  refine (go_aload_n 0 eX1_fewestSkipBlocks_0 rfl rfl).run ?_
  refine (go_iload_n 2 eX1_fewestSkipBlocks_1 rfl rfl).run ?_
  refine (go_puti flX1_43 rf_1_2 rfl pf_1_2 rfl rfl kd_24 eX1_fewestSkipBlocks_2).run ?_
  refine (go_aload_n 0 eX1_fewestSkipBlocks_5 rfl rfl).run ?_
  refine (go_iload_n 1 eX1_fewestSkipBlocks_6 rfl rfl).run ?_
  exact Run.callV (d := (d + 2)) (As := [.int x1]) mX1_allowNoBlocks lkX1_46 kd_24 (by decide) rfl rfl rfl rfl rfl (Nat.le_of_ble_eq_true rfl) eX1_fewestSkipBlocks_7 k1

set_option maxRecDepth 20000 in
theorem bX1_fewestSkipBlocks_10 {d : Nat} {Q : Option Value → St → Prop} (x1 : Int32) (x2 : Int32) (σ : St) 
    (k1 : Run MX1_fewestSkipBlocks (d + 3) 12 [some (.ref 24), some (.int x1), some (.int x2), some (.int 1)] [] σ Q)
    : Run MX1_fewestSkipBlocks (d + 3) 10 [some (.ref 24), some (.int x1), some (.int x2), none] [] σ Q := by
  refine (go_iconst (v := 1) eX1_fewestSkipBlocks_10 rfl).run ?_
  refine (go_istore_n 3 (L' := [some (.ref 24), some (.int x1), some (.int x2), some (.int 1)]) eX1_fewestSkipBlocks_11 rfl (Nat.le_of_ble_eq_true rfl) rfl).run ?_
  exact k1

set_option maxRecDepth 20000 in
theorem bX1_fewestSkipBlocks_12 {d : Nat} {Q : Option Value → St → Prop} (x1 : Int32) (x2 : Int32) (x3 : Int32) (σ : St) 
    (k1 : (12 : Int32) < x3 → Q (some (.int 0)) σ)
    (k2 : x3 ≤ 12 → x2 < ((1 : Int32) + ((σ.1 24 1) * (x3 - 2))) → Q (some (.int 0)) σ)
    (k3 : x3 ≤ 12 → ((1 : Int32) + ((σ.1 24 1) * (x3 - 2))) ≤ x2 → Ct yX1_allowBlocks MX1_allowBlocks (d + 2) [.ref 24, .int x3, .int x1] σ (fun v σ1 => Run MX1_fewestSkipBlocks (d + 3) 38 [some (.ref 24), some (.int x1), some (.int x2), some (.int x3)] (v.toList ++ []) σ1 Q))
    : Run MX1_fewestSkipBlocks (d + 3) 12 [some (.ref 24), some (.int x1), some (.int x2), some (.int x3)] [] σ Q := by
  refine (go_iload_n 3 eX1_fewestSkipBlocks_12 rfl rfl).run ?_
  refine (go_bipush (v := 12) eX1_fewestSkipBlocks_13 rfl).run ?_
  refine (bi_gt 60 eX1_fewestSkipBlocks_15 rfl).run (fun h1 => ?_) (fun h1 => ?_)
  · refine (go_iconst (v := 0) eX1_fewestSkipBlocks_60 rfl).run ?_
    exact Run.ret (v := some (.int 0)) (k1 h1) ⟨Or.inl rfl, eX1_fewestSkipBlocks_61⟩ rfl
  · refine (go_iconst (v := 1) eX1_fewestSkipBlocks_18 rfl).run ?_
    refine (go_aload_n 0 eX1_fewestSkipBlocks_19 rfl rfl).run ?_
    refine (go_geti flX1_32 rf_1_1 kd_24 eX1_fewestSkipBlocks_20).run ?_
    refine (go_iload_n 3 eX1_fewestSkipBlocks_23 rfl rfl).run ?_
    refine (go_iconst (v := 2) eX1_fewestSkipBlocks_24 rfl).run ?_
    refine (go_isub eX1_fewestSkipBlocks_25).run ?_
    refine (go_imul eX1_fewestSkipBlocks_26).run ?_
    refine (go_iadd eX1_fewestSkipBlocks_27).run ?_
    refine (go_iload_n 2 eX1_fewestSkipBlocks_28 rfl rfl).run ?_
    refine (bi_gt 60 eX1_fewestSkipBlocks_29 rfl).run (fun h2 => ?_) (fun h2 => ?_)
    · refine (go_iconst (v := 0) eX1_fewestSkipBlocks_60 rfl).run ?_
      exact Run.ret (v := some (.int 0)) (k2 h1 h2) ⟨Or.inl rfl, eX1_fewestSkipBlocks_61⟩ rfl
    · refine (go_aload_n 0 eX1_fewestSkipBlocks_32 rfl rfl).run ?_
      refine (go_iload_n 3 eX1_fewestSkipBlocks_33 rfl rfl).run ?_
      refine (go_iload_n 1 eX1_fewestSkipBlocks_34 rfl rfl).run ?_
      exact Run.callV (d := (d + 2)) (As := [.int x3, .int x1]) mX1_allowBlocks lkX1_50 kd_24 (by decide) rfl rfl rfl rfl rfl (Nat.le_of_ble_eq_true rfl) eX1_fewestSkipBlocks_35 (k3 h1 h2)

set_option maxRecDepth 20000 in
theorem bX1_fewestSkipBlocks_38 {d : Nat} {Q : Option Value → St → Prop} (x1 : Int32) (x2 : Int32) (x3 : Int32) (σ : St) 
    (k1 : (((aG 25 ((x3 * 33) + x1) σ))) < (-(σ.1 24 1)) → Run MX1_fewestSkipBlocks (d + 3) 12 [some (.ref 24), some (.int x1), some (.int x2), some (.int (x3 + 1))] [] σ Q)
    (k2 : (-(σ.1 24 1)) ≤ (((aG 25 ((x3 * 33) + x1) σ))) → Q (some (.int x3)) σ)
    : Run MX1_fewestSkipBlocks (d + 3) 38 [some (.ref 24), some (.int x1), some (.int x2), some (.int x3)] [] σ Q := by
  refine (go_aload_n 0 eX1_fewestSkipBlocks_38 rfl rfl).run ?_
  refine (go_iload_n 3 eX1_fewestSkipBlocks_39 rfl rfl).run ?_
  refine (go_iload_n 1 eX1_fewestSkipBlocks_40 rfl rfl).run ?_
  refine Run.callV1 (d := (d + 2)) (As := [.int x3, .int x1]) (r := .int (((aG 25 ((x3 * 33) + x1) σ)))) mX1_wayAllowed lkX1_54 kd_24 (by decide) rfl rfl rfl rfl rfl (Nat.le_of_ble_eq_true rfl) eX1_fewestSkipBlocks_41 (qX1_wayAllowed (d + 1) x3 x1 σ  ) ?_
  refine (go_aload_n 0 eX1_fewestSkipBlocks_44 rfl rfl).run ?_
  refine (go_geti flX1_32 rf_1_1 kd_24 eX1_fewestSkipBlocks_45).run ?_
  refine (go_ineg eX1_fewestSkipBlocks_48).run ?_
  refine (bi_lt 54 eX1_fewestSkipBlocks_49 rfl).run (fun h1 => ?_) (fun h1 => ?_)
  · refine (go_iinc 3 (v := (x3 + 1)) (L' := [some (.ref 24), some (.int x1), some (.int x2), some (.int (x3 + 1))]) eX1_fewestSkipBlocks_54 rfl rfl (Nat.le_of_ble_eq_true rfl) rfl).run ?_
    refine (go_goto 12 eX1_fewestSkipBlocks_57 rfl).run ?_
    exact (k1 h1)
  · refine (go_iload_n 3 eX1_fewestSkipBlocks_52 rfl rfl).run ?_
    exact Run.ret (v := some (.int x3)) (k2 h1) ⟨Or.inl rfl, eX1_fewestSkipBlocks_53⟩ rfl

/-! CarryNets$Blocks.leastSkipSize -/
theorem eX1_leastSkipSize_0 : decode MX1_leastSkipSize.2.1 0 = .ok (.iconst 1, 1) := by decide +kernel
theorem eX1_leastSkipSize_1 : decode MX1_leastSkipSize.2.1 1 = .ok (.istore 4, 2) := by decide +kernel
theorem eX1_leastSkipSize_3 : decode MX1_leastSkipSize.2.1 3 = .ok (.iload 4, 2) := by decide +kernel
theorem eX1_leastSkipSize_5 : decode MX1_leastSkipSize.2.1 5 = .ok (.aload_n 0, 1) := by decide +kernel
theorem eX1_leastSkipSize_6 : decode MX1_leastSkipSize.2.1 6 = .ok (.iload_n 2, 1) := by decide +kernel
theorem eX1_leastSkipSize_7 : decode MX1_leastSkipSize.2.1 7 = .ok (.invokevirtual 61, 3) := by decide +kernel
theorem eX1_leastSkipSize_10 : decode MX1_leastSkipSize.2.1 10 = .ok (.if_icmp .gt 62, 3) := by decide +kernel
theorem eX1_leastSkipSize_13 : decode MX1_leastSkipSize.2.1 13 = .ok (.iload 4, 2) := by decide +kernel
theorem eX1_leastSkipSize_15 : decode MX1_leastSkipSize.2.1 15 = .ok (.iload_n 3, 1) := by decide +kernel
theorem eX1_leastSkipSize_16 : decode MX1_leastSkipSize.2.1 16 = .ok (.iadd, 1) := by decide +kernel
theorem eX1_leastSkipSize_17 : decode MX1_leastSkipSize.2.1 17 = .ok (.iconst 1, 1) := by decide +kernel
theorem eX1_leastSkipSize_18 : decode MX1_leastSkipSize.2.1 18 = .ok (.isub, 1) := by decide +kernel
theorem eX1_leastSkipSize_19 : decode MX1_leastSkipSize.2.1 19 = .ok (.aload_n 0, 1) := by decide +kernel
theorem eX1_leastSkipSize_20 : decode MX1_leastSkipSize.2.1 20 = .ok (.getfield 43, 3) := by decide +kernel
theorem eX1_leastSkipSize_23 : decode MX1_leastSkipSize.2.1 23 = .ok (.if_icmp .gt 7, 3) := by decide +kernel
theorem eX1_leastSkipSize_26 : decode MX1_leastSkipSize.2.1 26 = .ok (.iconst 1, 1) := by decide +kernel
theorem eX1_leastSkipSize_27 : decode MX1_leastSkipSize.2.1 27 = .ok (.goto 4, 3) := by decide +kernel
theorem eX1_leastSkipSize_30 : decode MX1_leastSkipSize.2.1 30 = .ok (.iconst 0, 1) := by decide +kernel
theorem eX1_leastSkipSize_31 : decode MX1_leastSkipSize.2.1 31 = .ok (.istore 5, 2) := by decide +kernel
theorem eX1_leastSkipSize_33 : decode MX1_leastSkipSize.2.1 33 = .ok (.iload 5, 2) := by decide +kernel
theorem eX1_leastSkipSize_35 : decode MX1_leastSkipSize.2.1 35 = .ok (.ifCond .eq 31, 3) := by decide +kernel
theorem eX1_leastSkipSize_38 : decode MX1_leastSkipSize.2.1 38 = .ok (.iload_n 3, 1) := by decide +kernel
theorem eX1_leastSkipSize_39 : decode MX1_leastSkipSize.2.1 39 = .ok (.aload_n 0, 1) := by decide +kernel
theorem eX1_leastSkipSize_40 : decode MX1_leastSkipSize.2.1 40 = .ok (.getfield 32, 3) := by decide +kernel
theorem eX1_leastSkipSize_43 : decode MX1_leastSkipSize.2.1 43 = .ok (.iadd, 1) := by decide +kernel
theorem eX1_leastSkipSize_44 : decode MX1_leastSkipSize.2.1 44 = .ok (.iload 4, 2) := by decide +kernel
theorem eX1_leastSkipSize_46 : decode MX1_leastSkipSize.2.1 46 = .ok (.invokestatic 26, 3) := by decide +kernel
theorem eX1_leastSkipSize_49 : decode MX1_leastSkipSize.2.1 49 = .ok (.aload_n 0, 1) := by decide +kernel
theorem eX1_leastSkipSize_50 : decode MX1_leastSkipSize.2.1 50 = .ok (.iload_n 1, 1) := by decide +kernel
theorem eX1_leastSkipSize_51 : decode MX1_leastSkipSize.2.1 51 = .ok (.iconst 1, 1) := by decide +kernel
theorem eX1_leastSkipSize_52 : decode MX1_leastSkipSize.2.1 52 = .ok (.isub, 1) := by decide +kernel
theorem eX1_leastSkipSize_53 : decode MX1_leastSkipSize.2.1 53 = .ok (.iload_n 2, 1) := by decide +kernel
theorem eX1_leastSkipSize_54 : decode MX1_leastSkipSize.2.1 54 = .ok (.iload 4, 2) := by decide +kernel
theorem eX1_leastSkipSize_56 : decode MX1_leastSkipSize.2.1 56 = .ok (.isub, 1) := by decide +kernel
theorem eX1_leastSkipSize_57 : decode MX1_leastSkipSize.2.1 57 = .ok (.invokevirtual 54, 3) := by decide +kernel
theorem eX1_leastSkipSize_60 : decode MX1_leastSkipSize.2.1 60 = .ok (.if_icmp .gt 6, 3) := by decide +kernel
theorem eX1_leastSkipSize_63 : decode MX1_leastSkipSize.2.1 63 = .ok (.iload 4, 2) := by decide +kernel
theorem eX1_leastSkipSize_65 : decode MX1_leastSkipSize.2.1 65 = .ok (.ireturn, 1) := by decide +kernel
theorem eX1_leastSkipSize_66 : decode MX1_leastSkipSize.2.1 66 = .ok (.iinc 4 1, 3) := by decide +kernel
theorem eX1_leastSkipSize_69 : decode MX1_leastSkipSize.2.1 69 = .ok (.goto (-66), 3) := by decide +kernel
theorem eX1_leastSkipSize_72 : decode MX1_leastSkipSize.2.1 72 = .ok (.iconst 0, 1) := by decide +kernel
theorem eX1_leastSkipSize_73 : decode MX1_leastSkipSize.2.1 73 = .ok (.ireturn, 1) := by decide +kernel
set_option maxRecDepth 20000 in
theorem bX1_leastSkipSize_0 {d : Nat} {Q : Option Value → St → Prop} (x1 : Int32) (x2 : Int32) (x3 : Int32) (σ : St) 
    (k1 : Run MX1_leastSkipSize (d + 2) 3 [some (.ref 24), some (.int x1), some (.int x2), some (.int x3), some (.int 1), none] [] σ Q)
    : Run MX1_leastSkipSize (d + 2) 0 [some (.ref 24), some (.int x1), some (.int x2), some (.int x3), none, none] [] σ Q := by
  refine (go_iconst (v := 1) eX1_leastSkipSize_0 rfl).run ?_
  refine (go_istore 4 (L' := [some (.ref 24), some (.int x1), some (.int x2), some (.int x3), some (.int 1), none]) eX1_leastSkipSize_1 (Nat.le_of_ble_eq_true rfl) rfl).run ?_
  exact k1

set_option maxRecDepth 20000 in
theorem bX1_leastSkipSize_3 {d : Nat} {Q : Option Value → St → Prop} (x1 : Int32) (x2 : Int32) (x3 : Int32) (x4 : Int32) (σ : St) 
    (k1 : ((mnI x2 (mnI (σ.1 24 2) 15))) < x4 → Q (some (.int 0)) σ)
    (k2 : x4 ≤ ((mnI x2 (mnI (σ.1 24 2) 15))) → ¬ (((x4 + x3) - 1) ≤ (σ.1 24 2)) → Run MX1_leastSkipSize (d + 2) 3 [some (.ref 24), some (.int x1), some (.int x2), some (.int x3), some (.int (x4 + 1)), none] [] σ Q)
    (k3 : x4 ≤ ((mnI x2 (mnI (σ.1 24 2) 15))) → ((x4 + x3) - 1) ≤ (σ.1 24 2) → (((aG 25 (((x1 - 1) * 33) + (x2 - x4)) σ))) < (mxI (x3 + (σ.1 24 1)) x4) → Run MX1_leastSkipSize (d + 2) 3 [some (.ref 24), some (.int x1), some (.int x2), some (.int x3), some (.int (x4 + 1)), none] [] σ Q)
    (k4 : x4 ≤ ((mnI x2 (mnI (σ.1 24 2) 15))) → ((x4 + x3) - 1) ≤ (σ.1 24 2) → (mxI (x3 + (σ.1 24 1)) x4) ≤ (((aG 25 (((x1 - 1) * 33) + (x2 - x4)) σ))) → Q (some (.int x4)) σ)
    : Run MX1_leastSkipSize (d + 2) 3 [some (.ref 24), some (.int x1), some (.int x2), some (.int x3), some (.int x4), none] [] σ Q := by
  refine (go_iload 4 eX1_leastSkipSize_3 rfl).run ?_
  refine (go_aload_n 0 eX1_leastSkipSize_5 rfl rfl).run ?_
  refine (go_iload_n 2 eX1_leastSkipSize_6 rfl rfl).run ?_
  refine Run.callV1 (d := (d + 1)) (As := [.int x2]) (r := .int ((mnI x2 (mnI (σ.1 24 2) 15)))) mX1_greatestSize lkX1_61 kd_24 (by decide) rfl rfl rfl rfl rfl (Nat.le_of_ble_eq_true rfl) eX1_leastSkipSize_7 (qX1_greatestSize d x2 σ  ) ?_
  refine (bi_gt 72 eX1_leastSkipSize_10 rfl).run (fun h1 => ?_) (fun h1 => ?_)
  · refine (go_iconst (v := 0) eX1_leastSkipSize_72 rfl).run ?_
    exact Run.ret (v := some (.int 0)) (k1 h1) ⟨Or.inl rfl, eX1_leastSkipSize_73⟩ rfl
  · refine (go_iload 4 eX1_leastSkipSize_13 rfl).run ?_
    refine (go_iload_n 3 eX1_leastSkipSize_15 rfl rfl).run ?_
    refine (go_iadd eX1_leastSkipSize_16).run ?_
    refine (go_iconst (v := 1) eX1_leastSkipSize_17 rfl).run ?_
    refine (go_isub eX1_leastSkipSize_18).run ?_
    refine (go_aload_n 0 eX1_leastSkipSize_19 rfl rfl).run ?_
    refine (go_geti flX1_43 rf_1_2 kd_24 eX1_leastSkipSize_20).run ?_
    have hJh2 : Run MX1_leastSkipSize (d + 2) 31 [some (.ref 24), some (.int x1), some (.int x2), some (.int x3), some (.int x4), none] [.int (bI (((x4 + x3) - 1) ≤ (σ.1 24 2)))] σ Q := by
      refine (go_istore 5 (L' := [some (.ref 24), some (.int x1), some (.int x2), some (.int x3), some (.int x4), some (.int (bI (((x4 + x3) - 1) ≤ (σ.1 24 2))))]) eX1_leastSkipSize_31 (Nat.le_of_ble_eq_true rfl) rfl).run ?_
      refine (go_iload 5 eX1_leastSkipSize_33 rfl).run ?_
      refine (br_ifeq_b 66 eX1_leastSkipSize_35 rfl).run (fun h3 => ?_) (fun h3 => ?_)
      · refine (go_iinc 4 (v := (x4 + 1)) (L' := [some (.ref 24), some (.int x1), some (.int x2), some (.int x3), some (.int (x4 + 1)), some (.int (bI (((x4 + x3) - 1) ≤ (σ.1 24 2))))]) eX1_leastSkipSize_66 rfl rfl (Nat.le_of_ble_eq_true rfl) rfl).run ?_
        refine (go_goto 3 eX1_leastSkipSize_69 rfl).run ?_
        refine (go_sub (L' := [some (.ref 24), some (.int x1), some (.int x2), some (.int x3), some (.int (x4 + 1)), none]) (lsub_keep (lsub_keep (lsub_keep (lsub_keep (lsub_keep (lsub_drop lsub_nil))))))).run ?_
        exact (k2 h1 h3)
      · refine (go_iload_n 3 eX1_leastSkipSize_38 rfl rfl).run ?_
        refine (go_aload_n 0 eX1_leastSkipSize_39 rfl rfl).run ?_
        refine (go_geti flX1_32 rf_1_1 kd_24 eX1_leastSkipSize_40).run ?_
        refine (go_iadd eX1_leastSkipSize_43).run ?_
        refine (go_iload 4 eX1_leastSkipSize_44 rfl).run ?_
        refine (go_maxN mm_ok lkX1_26 rfl (Nat.le_of_ble_eq_true rfl) (by omega) eX1_leastSkipSize_46).run ?_
        refine (go_aload_n 0 eX1_leastSkipSize_49 rfl rfl).run ?_
        refine (go_iload_n 1 eX1_leastSkipSize_50 rfl rfl).run ?_
        refine (go_iconst (v := 1) eX1_leastSkipSize_51 rfl).run ?_
        refine (go_isub eX1_leastSkipSize_52).run ?_
        refine (go_iload_n 2 eX1_leastSkipSize_53 rfl rfl).run ?_
        refine (go_iload 4 eX1_leastSkipSize_54 rfl).run ?_
        refine (go_isub eX1_leastSkipSize_56).run ?_
        refine Run.callV1 (d := (d + 1)) (As := [.int (x1 - 1), .int (x2 - x4)]) (r := .int (((aG 25 (((x1 - 1) * 33) + (x2 - x4)) σ)))) mX1_wayAllowed lkX1_54 kd_24 (by decide) rfl rfl rfl rfl rfl (Nat.le_of_ble_eq_true rfl) eX1_leastSkipSize_57 (qX1_wayAllowed d (x1 - 1) (x2 - x4) σ  ) ?_
        refine (bi_gt 66 eX1_leastSkipSize_60 rfl).run (fun h4 => ?_) (fun h4 => ?_)
        · refine (go_iinc 4 (v := (x4 + 1)) (L' := [some (.ref 24), some (.int x1), some (.int x2), some (.int x3), some (.int (x4 + 1)), some (.int (bI (((x4 + x3) - 1) ≤ (σ.1 24 2))))]) eX1_leastSkipSize_66 rfl rfl (Nat.le_of_ble_eq_true rfl) rfl).run ?_
          refine (go_goto 3 eX1_leastSkipSize_69 rfl).run ?_
          refine (go_sub (L' := [some (.ref 24), some (.int x1), some (.int x2), some (.int x3), some (.int (x4 + 1)), none]) (lsub_keep (lsub_keep (lsub_keep (lsub_keep (lsub_keep (lsub_drop lsub_nil))))))).run ?_
          exact (k3 h1 h3 h4)
        · refine (go_iload 4 eX1_leastSkipSize_63 rfl).run ?_
          exact Run.ret (v := some (.int x4)) (k4 h1 h3 h4) ⟨Or.inl rfl, eX1_leastSkipSize_65⟩ rfl
    refine (bi_gt 30 eX1_leastSkipSize_23 rfl).run (fun h2 => ?_) (fun h2 => ?_)
    · refine (go_iconst (v := 0) eX1_leastSkipSize_30 rfl).run ?_
      first | exact hJh2 | (simp only [if_pos h2] at hJh2; exact hJh2) | (simp only [eq_true h2, eq_false (i32_nle.mpr h2), true_and, and_true, false_and, and_false, true_or, or_true, false_or, or_false, not_true_eq_false, not_false_eq_true] at hJh2; exact hJh2) | exact Run.eq (by simp [eq_true h2, eq_false (i32_nle.mpr h2), bI]) (by simp [eq_true h2, eq_false (i32_nle.mpr h2), bI]) rfl hJh2
    · refine (go_iconst (v := 1) eX1_leastSkipSize_26 rfl).run ?_
      refine (go_goto 31 eX1_leastSkipSize_27 rfl).run ?_
      first | exact hJh2 | (simp only [if_neg (i32_nlt.mpr h2)] at hJh2; exact hJh2) | (simp only [eq_true h2, eq_false (i32_nlt.mpr h2), true_and, and_true, false_and, and_false, true_or, or_true, false_or, or_false, not_true_eq_false, not_false_eq_true] at hJh2; exact hJh2) | exact Run.eq (by simp [eq_true h2, eq_false (i32_nlt.mpr h2), bI]) (by simp [eq_true h2, eq_false (i32_nlt.mpr h2), bI]) rfl hJh2

/-! CarryNets$Blocks.leastSkipFigures -/
theorem eX1_leastSkipFigures_0 : decode MX1_leastSkipFigures.2.1 0 = .ok (.lconst 0, 1) := by decide +kernel
theorem eX1_leastSkipFigures_1 : decode MX1_leastSkipFigures.2.1 1 = .ok (.lstore_n 3, 1) := by decide +kernel
theorem eX1_leastSkipFigures_2 : decode MX1_leastSkipFigures.2.1 2 = .ok (.iload_n 2, 1) := by decide +kernel
theorem eX1_leastSkipFigures_3 : decode MX1_leastSkipFigures.2.1 3 = .ok (.istore 5, 2) := by decide +kernel
theorem eX1_leastSkipFigures_5 : decode MX1_leastSkipFigures.2.1 5 = .ok (.aload_n 0, 1) := by decide +kernel
theorem eX1_leastSkipFigures_6 : decode MX1_leastSkipFigures.2.1 6 = .ok (.getfield 32, 3) := by decide +kernel
theorem eX1_leastSkipFigures_9 : decode MX1_leastSkipFigures.2.1 9 = .ok (.ineg, 1) := by decide +kernel
theorem eX1_leastSkipFigures_10 : decode MX1_leastSkipFigures.2.1 10 = .ok (.istore 6, 2) := by decide +kernel
theorem eX1_leastSkipFigures_12 : decode MX1_leastSkipFigures.2.1 12 = .ok (.iload_n 1, 1) := by decide +kernel
theorem eX1_leastSkipFigures_13 : decode MX1_leastSkipFigures.2.1 13 = .ok (.istore 7, 2) := by decide +kernel
theorem eX1_leastSkipFigures_15 : decode MX1_leastSkipFigures.2.1 15 = .ok (.iload 7, 2) := by decide +kernel
theorem eX1_leastSkipFigures_17 : decode MX1_leastSkipFigures.2.1 17 = .ok (.ifCond .le 50, 3) := by decide +kernel
theorem eX1_leastSkipFigures_20 : decode MX1_leastSkipFigures.2.1 20 = .ok (.aload_n 0, 1) := by decide +kernel
theorem eX1_leastSkipFigures_21 : decode MX1_leastSkipFigures.2.1 21 = .ok (.iload 7, 2) := by decide +kernel
theorem eX1_leastSkipFigures_23 : decode MX1_leastSkipFigures.2.1 23 = .ok (.iload 5, 2) := by decide +kernel
theorem eX1_leastSkipFigures_25 : decode MX1_leastSkipFigures.2.1 25 = .ok (.iload 6, 2) := by decide +kernel
theorem eX1_leastSkipFigures_27 : decode MX1_leastSkipFigures.2.1 27 = .ok (.invokevirtual 68, 3) := by decide +kernel
theorem eX1_leastSkipFigures_30 : decode MX1_leastSkipFigures.2.1 30 = .ok (.istore 8, 2) := by decide +kernel
theorem eX1_leastSkipFigures_32 : decode MX1_leastSkipFigures.2.1 32 = .ok (.lload_n 3, 1) := by decide +kernel
theorem eX1_leastSkipFigures_33 : decode MX1_leastSkipFigures.2.1 33 = .ok (.iconst 4, 1) := by decide +kernel
theorem eX1_leastSkipFigures_34 : decode MX1_leastSkipFigures.2.1 34 = .ok (.lshl, 1) := by decide +kernel
theorem eX1_leastSkipFigures_35 : decode MX1_leastSkipFigures.2.1 35 = .ok (.iload 8, 2) := by decide +kernel
theorem eX1_leastSkipFigures_37 : decode MX1_leastSkipFigures.2.1 37 = .ok (.i2l, 1) := by decide +kernel
theorem eX1_leastSkipFigures_38 : decode MX1_leastSkipFigures.2.1 38 = .ok (.lor, 1) := by decide +kernel
theorem eX1_leastSkipFigures_39 : decode MX1_leastSkipFigures.2.1 39 = .ok (.lstore_n 3, 1) := by decide +kernel
theorem eX1_leastSkipFigures_40 : decode MX1_leastSkipFigures.2.1 40 = .ok (.iload 5, 2) := by decide +kernel
theorem eX1_leastSkipFigures_42 : decode MX1_leastSkipFigures.2.1 42 = .ok (.iload 8, 2) := by decide +kernel
theorem eX1_leastSkipFigures_44 : decode MX1_leastSkipFigures.2.1 44 = .ok (.isub, 1) := by decide +kernel
theorem eX1_leastSkipFigures_45 : decode MX1_leastSkipFigures.2.1 45 = .ok (.istore 5, 2) := by decide +kernel
theorem eX1_leastSkipFigures_47 : decode MX1_leastSkipFigures.2.1 47 = .ok (.iload 6, 2) := by decide +kernel
theorem eX1_leastSkipFigures_49 : decode MX1_leastSkipFigures.2.1 49 = .ok (.aload_n 0, 1) := by decide +kernel
theorem eX1_leastSkipFigures_50 : decode MX1_leastSkipFigures.2.1 50 = .ok (.getfield 32, 3) := by decide +kernel
theorem eX1_leastSkipFigures_53 : decode MX1_leastSkipFigures.2.1 53 = .ok (.iadd, 1) := by decide +kernel
theorem eX1_leastSkipFigures_54 : decode MX1_leastSkipFigures.2.1 54 = .ok (.iload 8, 2) := by decide +kernel
theorem eX1_leastSkipFigures_56 : decode MX1_leastSkipFigures.2.1 56 = .ok (.invokestatic 26, 3) := by decide +kernel
theorem eX1_leastSkipFigures_59 : decode MX1_leastSkipFigures.2.1 59 = .ok (.istore 6, 2) := by decide +kernel
theorem eX1_leastSkipFigures_61 : decode MX1_leastSkipFigures.2.1 61 = .ok (.iinc 7 (-1), 3) := by decide +kernel
theorem eX1_leastSkipFigures_64 : decode MX1_leastSkipFigures.2.1 64 = .ok (.goto (-49), 3) := by decide +kernel
theorem eX1_leastSkipFigures_67 : decode MX1_leastSkipFigures.2.1 67 = .ok (.lload_n 3, 1) := by decide +kernel
theorem eX1_leastSkipFigures_68 : decode MX1_leastSkipFigures.2.1 68 = .ok (.lreturn, 1) := by decide +kernel
set_option maxRecDepth 20000 in
theorem bX1_leastSkipFigures_0 {d : Nat} {Q : Option Value → St → Prop} (x1 : Int32) (x2 : Int32) (σ : St) 
    (k1 : Run MX1_leastSkipFigures (d + 3) 15 [some (.ref 24), none, none, some (.long 0), none, some (.int x2), some (.int (-(σ.1 24 1))), some (.int x1), none] [] σ Q)
    : Run MX1_leastSkipFigures (d + 3) 0 [some (.ref 24), some (.int x1), some (.int x2), none, none, none, none, none, none] [] σ Q := by
  refine (go_lconst (v := 0) eX1_leastSkipFigures_0 rfl).run ?_
  refine (go_lstore_n 3 (L' := [some (.ref 24), some (.int x1), some (.int x2), some (.long 0), none, none, none, none, none]) eX1_leastSkipFigures_1 rfl (Nat.le_of_ble_eq_true rfl) rfl).run ?_
  refine (go_iload_n 2 eX1_leastSkipFigures_2 rfl rfl).run ?_
  refine (go_istore 5 (L' := [some (.ref 24), some (.int x1), some (.int x2), some (.long 0), none, some (.int x2), none, none, none]) eX1_leastSkipFigures_3 (Nat.le_of_ble_eq_true rfl) rfl).run ?_
  refine (go_aload_n 0 eX1_leastSkipFigures_5 rfl rfl).run ?_
  refine (go_geti flX1_32 rf_1_1 kd_24 eX1_leastSkipFigures_6).run ?_
  refine (go_ineg eX1_leastSkipFigures_9).run ?_
  refine (go_istore 6 (L' := [some (.ref 24), some (.int x1), some (.int x2), some (.long 0), none, some (.int x2), some (.int (-(σ.1 24 1))), none, none]) eX1_leastSkipFigures_10 (Nat.le_of_ble_eq_true rfl) rfl).run ?_
  refine (go_iload_n 1 eX1_leastSkipFigures_12 rfl rfl).run ?_
  refine (go_istore 7 (L' := [some (.ref 24), some (.int x1), some (.int x2), some (.long 0), none, some (.int x2), some (.int (-(σ.1 24 1))), some (.int x1), none]) eX1_leastSkipFigures_13 (Nat.le_of_ble_eq_true rfl) rfl).run ?_
  refine (go_sub (L' := [some (.ref 24), none, none, some (.long 0), none, some (.int x2), some (.int (-(σ.1 24 1))), some (.int x1), none]) (lsub_keep (lsub_drop (lsub_drop (lsub_keep (lsub_keep (lsub_keep (lsub_keep (lsub_keep (lsub_keep lsub_nil)))))))))).run ?_
  exact k1

set_option maxRecDepth 20000 in
theorem bX1_leastSkipFigures_15 {d : Nat} {Q : Option Value → St → Prop} (x3 : Int64) (x5 : Int32) (x6 : Int32) (x7 : Int32) (σ : St) 
    (k1 : x7 ≤ 0 → Q (some (.long x3)) σ)
    (k2 : (0 : Int32) < x7 → Ct yX1_leastSkipSize MX1_leastSkipSize (d + 2) [.ref 24, .int x7, .int x5, .int x6] σ (fun v σ1 => Run MX1_leastSkipFigures (d + 3) 30 [some (.ref 24), none, none, some (.long x3), none, some (.int x5), some (.int x6), some (.int x7), none] (v.toList ++ []) σ1 Q))
    : Run MX1_leastSkipFigures (d + 3) 15 [some (.ref 24), none, none, some (.long x3), none, some (.int x5), some (.int x6), some (.int x7), none] [] σ Q := by
  refine (go_iload 7 eX1_leastSkipFigures_15 rfl).run ?_
  refine (bz_le 67 eX1_leastSkipFigures_17 rfl).run (fun h1 => ?_) (fun h1 => ?_)
  · refine (go_lload_n 3 eX1_leastSkipFigures_67 rfl rfl).run ?_
    exact Run.ret (v := some (.long x3)) (k1 h1) ⟨rfl, eX1_leastSkipFigures_68⟩ rfl
  · refine (go_aload_n 0 eX1_leastSkipFigures_20 rfl rfl).run ?_
    refine (go_iload 7 eX1_leastSkipFigures_21 rfl).run ?_
    refine (go_iload 5 eX1_leastSkipFigures_23 rfl).run ?_
    refine (go_iload 6 eX1_leastSkipFigures_25 rfl).run ?_
    exact Run.callV (d := (d + 2)) (As := [.int x7, .int x5, .int x6]) mX1_leastSkipSize lkX1_68 kd_24 (by decide) rfl rfl rfl rfl rfl (Nat.le_of_ble_eq_true rfl) eX1_leastSkipFigures_27 (k2 h1)

set_option maxRecDepth 20000 in
theorem bX1_leastSkipFigures_30 {d : Nat} {Q : Option Value → St → Prop} (x3 : Int64) (x5 : Int32) (x6 : Int32) (x7 : Int32) (s0 : Int32) (σ : St) 
    (k1 : Run MX1_leastSkipFigures (d + 3) 15 [some (.ref 24), none, none, some (.long ((x3 <<< ((4 : Int32).toInt64 &&& 63)) ||| s0.toInt64)), none, some (.int (x5 - s0)), some (.int (mxI (x6 + (σ.1 24 1)) s0)), some (.int (x7 + (-1))), none] [] σ Q)
    : Run MX1_leastSkipFigures (d + 3) 30 [some (.ref 24), none, none, some (.long x3), none, some (.int x5), some (.int x6), some (.int x7), none] [.int s0] σ Q := by
  refine (go_istore 8 (L' := [some (.ref 24), none, none, some (.long x3), none, some (.int x5), some (.int x6), some (.int x7), some (.int s0)]) eX1_leastSkipFigures_30 (Nat.le_of_ble_eq_true rfl) rfl).run ?_
  refine (go_lload_n 3 eX1_leastSkipFigures_32 rfl rfl).run ?_
  refine (go_iconst (v := 4) eX1_leastSkipFigures_33 rfl).run ?_
  refine (go_lshl eX1_leastSkipFigures_34).run ?_
  refine (go_iload 8 eX1_leastSkipFigures_35 rfl).run ?_
  refine (go_i2l eX1_leastSkipFigures_37).run ?_
  refine (go_lor eX1_leastSkipFigures_38).run ?_
  refine (go_lstore_n 3 (L' := [some (.ref 24), none, none, some (.long ((x3 <<< ((4 : Int32).toInt64 &&& 63)) ||| s0.toInt64)), none, some (.int x5), some (.int x6), some (.int x7), some (.int s0)]) eX1_leastSkipFigures_39 rfl (Nat.le_of_ble_eq_true rfl) rfl).run ?_
  refine (go_iload 5 eX1_leastSkipFigures_40 rfl).run ?_
  refine (go_iload 8 eX1_leastSkipFigures_42 rfl).run ?_
  refine (go_isub eX1_leastSkipFigures_44).run ?_
  refine (go_istore 5 (L' := [some (.ref 24), none, none, some (.long ((x3 <<< ((4 : Int32).toInt64 &&& 63)) ||| s0.toInt64)), none, some (.int (x5 - s0)), some (.int x6), some (.int x7), some (.int s0)]) eX1_leastSkipFigures_45 (Nat.le_of_ble_eq_true rfl) rfl).run ?_
  refine (go_iload 6 eX1_leastSkipFigures_47 rfl).run ?_
  refine (go_aload_n 0 eX1_leastSkipFigures_49 rfl rfl).run ?_
  refine (go_geti flX1_32 rf_1_1 kd_24 eX1_leastSkipFigures_50).run ?_
  refine (go_iadd eX1_leastSkipFigures_53).run ?_
  refine (go_iload 8 eX1_leastSkipFigures_54 rfl).run ?_
  refine (go_maxN mm_ok lkX1_26 rfl (Nat.le_of_ble_eq_true rfl) (by omega) eX1_leastSkipFigures_56).run ?_
  refine (go_istore 6 (L' := [some (.ref 24), none, none, some (.long ((x3 <<< ((4 : Int32).toInt64 &&& 63)) ||| s0.toInt64)), none, some (.int (x5 - s0)), some (.int (mxI (x6 + (σ.1 24 1)) s0)), some (.int x7), some (.int s0)]) eX1_leastSkipFigures_59 (Nat.le_of_ble_eq_true rfl) rfl).run ?_
  refine (go_iinc 7 (v := (x7 + (-1))) (L' := [some (.ref 24), none, none, some (.long ((x3 <<< ((4 : Int32).toInt64 &&& 63)) ||| s0.toInt64)), none, some (.int (x5 - s0)), some (.int (mxI (x6 + (σ.1 24 1)) s0)), some (.int (x7 + (-1))), some (.int s0)]) eX1_leastSkipFigures_61 rfl rfl (Nat.le_of_ble_eq_true rfl) rfl).run ?_
  refine (go_goto 15 eX1_leastSkipFigures_64 rfl).run ?_
  refine (go_sub (L' := [some (.ref 24), none, none, some (.long ((x3 <<< ((4 : Int32).toInt64 &&& 63)) ||| s0.toInt64)), none, some (.int (x5 - s0)), some (.int (mxI (x6 + (σ.1 24 1)) s0)), some (.int (x7 + (-1))), none]) (lsub_keep (lsub_keep (lsub_keep (lsub_keep (lsub_keep (lsub_keep (lsub_keep (lsub_keep (lsub_drop lsub_nil)))))))))).run ?_
  exact k1

/-! CarryNets$Blocks.skipFigures -/
theorem eX1_skipFigures_0 : decode MX1_skipFigures.2.1 0 = .ok (.aload_n 0, 1) := by decide +kernel
theorem eX1_skipFigures_1 : decode MX1_skipFigures.2.1 1 = .ok (.iload_n 2, 1) := by decide +kernel
theorem eX1_skipFigures_2 : decode MX1_skipFigures.2.1 2 = .ok (.putfield 32, 3) := by decide +kernel
theorem eX1_skipFigures_5 : decode MX1_skipFigures.2.1 5 = .ok (.iconst 1, 1) := by decide +kernel
theorem eX1_skipFigures_6 : decode MX1_skipFigures.2.1 6 = .ok (.istore_n 3, 1) := by decide +kernel
theorem eX1_skipFigures_7 : decode MX1_skipFigures.2.1 7 = .ok (.iload_n 1, 1) := by decide +kernel
theorem eX1_skipFigures_8 : decode MX1_skipFigures.2.1 8 = .ok (.istore 4, 2) := by decide +kernel
theorem eX1_skipFigures_10 : decode MX1_skipFigures.2.1 10 = .ok (.iconst 0, 1) := by decide +kernel
theorem eX1_skipFigures_11 : decode MX1_skipFigures.2.1 11 = .ok (.istore 5, 2) := by decide +kernel
theorem eX1_skipFigures_13 : decode MX1_skipFigures.2.1 13 = .ok (.iload 5, 2) := by decide +kernel
theorem eX1_skipFigures_15 : decode MX1_skipFigures.2.1 15 = .ok (.bipush 32, 2) := by decide +kernel
theorem eX1_skipFigures_17 : decode MX1_skipFigures.2.1 17 = .ok (.if_icmp .ge 45, 3) := by decide +kernel
theorem eX1_skipFigures_20 : decode MX1_skipFigures.2.1 20 = .ok (.iload_n 3, 1) := by decide +kernel
theorem eX1_skipFigures_21 : decode MX1_skipFigures.2.1 21 = .ok (.iload 4, 2) := by decide +kernel
theorem eX1_skipFigures_23 : decode MX1_skipFigures.2.1 23 = .ok (.if_icmp .ge 39, 3) := by decide +kernel
theorem eX1_skipFigures_26 : decode MX1_skipFigures.2.1 26 = .ok (.iload_n 3, 1) := by decide +kernel
theorem eX1_skipFigures_27 : decode MX1_skipFigures.2.1 27 = .ok (.iload 4, 2) := by decide +kernel
theorem eX1_skipFigures_29 : decode MX1_skipFigures.2.1 29 = .ok (.iadd, 1) := by decide +kernel
theorem eX1_skipFigures_30 : decode MX1_skipFigures.2.1 30 = .ok (.iconst 2, 1) := by decide +kernel
theorem eX1_skipFigures_31 : decode MX1_skipFigures.2.1 31 = .ok (.idiv, 1) := by decide +kernel
theorem eX1_skipFigures_32 : decode MX1_skipFigures.2.1 32 = .ok (.istore 6, 2) := by decide +kernel
theorem eX1_skipFigures_34 : decode MX1_skipFigures.2.1 34 = .ok (.aload_n 0, 1) := by decide +kernel
theorem eX1_skipFigures_35 : decode MX1_skipFigures.2.1 35 = .ok (.iload_n 1, 1) := by decide +kernel
theorem eX1_skipFigures_36 : decode MX1_skipFigures.2.1 36 = .ok (.iload 6, 2) := by decide +kernel
theorem eX1_skipFigures_38 : decode MX1_skipFigures.2.1 38 = .ok (.invokevirtual 36, 3) := by decide +kernel
theorem eX1_skipFigures_41 : decode MX1_skipFigures.2.1 41 = .ok (.ifCond .le 10, 3) := by decide +kernel
theorem eX1_skipFigures_44 : decode MX1_skipFigures.2.1 44 = .ok (.iload 6, 2) := by decide +kernel
theorem eX1_skipFigures_46 : decode MX1_skipFigures.2.1 46 = .ok (.istore 4, 2) := by decide +kernel
theorem eX1_skipFigures_48 : decode MX1_skipFigures.2.1 48 = .ok (.goto 8, 3) := by decide +kernel
theorem eX1_skipFigures_51 : decode MX1_skipFigures.2.1 51 = .ok (.iload 6, 2) := by decide +kernel
theorem eX1_skipFigures_53 : decode MX1_skipFigures.2.1 53 = .ok (.iconst 1, 1) := by decide +kernel
theorem eX1_skipFigures_54 : decode MX1_skipFigures.2.1 54 = .ok (.iadd, 1) := by decide +kernel
theorem eX1_skipFigures_55 : decode MX1_skipFigures.2.1 55 = .ok (.istore_n 3, 1) := by decide +kernel
theorem eX1_skipFigures_56 : decode MX1_skipFigures.2.1 56 = .ok (.iinc 5 1, 3) := by decide +kernel
theorem eX1_skipFigures_59 : decode MX1_skipFigures.2.1 59 = .ok (.goto (-46), 3) := by decide +kernel
theorem eX1_skipFigures_62 : decode MX1_skipFigures.2.1 62 = .ok (.aload_n 0, 1) := by decide +kernel
theorem eX1_skipFigures_63 : decode MX1_skipFigures.2.1 63 = .ok (.aload_n 0, 1) := by decide +kernel
theorem eX1_skipFigures_64 : decode MX1_skipFigures.2.1 64 = .ok (.iload_n 1, 1) := by decide +kernel
theorem eX1_skipFigures_65 : decode MX1_skipFigures.2.1 65 = .ok (.iload_n 3, 1) := by decide +kernel
theorem eX1_skipFigures_66 : decode MX1_skipFigures.2.1 66 = .ok (.invokevirtual 36, 3) := by decide +kernel
theorem eX1_skipFigures_69 : decode MX1_skipFigures.2.1 69 = .ok (.iload_n 1, 1) := by decide +kernel
theorem eX1_skipFigures_70 : decode MX1_skipFigures.2.1 70 = .ok (.invokevirtual 39, 3) := by decide +kernel
theorem eX1_skipFigures_73 : decode MX1_skipFigures.2.1 73 = .ok (.lreturn, 1) := by decide +kernel
set_option maxRecDepth 20000 in
theorem bX1_skipFigures_0 {d : Nat} {Q : Option Value → St → Prop} (x1 : Int32) (x2 : Int32) (σ : St) 
    (k1 : Run MX1_skipFigures (d + 4) 13 [some (.ref 24), some (.int x1), none, some (.int 1), some (.int x1), some (.int 0), none] [] (sA σ 24 (upd (σ.1 24) 1 x2)) Q)
    : Run MX1_skipFigures (d + 4) 0 [some (.ref 24), some (.int x1), some (.int x2), none, none, none, none] [] σ Q := by
  refine (go_aload_n 0 eX1_skipFigures_0 rfl rfl).run ?_
  refine (go_iload_n 2 eX1_skipFigures_1 rfl rfl).run ?_
  refine (go_puti flX1_32 rf_1_1 rfl pf_1_1 rfl rfl kd_24 eX1_skipFigures_2).run ?_
  refine (go_iconst (v := 1) eX1_skipFigures_5 rfl).run ?_
  refine (go_istore_n 3 (L' := [some (.ref 24), some (.int x1), some (.int x2), some (.int 1), none, none, none]) eX1_skipFigures_6 rfl (Nat.le_of_ble_eq_true rfl) rfl).run ?_
  refine (go_iload_n 1 eX1_skipFigures_7 rfl rfl).run ?_
  refine (go_istore 4 (L' := [some (.ref 24), some (.int x1), some (.int x2), some (.int 1), some (.int x1), none, none]) eX1_skipFigures_8 (Nat.le_of_ble_eq_true rfl) rfl).run ?_
  refine (go_iconst (v := 0) eX1_skipFigures_10 rfl).run ?_
  refine (go_istore 5 (L' := [some (.ref 24), some (.int x1), some (.int x2), some (.int 1), some (.int x1), some (.int 0), none]) eX1_skipFigures_11 (Nat.le_of_ble_eq_true rfl) rfl).run ?_
  refine (go_sub (L' := [some (.ref 24), some (.int x1), none, some (.int 1), some (.int x1), some (.int 0), none]) (lsub_keep (lsub_keep (lsub_drop (lsub_keep (lsub_keep (lsub_keep (lsub_keep lsub_nil)))))))).run ?_
  exact k1

set_option maxRecDepth 20000 in
theorem bX1_skipFigures_13 {d : Nat} {Q : Option Value → St → Prop} (x1 : Int32) (x3 : Int32) (x4 : Int32) (x5 : Int32) (σ : St) 
    (k1 : (32 : Int32) ≤ x5 → Ct yX1_fewestSkipBlocks MX1_fewestSkipBlocks (d + 3) [.ref 24, .int x1, .int x3] σ (fun v σ1 => Run MX1_skipFigures (d + 4) 69 [none, some (.int x1), none, none, none, none, none] (v.toList ++ [.ref 24]) σ1 Q))
    (k2 : x5 < 32 → x4 ≤ x3 → Ct yX1_fewestSkipBlocks MX1_fewestSkipBlocks (d + 3) [.ref 24, .int x1, .int x3] σ (fun v σ1 => Run MX1_skipFigures (d + 4) 69 [none, some (.int x1), none, none, none, none, none] (v.toList ++ [.ref 24]) σ1 Q))
    (k3 : x5 < 32 → x3 < x4 → Ct yX1_fewestSkipBlocks MX1_fewestSkipBlocks (d + 3) [.ref 24, .int x1, .int ((x3 + x4) / 2)] σ (fun v σ1 => Run MX1_skipFigures (d + 4) 41 [some (.ref 24), some (.int x1), none, some (.int x3), some (.int x4), some (.int x5), some (.int ((x3 + x4) / 2))] (v.toList ++ []) σ1 Q))
    : Run MX1_skipFigures (d + 4) 13 [some (.ref 24), some (.int x1), none, some (.int x3), some (.int x4), some (.int x5), none] [] σ Q := by
  refine (go_iload 5 eX1_skipFigures_13 rfl).run ?_
  refine (go_bipush (v := 32) eX1_skipFigures_15 rfl).run ?_
  refine (bi_ge 62 eX1_skipFigures_17 rfl).run (fun h1 => ?_) (fun h1 => ?_)
  · refine (go_aload_n 0 eX1_skipFigures_62 rfl rfl).run ?_
    refine (go_aload_n 0 eX1_skipFigures_63 rfl rfl).run ?_
    refine (go_iload_n 1 eX1_skipFigures_64 rfl rfl).run ?_
    refine (go_iload_n 3 eX1_skipFigures_65 rfl rfl).run ?_
    refine (go_sub (L' := [none, some (.int x1), none, none, none, none, none]) (lsub_drop (lsub_keep (lsub_keep (lsub_drop (lsub_drop (lsub_drop (lsub_keep lsub_nil)))))))).run ?_
    exact Run.callV (d := (d + 3)) (As := [.int x1, .int x3]) mX1_fewestSkipBlocks lkX1_36 kd_24 (by decide) rfl rfl rfl rfl rfl (Nat.le_of_ble_eq_true rfl) eX1_skipFigures_66 (k1 h1)
  · refine (go_iload_n 3 eX1_skipFigures_20 rfl rfl).run ?_
    refine (go_iload 4 eX1_skipFigures_21 rfl).run ?_
    refine (bi_ge 62 eX1_skipFigures_23 rfl).run (fun h2 => ?_) (fun h2 => ?_)
    · refine (go_aload_n 0 eX1_skipFigures_62 rfl rfl).run ?_
      refine (go_aload_n 0 eX1_skipFigures_63 rfl rfl).run ?_
      refine (go_iload_n 1 eX1_skipFigures_64 rfl rfl).run ?_
      refine (go_iload_n 3 eX1_skipFigures_65 rfl rfl).run ?_
      refine (go_sub (L' := [none, some (.int x1), none, none, none, none, none]) (lsub_drop (lsub_keep (lsub_keep (lsub_drop (lsub_drop (lsub_drop (lsub_keep lsub_nil)))))))).run ?_
      exact Run.callV (d := (d + 3)) (As := [.int x1, .int x3]) mX1_fewestSkipBlocks lkX1_36 kd_24 (by decide) rfl rfl rfl rfl rfl (Nat.le_of_ble_eq_true rfl) eX1_skipFigures_66 (k2 h1 h2)
    · refine (go_iload_n 3 eX1_skipFigures_26 rfl rfl).run ?_
      refine (go_iload 4 eX1_skipFigures_27 rfl).run ?_
      refine (go_iadd eX1_skipFigures_29).run ?_
      refine (go_iconst (v := 2) eX1_skipFigures_30 rfl).run ?_
      refine (go_idiv eX1_skipFigures_31 (by decide)).run ?_
      refine (go_istore 6 (L' := [some (.ref 24), some (.int x1), none, some (.int x3), some (.int x4), some (.int x5), some (.int ((x3 + x4) / 2))]) eX1_skipFigures_32 (Nat.le_of_ble_eq_true rfl) rfl).run ?_
      refine (go_aload_n 0 eX1_skipFigures_34 rfl rfl).run ?_
      refine (go_iload_n 1 eX1_skipFigures_35 rfl rfl).run ?_
      refine (go_iload 6 eX1_skipFigures_36 rfl).run ?_
      exact Run.callV (d := (d + 3)) (As := [.int x1, .int ((x3 + x4) / 2)]) mX1_fewestSkipBlocks lkX1_36 kd_24 (by decide) rfl rfl rfl rfl rfl (Nat.le_of_ble_eq_true rfl) eX1_skipFigures_38 (k3 h1 h2)

set_option maxRecDepth 20000 in
theorem bX1_skipFigures_69 {d : Nat} {Q : Option Value → St → Prop} (x1 : Int32) (s0 : Int32) (σ : St) 
    (k1 : Ct yX1_leastSkipFigures MX1_leastSkipFigures (d + 3) [.ref 24, .int s0, .int x1] σ (fun v σ1 => Run MX1_skipFigures (d + 4) 73 [none, none, none, none, none, none, none] (v.toList ++ []) σ1 Q))
    : Run MX1_skipFigures (d + 4) 69 [none, some (.int x1), none, none, none, none, none] [.int s0, .ref 24] σ Q := by
  refine (go_iload_n 1 eX1_skipFigures_69 rfl rfl).run ?_
  refine (go_sub (L' := [none, none, none, none, none, none, none]) (lsub_keep (lsub_drop (lsub_keep (lsub_keep (lsub_keep (lsub_keep (lsub_keep lsub_nil)))))))).run ?_
  exact Run.callV (d := (d + 3)) (As := [.int s0, .int x1]) mX1_leastSkipFigures lkX1_39 kd_24 (by decide) rfl rfl rfl rfl rfl (Nat.le_of_ble_eq_true rfl) eX1_skipFigures_70 k1

set_option maxRecDepth 20000 in
theorem bX1_skipFigures_41 {d : Nat} {Q : Option Value → St → Prop} (x1 : Int32) (x3 : Int32) (x4 : Int32) (x5 : Int32) (x6 : Int32) (s0 : Int32) (σ : St) 
    (k1 : Run MX1_skipFigures (d + 4) 13 [some (.ref 24), some (.int x1), none, some (.int (if s0 ≤ 0 then (x6 + 1) else x3)), some (.int (if s0 ≤ 0 then x4 else x6)), some (.int (x5 + 1)), none] [] σ Q)
    : Run MX1_skipFigures (d + 4) 41 [some (.ref 24), some (.int x1), none, some (.int x3), some (.int x4), some (.int x5), some (.int x6)] [.int s0] σ Q := by
  have hJh1 : Run MX1_skipFigures (d + 4) 56 [some (.ref 24), some (.int x1), none, some (.int (if s0 ≤ 0 then (x6 + 1) else x3)), some (.int (if s0 ≤ 0 then x4 else x6)), some (.int x5), none] [] σ Q := by
    refine (go_iinc 5 (v := (x5 + 1)) (L' := [some (.ref 24), some (.int x1), none, some (.int (if s0 ≤ 0 then (x6 + 1) else x3)), some (.int (if s0 ≤ 0 then x4 else x6)), some (.int (x5 + 1)), none]) eX1_skipFigures_56 rfl rfl (Nat.le_of_ble_eq_true rfl) rfl).run ?_
    refine (go_goto 13 eX1_skipFigures_59 rfl).run ?_
    exact k1
  refine (bz_le 51 eX1_skipFigures_41 rfl).run (fun h1 => ?_) (fun h1 => ?_)
  · refine (go_iload 6 eX1_skipFigures_51 rfl).run ?_
    refine (go_iconst (v := 1) eX1_skipFigures_53 rfl).run ?_
    refine (go_iadd eX1_skipFigures_54).run ?_
    refine (go_istore_n 3 (L' := [some (.ref 24), some (.int x1), none, some (.int (x6 + 1)), some (.int x4), some (.int x5), some (.int x6)]) eX1_skipFigures_55 rfl (Nat.le_of_ble_eq_true rfl) rfl).run ?_
    refine (go_sub (L' := [some (.ref 24), some (.int x1), none, some (.int (x6 + 1)), some (.int x4), some (.int x5), none]) (lsub_keep (lsub_keep (lsub_keep (lsub_keep (lsub_keep (lsub_keep (lsub_drop lsub_nil)))))))).run ?_
    first | exact hJh1 | (simp only [if_pos h1] at hJh1; exact hJh1) | (simp only [eq_true h1, eq_false (i32_nlt.mpr h1), true_and, and_true, false_and, and_false, true_or, or_true, false_or, or_false, not_true_eq_false, not_false_eq_true] at hJh1; exact hJh1) | exact Run.eq (by simp [eq_true h1, eq_false (i32_nlt.mpr h1), bI]) (by simp [eq_true h1, eq_false (i32_nlt.mpr h1), bI]) rfl hJh1
  · refine (go_iload 6 eX1_skipFigures_44 rfl).run ?_
    refine (go_istore 4 (L' := [some (.ref 24), some (.int x1), none, some (.int x3), some (.int x6), some (.int x5), some (.int x6)]) eX1_skipFigures_46 (Nat.le_of_ble_eq_true rfl) rfl).run ?_
    refine (go_goto 56 eX1_skipFigures_48 rfl).run ?_
    refine (go_sub (L' := [some (.ref 24), some (.int x1), none, some (.int x3), some (.int x6), some (.int x5), none]) (lsub_keep (lsub_keep (lsub_keep (lsub_keep (lsub_keep (lsub_keep (lsub_drop lsub_nil)))))))).run ?_
    first | exact hJh1 | (simp only [if_neg (i32_nle.mpr h1)] at hJh1; exact hJh1) | (simp only [eq_true h1, eq_false (i32_nle.mpr h1), true_and, and_true, false_and, and_false, true_or, or_true, false_or, or_false, not_true_eq_false, not_false_eq_true] at hJh1; exact hJh1) | exact Run.eq (by simp [eq_true h1, eq_false (i32_nle.mpr h1), bI]) (by simp [eq_true h1, eq_false (i32_nle.mpr h1), bI]) rfl hJh1

set_option maxRecDepth 20000 in
theorem bX1_skipFigures_73 {d : Nat} {Q : Option Value → St → Prop} (s0 : Int64) (σ : St) 
    (k1 : Q (some (.long s0)) σ)
    : Run MX1_skipFigures (d + 4) 73 [none, none, none, none, none, none, none] [.long s0] σ Q := by
  exact Run.ret (v := some (.long s0)) k1 ⟨rfl, eX1_skipFigures_73⟩ rfl

/-! CarryNets$Blocks.choicePlaces -/
theorem eX1_choicePlaces_0 : decode MX1_choicePlaces.2.1 0 = .ok (.iconst 0, 1) := by decide +kernel
theorem eX1_choicePlaces_1 : decode MX1_choicePlaces.2.1 1 = .ok (.istore_n 3, 1) := by decide +kernel
theorem eX1_choicePlaces_2 : decode MX1_choicePlaces.2.1 2 = .ok (.iconst 0, 1) := by decide +kernel
theorem eX1_choicePlaces_3 : decode MX1_choicePlaces.2.1 3 = .ok (.istore 4, 2) := by decide +kernel
theorem eX1_choicePlaces_5 : decode MX1_choicePlaces.2.1 5 = .ok (.iload 4, 2) := by decide +kernel
theorem eX1_choicePlaces_7 : decode MX1_choicePlaces.2.1 7 = .ok (.iload_n 0, 1) := by decide +kernel
theorem eX1_choicePlaces_8 : decode MX1_choicePlaces.2.1 8 = .ok (.if_icmp .ge 38, 3) := by decide +kernel
theorem eX1_choicePlaces_11 : decode MX1_choicePlaces.2.1 11 = .ok (.iload 4, 2) := by decide +kernel
theorem eX1_choicePlaces_13 : decode MX1_choicePlaces.2.1 13 = .ok (.ifCond .ne 9, 3) := by decide +kernel
theorem eX1_choicePlaces_16 : decode MX1_choicePlaces.2.1 16 = .ok (.iload_n 1, 1) := by decide +kernel
theorem eX1_choicePlaces_17 : decode MX1_choicePlaces.2.1 17 = .ok (.iconst 1, 1) := by decide +kernel
theorem eX1_choicePlaces_18 : decode MX1_choicePlaces.2.1 18 = .ok (.isub, 1) := by decide +kernel
theorem eX1_choicePlaces_19 : decode MX1_choicePlaces.2.1 19 = .ok (.goto 7, 3) := by decide +kernel
theorem eX1_choicePlaces_22 : decode MX1_choicePlaces.2.1 22 = .ok (.iload_n 1, 1) := by decide +kernel
theorem eX1_choicePlaces_23 : decode MX1_choicePlaces.2.1 23 = .ok (.iload 4, 2) := by decide +kernel
theorem eX1_choicePlaces_25 : decode MX1_choicePlaces.2.1 25 = .ok (.isub, 1) := by decide +kernel
theorem eX1_choicePlaces_26 : decode MX1_choicePlaces.2.1 26 = .ok (.istore 5, 2) := by decide +kernel
theorem eX1_choicePlaces_28 : decode MX1_choicePlaces.2.1 28 = .ok (.iload_n 3, 1) := by decide +kernel
theorem eX1_choicePlaces_29 : decode MX1_choicePlaces.2.1 29 = .ok (.bipush 15, 2) := by decide +kernel
theorem eX1_choicePlaces_31 : decode MX1_choicePlaces.2.1 31 = .ok (.iload_n 2, 1) := by decide +kernel
theorem eX1_choicePlaces_32 : decode MX1_choicePlaces.2.1 32 = .ok (.iload 5, 2) := by decide +kernel
theorem eX1_choicePlaces_34 : decode MX1_choicePlaces.2.1 34 = .ok (.isub, 1) := by decide +kernel
theorem eX1_choicePlaces_35 : decode MX1_choicePlaces.2.1 35 = .ok (.invokestatic 65, 3) := by decide +kernel
theorem eX1_choicePlaces_38 : decode MX1_choicePlaces.2.1 38 = .ok (.iadd, 1) := by decide +kernel
theorem eX1_choicePlaces_39 : decode MX1_choicePlaces.2.1 39 = .ok (.istore_n 3, 1) := by decide +kernel
theorem eX1_choicePlaces_40 : decode MX1_choicePlaces.2.1 40 = .ok (.iinc 4 1, 3) := by decide +kernel
theorem eX1_choicePlaces_43 : decode MX1_choicePlaces.2.1 43 = .ok (.goto (-38), 3) := by decide +kernel
theorem eX1_choicePlaces_46 : decode MX1_choicePlaces.2.1 46 = .ok (.iload_n 3, 1) := by decide +kernel
theorem eX1_choicePlaces_47 : decode MX1_choicePlaces.2.1 47 = .ok (.ireturn, 1) := by decide +kernel
set_option maxRecDepth 20000 in
theorem bX1_choicePlaces_0 {d : Nat} {Q : Option Value → St → Prop} (x0 : Int32) (x1 : Int32) (x2 : Int32) (σ : St) 
    (k1 : Run MX1_choicePlaces (d + 1) 5 [some (.int x0), some (.int x1), some (.int x2), some (.int 0), some (.int 0), none] [] σ Q)
    : Run MX1_choicePlaces (d + 1) 0 [some (.int x0), some (.int x1), some (.int x2), none, none, none] [] σ Q := by
  refine (go_iconst (v := 0) eX1_choicePlaces_0 rfl).run ?_
  refine (go_istore_n 3 (L' := [some (.int x0), some (.int x1), some (.int x2), some (.int 0), none, none]) eX1_choicePlaces_1 rfl (Nat.le_of_ble_eq_true rfl) rfl).run ?_
  refine (go_iconst (v := 0) eX1_choicePlaces_2 rfl).run ?_
  refine (go_istore 4 (L' := [some (.int x0), some (.int x1), some (.int x2), some (.int 0), some (.int 0), none]) eX1_choicePlaces_3 (Nat.le_of_ble_eq_true rfl) rfl).run ?_
  exact k1

set_option maxRecDepth 20000 in
theorem bX1_choicePlaces_5 {d : Nat} {Q : Option Value → St → Prop} (x0 : Int32) (x1 : Int32) (x2 : Int32) (x3 : Int32) (x4 : Int32) (σ : St) 
    (k1 : x0 ≤ x4 → Q (some (.int x3)) σ)
    (k2 : x4 < x0 → Run MX1_choicePlaces (d + 1) 5 [some (.int x0), some (.int x1), some (.int x2), some (.int (x3 + (mnI 15 (x2 - (if x4 = 0 then (x1 - 1) else (x1 - x4)))))), some (.int (x4 + 1)), none] [] σ Q)
    : Run MX1_choicePlaces (d + 1) 5 [some (.int x0), some (.int x1), some (.int x2), some (.int x3), some (.int x4), none] [] σ Q := by
  refine (go_iload 4 eX1_choicePlaces_5 rfl).run ?_
  refine (go_iload_n 0 eX1_choicePlaces_7 rfl rfl).run ?_
  refine (bi_ge 46 eX1_choicePlaces_8 rfl).run (fun h1 => ?_) (fun h1 => ?_)
  · refine (go_iload_n 3 eX1_choicePlaces_46 rfl rfl).run ?_
    exact Run.ret (v := some (.int x3)) (k1 h1) ⟨Or.inl rfl, eX1_choicePlaces_47⟩ rfl
  · refine (go_iload 4 eX1_choicePlaces_11 rfl).run ?_
    have hJh2 : Run MX1_choicePlaces (d + 1) 26 [some (.int x0), some (.int x1), some (.int x2), some (.int x3), some (.int x4), none] [.int (if x4 = 0 then (x1 - 1) else (x1 - x4))] σ Q := by
      refine (go_istore 5 (L' := [some (.int x0), some (.int x1), some (.int x2), some (.int x3), some (.int x4), some (.int (if x4 = 0 then (x1 - 1) else (x1 - x4)))]) eX1_choicePlaces_26 (Nat.le_of_ble_eq_true rfl) rfl).run ?_
      refine (go_iload_n 3 eX1_choicePlaces_28 rfl rfl).run ?_
      refine (go_bipush (v := 15) eX1_choicePlaces_29 rfl).run ?_
      refine (go_iload_n 2 eX1_choicePlaces_31 rfl rfl).run ?_
      refine (go_iload 5 eX1_choicePlaces_32 rfl).run ?_
      refine (go_isub eX1_choicePlaces_34).run ?_
      refine (go_minN mm_ok lkX1_65 rfl (Nat.le_of_ble_eq_true rfl) (by omega) eX1_choicePlaces_35).run ?_
      refine (go_iadd eX1_choicePlaces_38).run ?_
      refine (go_istore_n 3 (L' := [some (.int x0), some (.int x1), some (.int x2), some (.int (x3 + (mnI 15 (x2 - (if x4 = 0 then (x1 - 1) else (x1 - x4)))))), some (.int x4), some (.int (if x4 = 0 then (x1 - 1) else (x1 - x4)))]) eX1_choicePlaces_39 rfl (Nat.le_of_ble_eq_true rfl) rfl).run ?_
      refine (go_iinc 4 (v := (x4 + 1)) (L' := [some (.int x0), some (.int x1), some (.int x2), some (.int (x3 + (mnI 15 (x2 - (if x4 = 0 then (x1 - 1) else (x1 - x4)))))), some (.int (x4 + 1)), some (.int (if x4 = 0 then (x1 - 1) else (x1 - x4)))]) eX1_choicePlaces_40 rfl rfl (Nat.le_of_ble_eq_true rfl) rfl).run ?_
      refine (go_goto 5 eX1_choicePlaces_43 rfl).run ?_
      refine (go_sub (L' := [some (.int x0), some (.int x1), some (.int x2), some (.int (x3 + (mnI 15 (x2 - (if x4 = 0 then (x1 - 1) else (x1 - x4)))))), some (.int (x4 + 1)), none]) (lsub_keep (lsub_keep (lsub_keep (lsub_keep (lsub_keep (lsub_drop lsub_nil))))))).run ?_
      exact (k2 h1)
    refine (bz_ne 22 eX1_choicePlaces_13 rfl).run (fun h2 => ?_) (fun h2 => ?_)
    · refine (go_iload_n 1 eX1_choicePlaces_22 rfl rfl).run ?_
      refine (go_iload 4 eX1_choicePlaces_23 rfl).run ?_
      refine (go_isub eX1_choicePlaces_25).run ?_
      first | exact hJh2 | (simp only [if_neg (h2)] at hJh2; exact hJh2) | (simp only [eq_false h2, not_false_eq_true, true_and, and_true, false_and, and_false, true_or, or_true, false_or, or_false, not_true_eq_false, not_false_eq_true] at hJh2; exact hJh2) | exact Run.eq (by simp [eq_false h2, not_false_eq_true, bI]) (by simp [eq_false h2, not_false_eq_true, bI]) rfl hJh2
    · refine (go_iload_n 1 eX1_choicePlaces_16 rfl rfl).run ?_
      refine (go_iconst (v := 1) eX1_choicePlaces_17 rfl).run ?_
      refine (go_isub eX1_choicePlaces_18).run ?_
      refine (go_goto 26 eX1_choicePlaces_19 rfl).run ?_
      first | exact hJh2 | (simp only [if_pos h2] at hJh2; exact hJh2) | (simp only [eq_true h2, not_true_eq_false, true_and, and_true, false_and, and_false, true_or, or_true, false_or, or_false, not_true_eq_false, not_false_eq_true] at hJh2; exact hJh2) | exact Run.eq (by simp [eq_true h2, not_true_eq_false, bI]) (by simp [eq_true h2, not_true_eq_false, bI]) rfl hJh2


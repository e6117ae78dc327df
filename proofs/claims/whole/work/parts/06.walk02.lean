/-! CarryNets$Blocks.leastChoiceFigures -/
theorem eX1_leastChoiceFigures_0 : decode MX1_leastChoiceFigures.2.1 0 = .ok (.lconst 0, 1) := by decide +kernel
theorem eX1_leastChoiceFigures_1 : decode MX1_leastChoiceFigures.2.1 1 = .ok (.lstore_n 3, 1) := by decide +kernel
theorem eX1_leastChoiceFigures_2 : decode MX1_leastChoiceFigures.2.1 2 = .ok (.iload_n 1, 1) := by decide +kernel
theorem eX1_leastChoiceFigures_3 : decode MX1_leastChoiceFigures.2.1 3 = .ok (.istore 5, 2) := by decide +kernel
theorem eX1_leastChoiceFigures_5 : decode MX1_leastChoiceFigures.2.1 5 = .ok (.iload_n 0, 1) := by decide +kernel
theorem eX1_leastChoiceFigures_6 : decode MX1_leastChoiceFigures.2.1 6 = .ok (.iconst 1, 1) := by decide +kernel
theorem eX1_leastChoiceFigures_7 : decode MX1_leastChoiceFigures.2.1 7 = .ok (.isub, 1) := by decide +kernel
theorem eX1_leastChoiceFigures_8 : decode MX1_leastChoiceFigures.2.1 8 = .ok (.istore 6, 2) := by decide +kernel
theorem eX1_leastChoiceFigures_10 : decode MX1_leastChoiceFigures.2.1 10 = .ok (.iload 6, 2) := by decide +kernel
theorem eX1_leastChoiceFigures_12 : decode MX1_leastChoiceFigures.2.1 12 = .ok (.ifCond .lt 40, 3) := by decide +kernel
theorem eX1_leastChoiceFigures_15 : decode MX1_leastChoiceFigures.2.1 15 = .ok (.iconst 1, 1) := by decide +kernel
theorem eX1_leastChoiceFigures_16 : decode MX1_leastChoiceFigures.2.1 16 = .ok (.iload 5, 2) := by decide +kernel
theorem eX1_leastChoiceFigures_18 : decode MX1_leastChoiceFigures.2.1 18 = .ok (.iload 6, 2) := by decide +kernel
theorem eX1_leastChoiceFigures_20 : decode MX1_leastChoiceFigures.2.1 20 = .ok (.iload_n 0, 1) := by decide +kernel
theorem eX1_leastChoiceFigures_21 : decode MX1_leastChoiceFigures.2.1 21 = .ok (.iload_n 2, 1) := by decide +kernel
theorem eX1_leastChoiceFigures_22 : decode MX1_leastChoiceFigures.2.1 22 = .ok (.invokestatic 76, 3) := by decide +kernel
theorem eX1_leastChoiceFigures_25 : decode MX1_leastChoiceFigures.2.1 25 = .ok (.isub, 1) := by decide +kernel
theorem eX1_leastChoiceFigures_26 : decode MX1_leastChoiceFigures.2.1 26 = .ok (.invokestatic 26, 3) := by decide +kernel
theorem eX1_leastChoiceFigures_29 : decode MX1_leastChoiceFigures.2.1 29 = .ok (.istore 7, 2) := by decide +kernel
theorem eX1_leastChoiceFigures_31 : decode MX1_leastChoiceFigures.2.1 31 = .ok (.lload_n 3, 1) := by decide +kernel
theorem eX1_leastChoiceFigures_32 : decode MX1_leastChoiceFigures.2.1 32 = .ok (.iconst 4, 1) := by decide +kernel
theorem eX1_leastChoiceFigures_33 : decode MX1_leastChoiceFigures.2.1 33 = .ok (.lshl, 1) := by decide +kernel
theorem eX1_leastChoiceFigures_34 : decode MX1_leastChoiceFigures.2.1 34 = .ok (.iload 7, 2) := by decide +kernel
theorem eX1_leastChoiceFigures_36 : decode MX1_leastChoiceFigures.2.1 36 = .ok (.i2l, 1) := by decide +kernel
theorem eX1_leastChoiceFigures_37 : decode MX1_leastChoiceFigures.2.1 37 = .ok (.lor, 1) := by decide +kernel
theorem eX1_leastChoiceFigures_38 : decode MX1_leastChoiceFigures.2.1 38 = .ok (.lstore_n 3, 1) := by decide +kernel
theorem eX1_leastChoiceFigures_39 : decode MX1_leastChoiceFigures.2.1 39 = .ok (.iload 5, 2) := by decide +kernel
theorem eX1_leastChoiceFigures_41 : decode MX1_leastChoiceFigures.2.1 41 = .ok (.iload 7, 2) := by decide +kernel
theorem eX1_leastChoiceFigures_43 : decode MX1_leastChoiceFigures.2.1 43 = .ok (.isub, 1) := by decide +kernel
theorem eX1_leastChoiceFigures_44 : decode MX1_leastChoiceFigures.2.1 44 = .ok (.istore 5, 2) := by decide +kernel
theorem eX1_leastChoiceFigures_46 : decode MX1_leastChoiceFigures.2.1 46 = .ok (.iinc 6 (-1), 3) := by decide +kernel
theorem eX1_leastChoiceFigures_49 : decode MX1_leastChoiceFigures.2.1 49 = .ok (.goto (-39), 3) := by decide +kernel
theorem eX1_leastChoiceFigures_52 : decode MX1_leastChoiceFigures.2.1 52 = .ok (.lload_n 3, 1) := by decide +kernel
theorem eX1_leastChoiceFigures_53 : decode MX1_leastChoiceFigures.2.1 53 = .ok (.lreturn, 1) := by decide +kernel
set_option maxRecDepth 20000 in
theorem bX1_leastChoiceFigures_0 {d : Nat} {Q : Option Value → St → Prop} (x0 : Int32) (x1 : Int32) (x2 : Int32) (σ : St) 
    (k1 : Run MX1_leastChoiceFigures (d + 2) 10 [some (.int x0), none, some (.int x2), some (.long 0), none, some (.int x1), some (.int (x0 - 1)), none] [] σ Q)
    : Run MX1_leastChoiceFigures (d + 2) 0 [some (.int x0), some (.int x1), some (.int x2), none, none, none, none, none] [] σ Q := by
  refine (go_lconst (v := 0) eX1_leastChoiceFigures_0 rfl).run ?_
  refine (go_lstore_n 3 (L' := [some (.int x0), some (.int x1), some (.int x2), some (.long 0), none, none, none, none]) eX1_leastChoiceFigures_1 rfl (Nat.le_of_ble_eq_true rfl) rfl).run ?_
  refine (go_iload_n 1 eX1_leastChoiceFigures_2 rfl rfl).run ?_
  refine (go_istore 5 (L' := [some (.int x0), some (.int x1), some (.int x2), some (.long 0), none, some (.int x1), none, none]) eX1_leastChoiceFigures_3 (Nat.le_of_ble_eq_true rfl) rfl).run ?_
  refine (go_iload_n 0 eX1_leastChoiceFigures_5 rfl rfl).run ?_
  refine (go_iconst (v := 1) eX1_leastChoiceFigures_6 rfl).run ?_
  refine (go_isub eX1_leastChoiceFigures_7).run ?_
  refine (go_istore 6 (L' := [some (.int x0), some (.int x1), some (.int x2), some (.long 0), none, some (.int x1), some (.int (x0 - 1)), none]) eX1_leastChoiceFigures_8 (Nat.le_of_ble_eq_true rfl) rfl).run ?_
  refine (go_sub (L' := [some (.int x0), none, some (.int x2), some (.long 0), none, some (.int x1), some (.int (x0 - 1)), none]) (lsub_keep (lsub_drop (lsub_keep (lsub_keep (lsub_keep (lsub_keep (lsub_keep (lsub_keep lsub_nil))))))))).run ?_
  exact k1

set_option maxRecDepth 20000 in
theorem bX1_leastChoiceFigures_10 {d : Nat} {Q : Option Value → St → Prop} (x0 : Int32) (x2 : Int32) (x3 : Int64) (x5 : Int32) (x6 : Int32) (σ : St) 
    (k1 : x6 < 0 → Q (some (.long x3)) σ)
    (k2 : (0 : Int32) ≤ x6 → Ct yX1_choicePlaces MX1_choicePlaces (d + 1) [.int x6, .int x0, .int x2] σ (fun v σ1 => Run MX1_leastChoiceFigures (d + 2) 25 [some (.int x0), none, some (.int x2), some (.long x3), none, some (.int x5), some (.int x6), none] (v.toList ++ [.int x5, .int 1]) σ1 Q))
    : Run MX1_leastChoiceFigures (d + 2) 10 [some (.int x0), none, some (.int x2), some (.long x3), none, some (.int x5), some (.int x6), none] [] σ Q := by
  refine (go_iload 6 eX1_leastChoiceFigures_10 rfl).run ?_
  refine (bz_lt 52 eX1_leastChoiceFigures_12 rfl).run (fun h1 => ?_) (fun h1 => ?_)
  · refine (go_lload_n 3 eX1_leastChoiceFigures_52 rfl rfl).run ?_
    exact Run.ret (v := some (.long x3)) (k1 h1) ⟨rfl, eX1_leastChoiceFigures_53⟩ rfl
  · refine (go_iconst (v := 1) eX1_leastChoiceFigures_15 rfl).run ?_
    refine (go_iload 5 eX1_leastChoiceFigures_16 rfl).run ?_
    refine (go_iload 6 eX1_leastChoiceFigures_18 rfl).run ?_
    refine (go_iload_n 0 eX1_leastChoiceFigures_20 rfl rfl).run ?_
    refine (go_iload_n 2 eX1_leastChoiceFigures_21 rfl rfl).run ?_
    exact Run.callS (d := (d + 1)) (As := [.int x6, .int x0, .int x2]) mX1_choicePlaces lkX1_76 rfl rfl rfl (Nat.le_of_ble_eq_true rfl) eX1_leastChoiceFigures_22 (k2 h1)

set_option maxRecDepth 20000 in
theorem bX1_leastChoiceFigures_25 {d : Nat} {Q : Option Value → St → Prop} (x0 : Int32) (x2 : Int32) (x3 : Int64) (x5 : Int32) (x6 : Int32) (s0 : Int32) (s1 : Int32) (s2 : Int32) (σ : St) 
    (k1 : Run MX1_leastChoiceFigures (d + 2) 10 [some (.int x0), none, some (.int x2), some (.long ((x3 <<< ((4 : Int32).toInt64 &&& 63)) ||| ((mxI s2 (s1 - s0)).toInt64))), none, some (.int (x5 - (mxI s2 (s1 - s0)))), some (.int (x6 + (-1))), none] [] σ Q)
    : Run MX1_leastChoiceFigures (d + 2) 25 [some (.int x0), none, some (.int x2), some (.long x3), none, some (.int x5), some (.int x6), none] [.int s0, .int s1, .int s2] σ Q := by
  refine (go_isub eX1_leastChoiceFigures_25).run ?_
  refine (go_maxN mm_ok lkX1_26 rfl (Nat.le_of_ble_eq_true rfl) (by omega) eX1_leastChoiceFigures_26).run ?_
  refine (go_istore 7 (L' := [some (.int x0), none, some (.int x2), some (.long x3), none, some (.int x5), some (.int x6), some (.int (mxI s2 (s1 - s0)))]) eX1_leastChoiceFigures_29 (Nat.le_of_ble_eq_true rfl) rfl).run ?_
  refine (go_lload_n 3 eX1_leastChoiceFigures_31 rfl rfl).run ?_
  refine (go_iconst (v := 4) eX1_leastChoiceFigures_32 rfl).run ?_
  refine (go_lshl eX1_leastChoiceFigures_33).run ?_
  refine (go_iload 7 eX1_leastChoiceFigures_34 rfl).run ?_
  refine (go_i2l eX1_leastChoiceFigures_36).run ?_
  refine (go_lor eX1_leastChoiceFigures_37).run ?_
  refine (go_lstore_n 3 (L' := [some (.int x0), none, some (.int x2), some (.long ((x3 <<< ((4 : Int32).toInt64 &&& 63)) ||| ((mxI s2 (s1 - s0)).toInt64))), none, some (.int x5), some (.int x6), some (.int (mxI s2 (s1 - s0)))]) eX1_leastChoiceFigures_38 rfl (Nat.le_of_ble_eq_true rfl) rfl).run ?_
  refine (go_iload 5 eX1_leastChoiceFigures_39 rfl).run ?_
  refine (go_iload 7 eX1_leastChoiceFigures_41 rfl).run ?_
  refine (go_isub eX1_leastChoiceFigures_43).run ?_
  refine (go_istore 5 (L' := [some (.int x0), none, some (.int x2), some (.long ((x3 <<< ((4 : Int32).toInt64 &&& 63)) ||| ((mxI s2 (s1 - s0)).toInt64))), none, some (.int (x5 - (mxI s2 (s1 - s0)))), some (.int x6), some (.int (mxI s2 (s1 - s0)))]) eX1_leastChoiceFigures_44 (Nat.le_of_ble_eq_true rfl) rfl).run ?_
  refine (go_iinc 6 (v := (x6 + (-1))) (L' := [some (.int x0), none, some (.int x2), some (.long ((x3 <<< ((4 : Int32).toInt64 &&& 63)) ||| ((mxI s2 (s1 - s0)).toInt64))), none, some (.int (x5 - (mxI s2 (s1 - s0)))), some (.int (x6 + (-1))), some (.int (mxI s2 (s1 - s0)))]) eX1_leastChoiceFigures_46 rfl rfl (Nat.le_of_ble_eq_true rfl) rfl).run ?_
  refine (go_goto 10 eX1_leastChoiceFigures_49 rfl).run ?_
  refine (go_sub (L' := [some (.int x0), none, some (.int x2), some (.long ((x3 <<< ((4 : Int32).toInt64 &&& 63)) ||| ((mxI s2 (s1 - s0)).toInt64))), none, some (.int (x5 - (mxI s2 (s1 - s0)))), some (.int (x6 + (-1))), none]) (lsub_keep (lsub_keep (lsub_keep (lsub_keep (lsub_keep (lsub_keep (lsub_keep (lsub_drop lsub_nil))))))))).run ?_
  exact k1

/-! CarryNets$Blocks.choiceFigures -/
theorem eX1_choiceFigures_0 : decode MX1_choiceFigures.2.1 0 = .ok (.iconst 1, 1) := by decide +kernel
theorem eX1_choiceFigures_1 : decode MX1_choiceFigures.2.1 1 = .ok (.istore_n 1, 1) := by decide +kernel
theorem eX1_choiceFigures_2 : decode MX1_choiceFigures.2.1 2 = .ok (.iload_n 1, 1) := by decide +kernel
theorem eX1_choiceFigures_3 : decode MX1_choiceFigures.2.1 3 = .ok (.iload_n 0, 1) := by decide +kernel
theorem eX1_choiceFigures_4 : decode MX1_choiceFigures.2.1 4 = .ok (.if_icmp .gt 50, 3) := by decide +kernel
theorem eX1_choiceFigures_7 : decode MX1_choiceFigures.2.1 7 = .ok (.iconst 1, 1) := by decide +kernel
theorem eX1_choiceFigures_8 : decode MX1_choiceFigures.2.1 8 = .ok (.istore_n 2, 1) := by decide +kernel
theorem eX1_choiceFigures_9 : decode MX1_choiceFigures.2.1 9 = .ok (.iload_n 2, 1) := by decide +kernel
theorem eX1_choiceFigures_10 : decode MX1_choiceFigures.2.1 10 = .ok (.bipush 12, 2) := by decide +kernel
theorem eX1_choiceFigures_12 : decode MX1_choiceFigures.2.1 12 = .ok (.if_icmp .gt 36, 3) := by decide +kernel
theorem eX1_choiceFigures_15 : decode MX1_choiceFigures.2.1 15 = .ok (.iload_n 2, 1) := by decide +kernel
theorem eX1_choiceFigures_16 : decode MX1_choiceFigures.2.1 16 = .ok (.iload_n 1, 1) := by decide +kernel
theorem eX1_choiceFigures_17 : decode MX1_choiceFigures.2.1 17 = .ok (.if_icmp .gt 31, 3) := by decide +kernel
theorem eX1_choiceFigures_20 : decode MX1_choiceFigures.2.1 20 = .ok (.iload_n 2, 1) := by decide +kernel
theorem eX1_choiceFigures_21 : decode MX1_choiceFigures.2.1 21 = .ok (.iload_n 0, 1) := by decide +kernel
theorem eX1_choiceFigures_22 : decode MX1_choiceFigures.2.1 22 = .ok (.if_icmp .gt 20, 3) := by decide +kernel
theorem eX1_choiceFigures_25 : decode MX1_choiceFigures.2.1 25 = .ok (.iload_n 2, 1) := by decide +kernel
theorem eX1_choiceFigures_26 : decode MX1_choiceFigures.2.1 26 = .ok (.iload_n 2, 1) := by decide +kernel
theorem eX1_choiceFigures_27 : decode MX1_choiceFigures.2.1 27 = .ok (.iload_n 1, 1) := by decide +kernel
theorem eX1_choiceFigures_28 : decode MX1_choiceFigures.2.1 28 = .ok (.invokestatic 76, 3) := by decide +kernel
theorem eX1_choiceFigures_31 : decode MX1_choiceFigures.2.1 31 = .ok (.iload_n 0, 1) := by decide +kernel
theorem eX1_choiceFigures_32 : decode MX1_choiceFigures.2.1 32 = .ok (.if_icmp .lt 10, 3) := by decide +kernel
theorem eX1_choiceFigures_35 : decode MX1_choiceFigures.2.1 35 = .ok (.iload_n 2, 1) := by decide +kernel
theorem eX1_choiceFigures_36 : decode MX1_choiceFigures.2.1 36 = .ok (.iload_n 0, 1) := by decide +kernel
theorem eX1_choiceFigures_37 : decode MX1_choiceFigures.2.1 37 = .ok (.iload_n 1, 1) := by decide +kernel
theorem eX1_choiceFigures_38 : decode MX1_choiceFigures.2.1 38 = .ok (.invokestatic 79, 3) := by decide +kernel
theorem eX1_choiceFigures_41 : decode MX1_choiceFigures.2.1 41 = .ok (.lreturn, 1) := by decide +kernel
theorem eX1_choiceFigures_42 : decode MX1_choiceFigures.2.1 42 = .ok (.iinc 2 1, 3) := by decide +kernel
theorem eX1_choiceFigures_45 : decode MX1_choiceFigures.2.1 45 = .ok (.goto (-36), 3) := by decide +kernel
theorem eX1_choiceFigures_48 : decode MX1_choiceFigures.2.1 48 = .ok (.iinc 1 1, 3) := by decide +kernel
theorem eX1_choiceFigures_51 : decode MX1_choiceFigures.2.1 51 = .ok (.goto (-49), 3) := by decide +kernel
theorem eX1_choiceFigures_54 : decode MX1_choiceFigures.2.1 54 = .ok (.ldc2_w 83, 3) := by decide +kernel
theorem eX1_choiceFigures_57 : decode MX1_choiceFigures.2.1 57 = .ok (.lreturn, 1) := by decide +kernel
set_option maxRecDepth 20000 in
theorem bX1_choiceFigures_0 {d : Nat} {Q : Option Value → St → Prop} (x0 : Int32) (σ : St) 
    (k1 : Run MX1_choiceFigures (d + 3) 2 [some (.int x0), some (.int 1), none] [] σ Q)
    : Run MX1_choiceFigures (d + 3) 0 [some (.int x0), none, none] [] σ Q := by
  refine (go_iconst (v := 1) eX1_choiceFigures_0 rfl).run ?_
  refine (go_istore_n 1 (L' := [some (.int x0), some (.int 1), none]) eX1_choiceFigures_1 rfl (Nat.le_of_ble_eq_true rfl) rfl).run ?_
  exact k1

set_option maxRecDepth 20000 in
theorem bX1_choiceFigures_2 {d : Nat} {Q : Option Value → St → Prop} (x0 : Int32) (x1 : Int32) (σ : St) 
    (k1 : x0 < x1 → Q (some (.long (-1))) σ)
    (k2 : x1 ≤ x0 → Run MX1_choiceFigures (d + 3) 9 [some (.int x0), some (.int x1), some (.int 1)] [] σ Q)
    : Run MX1_choiceFigures (d + 3) 2 [some (.int x0), some (.int x1), none] [] σ Q := by
  refine (go_iload_n 1 eX1_choiceFigures_2 rfl rfl).run ?_
  refine (go_iload_n 0 eX1_choiceFigures_3 rfl rfl).run ?_
  refine (bi_gt 54 eX1_choiceFigures_4 rfl).run (fun h1 => ?_) (fun h1 => ?_)
  · refine (go_ldc2 csX1_83 eX1_choiceFigures_54).run ?_
    exact Run.ret (v := some (.long (-1))) (k1 h1) ⟨rfl, eX1_choiceFigures_57⟩ rfl
  · refine (go_iconst (v := 1) eX1_choiceFigures_7 rfl).run ?_
    refine (go_istore_n 2 (L' := [some (.int x0), some (.int x1), some (.int 1)]) eX1_choiceFigures_8 rfl (Nat.le_of_ble_eq_true rfl) rfl).run ?_
    exact (k2 h1)

set_option maxRecDepth 20000 in
theorem bX1_choiceFigures_9 {d : Nat} {Q : Option Value → St → Prop} (x0 : Int32) (x1 : Int32) (x2 : Int32) (σ : St) 
    (k1 : (12 : Int32) < x2 → Run MX1_choiceFigures (d + 3) 2 [some (.int x0), some (.int (x1 + 1)), none] [] σ Q)
    (k2 : x2 ≤ 12 → x1 < x2 → Run MX1_choiceFigures (d + 3) 2 [some (.int x0), some (.int (x1 + 1)), none] [] σ Q)
    (k3 : x2 ≤ 12 → x2 ≤ x1 → x0 < x2 → Run MX1_choiceFigures (d + 3) 9 [some (.int x0), some (.int x1), some (.int (x2 + 1))] [] σ Q)
    (k4 : x2 ≤ 12 → x2 ≤ x1 → x2 ≤ x0 → Ct yX1_choicePlaces MX1_choicePlaces (d + 2) [.int x2, .int x2, .int x1] σ (fun v σ1 => Run MX1_choiceFigures (d + 3) 31 [some (.int x0), some (.int x1), some (.int x2)] (v.toList ++ []) σ1 Q))
    : Run MX1_choiceFigures (d + 3) 9 [some (.int x0), some (.int x1), some (.int x2)] [] σ Q := by
  refine (go_iload_n 2 eX1_choiceFigures_9 rfl rfl).run ?_
  refine (go_bipush (v := 12) eX1_choiceFigures_10 rfl).run ?_
  refine (bi_gt 48 eX1_choiceFigures_12 rfl).run (fun h1 => ?_) (fun h1 => ?_)
  · refine (go_iinc 1 (v := (x1 + 1)) (L' := [some (.int x0), some (.int (x1 + 1)), some (.int x2)]) eX1_choiceFigures_48 rfl rfl (Nat.le_of_ble_eq_true rfl) rfl).run ?_
    refine (go_goto 2 eX1_choiceFigures_51 rfl).run ?_
    refine (go_sub (L' := [some (.int x0), some (.int (x1 + 1)), none]) (lsub_keep (lsub_keep (lsub_drop lsub_nil)))).run ?_
    exact (k1 h1)
  · refine (go_iload_n 2 eX1_choiceFigures_15 rfl rfl).run ?_
    refine (go_iload_n 1 eX1_choiceFigures_16 rfl rfl).run ?_
    refine (bi_gt 48 eX1_choiceFigures_17 rfl).run (fun h2 => ?_) (fun h2 => ?_)
    · refine (go_iinc 1 (v := (x1 + 1)) (L' := [some (.int x0), some (.int (x1 + 1)), some (.int x2)]) eX1_choiceFigures_48 rfl rfl (Nat.le_of_ble_eq_true rfl) rfl).run ?_
      refine (go_goto 2 eX1_choiceFigures_51 rfl).run ?_
      refine (go_sub (L' := [some (.int x0), some (.int (x1 + 1)), none]) (lsub_keep (lsub_keep (lsub_drop lsub_nil)))).run ?_
      exact (k2 h1 h2)
    · refine (go_iload_n 2 eX1_choiceFigures_20 rfl rfl).run ?_
      refine (go_iload_n 0 eX1_choiceFigures_21 rfl rfl).run ?_
      refine (bi_gt 42 eX1_choiceFigures_22 rfl).run (fun h3 => ?_) (fun h3 => ?_)
      · refine (go_iinc 2 (v := (x2 + 1)) (L' := [some (.int x0), some (.int x1), some (.int (x2 + 1))]) eX1_choiceFigures_42 rfl rfl (Nat.le_of_ble_eq_true rfl) rfl).run ?_
        refine (go_goto 9 eX1_choiceFigures_45 rfl).run ?_
        exact (k3 h1 h2 h3)
      · refine (go_iload_n 2 eX1_choiceFigures_25 rfl rfl).run ?_
        refine (go_iload_n 2 eX1_choiceFigures_26 rfl rfl).run ?_
        refine (go_iload_n 1 eX1_choiceFigures_27 rfl rfl).run ?_
        exact Run.callS (d := (d + 2)) (As := [.int x2, .int x2, .int x1]) mX1_choicePlaces lkX1_76 rfl rfl rfl (Nat.le_of_ble_eq_true rfl) eX1_choiceFigures_28 (k4 h1 h2 h3)

set_option maxRecDepth 20000 in
theorem bX1_choiceFigures_31 {d : Nat} {Q : Option Value → St → Prop} (x0 : Int32) (x1 : Int32) (x2 : Int32) (s0 : Int32) (σ : St) 
    (k1 : s0 < x0 → Run MX1_choiceFigures (d + 3) 9 [some (.int x0), some (.int x1), some (.int (x2 + 1))] [] σ Q)
    (k2 : x0 ≤ s0 → Ct yX1_leastChoiceFigures MX1_leastChoiceFigures (d + 2) [.int x2, .int x0, .int x1] σ (fun v σ1 => Run MX1_choiceFigures (d + 3) 41 [none, none, none] (v.toList ++ []) σ1 Q))
    : Run MX1_choiceFigures (d + 3) 31 [some (.int x0), some (.int x1), some (.int x2)] [.int s0] σ Q := by
  refine (go_iload_n 0 eX1_choiceFigures_31 rfl rfl).run ?_
  refine (bi_lt 42 eX1_choiceFigures_32 rfl).run (fun h1 => ?_) (fun h1 => ?_)
  · refine (go_iinc 2 (v := (x2 + 1)) (L' := [some (.int x0), some (.int x1), some (.int (x2 + 1))]) eX1_choiceFigures_42 rfl rfl (Nat.le_of_ble_eq_true rfl) rfl).run ?_
    refine (go_goto 9 eX1_choiceFigures_45 rfl).run ?_
    exact (k1 h1)
  · refine (go_iload_n 2 eX1_choiceFigures_35 rfl rfl).run ?_
    refine (go_iload_n 0 eX1_choiceFigures_36 rfl rfl).run ?_
    refine (go_iload_n 1 eX1_choiceFigures_37 rfl rfl).run ?_
    refine (go_sub (L' := [none, none, none]) (lsub_drop (lsub_drop (lsub_drop lsub_nil)))).run ?_
    exact Run.callS (d := (d + 2)) (As := [.int x2, .int x0, .int x1]) mX1_leastChoiceFigures lkX1_79 rfl rfl rfl (Nat.le_of_ble_eq_true rfl) eX1_choiceFigures_38 (k2 h1)

set_option maxRecDepth 20000 in
theorem bX1_choiceFigures_41 {d : Nat} {Q : Option Value → St → Prop} (s0 : Int64) (σ : St) 
    (k1 : Q (some (.long s0)) σ)
    : Run MX1_choiceFigures (d + 3) 41 [none, none, none] [.long s0] σ Q := by
  exact Run.ret (v := some (.long s0)) k1 ⟨rfl, eX1_choiceFigures_41⟩ rfl

/-! CarryNets$Net.row -/
theorem eX6_row_0 : decode MX6_row.2.1 0 = .ok (.aload_n 0, 1) := by decide +kernel
theorem eX6_row_1 : decode MX6_row.2.1 1 = .ok (.getfield 18, 3) := by decide +kernel
theorem eX6_row_4 : decode MX6_row.2.1 4 = .ok (.iload_n 1, 1) := by decide +kernel
theorem eX6_row_5 : decode MX6_row.2.1 5 = .ok (.invokestatic 44, 3) := by decide +kernel
theorem eX6_row_8 : decode MX6_row.2.1 8 = .ok (.ireturn, 1) := by decide +kernel
set_option maxRecDepth 20000 in
theorem bX6_row_0 {d : Nat} {Q : Option Value → St → Prop} (o : Nat) (x1 : Int32) (σ : St) (ho : kd o = 5) 
    (k1 : Q (some (.int ((aG (gr o 3) x1 σ)))) σ)
    : Run MX6_row (d + 1) 0 [some (.ref o), some (.int x1)] [] σ Q := by
  refine (go_aload_n 0 eX6_row_0 rfl rfl).run ?_
  refine (go_getr (r := gr o 3) flX6_18 rf_5_3 ho rfl eX6_row_1).run ?_
  refine (go_iload_n 1 eX6_row_4 rfl rfl).run ?_
  refine Run.callS1 (d := d) (As := [.ref (gr o 3), .int x1]) (r := .int ((aG (gr o 3) x1 σ))) mX10_at lkX6_44 rfl rfl rfl (Nat.le_of_ble_eq_true rfl) eX6_row_5 (qX10_at d (gr o 3) x1 σ (kf_5_3 ho).1 ) ?_
  exact Run.ret (v := some (.int ((aG (gr o 3) x1 σ)))) k1 ⟨Or.inl rfl, eX6_row_8⟩ rfl

theorem qX6_row (d : Nat) (o : Nat) (x1 : Int32) (σ : St) (ho : kd o = 5) : Ct yX6_row MX6_row (d + 1) [.ref o, .int x1] σ (fun v σ1 => v = some (.int ((aG (gr o 3) x1 σ))) ∧ σ1 = σ) :=
  Ct.of mX6_row.1 (Nat.le_of_ble_eq_true rfl) (bX6_row_0 o x1 σ ho  (⟨by first | rfl | (simp only [true_and, and_true, false_and, and_false, true_or, or_true, false_or, or_false, not_true_eq_false, not_false_eq_true, if_true, if_false]; done) | (simp [bI]; done), by first | rfl | (simp only [true_and, and_true, false_and, and_false, true_or, or_true, false_or, or_false, not_true_eq_false, not_false_eq_true, if_true, if_false]; done) | (simp [bI]; done)⟩))

/-! CarryNets$Spans.takenBy -/
theorem eX8_takenBy_0 : decode MX8_takenBy.2.1 0 = .ok (.aload_n 0, 1) := by decide +kernel
theorem eX8_takenBy_1 : decode MX8_takenBy.2.1 1 = .ok (.getfield 15, 3) := by decide +kernel
theorem eX8_takenBy_4 : decode MX8_takenBy.2.1 4 = .ok (.iload_n 1, 1) := by decide +kernel
theorem eX8_takenBy_5 : decode MX8_takenBy.2.1 5 = .ok (.invokestatic 29, 3) := by decide +kernel
theorem eX8_takenBy_8 : decode MX8_takenBy.2.1 8 = .ok (.ireturn, 1) := by decide +kernel
set_option maxRecDepth 20000 in
theorem bX8_takenBy_0 {d : Nat} {Q : Option Value → St → Prop} (o : Nat) (x1 : Int32) (σ : St) (ho : kd o = 7) 
    (k1 : Q (some (.int ((aG (gr o 2) x1 σ)))) σ)
    : Run MX8_takenBy (d + 1) 0 [some (.ref o), some (.int x1)] [] σ Q := by
  refine (go_aload_n 0 eX8_takenBy_0 rfl rfl).run ?_
  refine (go_getr (r := gr o 2) flX8_15 rf_7_2 ho rfl eX8_takenBy_1).run ?_
  refine (go_iload_n 1 eX8_takenBy_4 rfl rfl).run ?_
  refine Run.callS1 (d := d) (As := [.ref (gr o 2), .int x1]) (r := .int ((aG (gr o 2) x1 σ))) mX10_at lkX8_29 rfl rfl rfl (Nat.le_of_ble_eq_true rfl) eX8_takenBy_5 (qX10_at d (gr o 2) x1 σ (kf_7_2 ho).1 ) ?_
  exact Run.ret (v := some (.int ((aG (gr o 2) x1 σ)))) k1 ⟨Or.inl rfl, eX8_takenBy_8⟩ rfl

theorem qX8_takenBy (d : Nat) (o : Nat) (x1 : Int32) (σ : St) (ho : kd o = 7) : Ct yX8_takenBy MX8_takenBy (d + 1) [.ref o, .int x1] σ (fun v σ1 => v = some (.int ((aG (gr o 2) x1 σ))) ∧ σ1 = σ) :=
  Ct.of mX8_takenBy.1 (Nat.le_of_ble_eq_true rfl) (bX8_takenBy_0 o x1 σ ho  (⟨by first | rfl | (simp only [true_and, and_true, false_and, and_false, true_or, or_true, false_or, or_false, not_true_eq_false, not_false_eq_true, if_true, if_false]; done) | (simp [bI]; done), by first | rfl | (simp only [true_and, and_true, false_and, and_false, true_or, or_true, false_or, or_false, not_true_eq_false, not_false_eq_true, if_true, if_false]; done) | (simp [bI]; done)⟩))

/-! CarryNets$Clock.readyAt -/
theorem eX2_readyAt_0 : decode MX2_readyAt.2.1 0 = .ok (.aload_n 0, 1) := by decide +kernel
theorem eX2_readyAt_1 : decode MX2_readyAt.2.1 1 = .ok (.getfield 22, 3) := by decide +kernel
theorem eX2_readyAt_4 : decode MX2_readyAt.2.1 4 = .ok (.iload_n 1, 1) := by decide +kernel
theorem eX2_readyAt_5 : decode MX2_readyAt.2.1 5 = .ok (.invokestatic 37, 3) := by decide +kernel
theorem eX2_readyAt_8 : decode MX2_readyAt.2.1 8 = .ok (.ireturn, 1) := by decide +kernel
set_option maxRecDepth 20000 in
theorem bX2_readyAt_0 {d : Nat} {Q : Option Value → St → Prop} (x1 : Int32) (σ : St) 
    (k1 : Q (some (.int ((aG 16 x1 σ)))) σ)
    : Run MX2_readyAt (d + 1) 0 [some (.ref 14), some (.int x1)] [] σ Q := by
  refine (go_aload_n 0 eX2_readyAt_0 rfl rfl).run ?_
  refine (go_getr flX2_22 rf_2_3 kd_14 gr_14_3 eX2_readyAt_1).run ?_
  refine (go_iload_n 1 eX2_readyAt_4 rfl rfl).run ?_
  refine Run.callS1 (d := d) (As := [.ref 16, .int x1]) (r := .int ((aG 16 x1 σ))) mX10_at lkX2_37 rfl rfl rfl (Nat.le_of_ble_eq_true rfl) eX2_readyAt_5 (qX10_at d 16 x1 σ kd_16 ) ?_
  exact Run.ret (v := some (.int ((aG 16 x1 σ)))) k1 ⟨Or.inl rfl, eX2_readyAt_8⟩ rfl

theorem qX2_readyAt (d : Nat) (x1 : Int32) (σ : St) : Ct yX2_readyAt MX2_readyAt (d + 1) [.ref 14, .int x1] σ (fun v σ1 => v = some (.int ((aG 16 x1 σ))) ∧ σ1 = σ) :=
  Ct.of mX2_readyAt.1 (Nat.le_of_ble_eq_true rfl) (bX2_readyAt_0 x1 σ   (⟨by first | rfl | (simp only [true_and, and_true, false_and, and_false, true_or, or_true, false_or, or_false, not_true_eq_false, not_false_eq_true, if_true, if_false]; done) | (simp [bI]; done), by first | rfl | (simp only [true_and, and_true, false_and, and_false, true_or, or_true, false_or, or_false, not_true_eq_false, not_false_eq_true, if_true, if_false]; done) | (simp [bI]; done)⟩))

/-! CarryNets$Spans.loadOf -/
theorem eX8_loadOf_0 : decode MX8_loadOf.2.1 0 = .ok (.aload_n 0, 1) := by decide +kernel
theorem eX8_loadOf_1 : decode MX8_loadOf.2.1 1 = .ok (.getfield 18, 3) := by decide +kernel
theorem eX8_loadOf_4 : decode MX8_loadOf.2.1 4 = .ok (.iload_n 1, 1) := by decide +kernel
theorem eX8_loadOf_5 : decode MX8_loadOf.2.1 5 = .ok (.invokestatic 29, 3) := by decide +kernel
theorem eX8_loadOf_8 : decode MX8_loadOf.2.1 8 = .ok (.ireturn, 1) := by decide +kernel
set_option maxRecDepth 20000 in
theorem bX8_loadOf_0 {d : Nat} {Q : Option Value → St → Prop} (o : Nat) (x1 : Int32) (σ : St) (ho : kd o = 7) 
    (k1 : Q (some (.int ((aG (gr o 3) x1 σ)))) σ)
    : Run MX8_loadOf (d + 1) 0 [some (.ref o), some (.int x1)] [] σ Q := by
  refine (go_aload_n 0 eX8_loadOf_0 rfl rfl).run ?_
  refine (go_getr (r := gr o 3) flX8_18 rf_7_3 ho rfl eX8_loadOf_1).run ?_
  refine (go_iload_n 1 eX8_loadOf_4 rfl rfl).run ?_
  refine Run.callS1 (d := d) (As := [.ref (gr o 3), .int x1]) (r := .int ((aG (gr o 3) x1 σ))) mX10_at lkX8_29 rfl rfl rfl (Nat.le_of_ble_eq_true rfl) eX8_loadOf_5 (qX10_at d (gr o 3) x1 σ (kf_7_3 ho).1 ) ?_
  exact Run.ret (v := some (.int ((aG (gr o 3) x1 σ)))) k1 ⟨Or.inl rfl, eX8_loadOf_8⟩ rfl

theorem qX8_loadOf (d : Nat) (o : Nat) (x1 : Int32) (σ : St) (ho : kd o = 7) : Ct yX8_loadOf MX8_loadOf (d + 1) [.ref o, .int x1] σ (fun v σ1 => v = some (.int ((aG (gr o 3) x1 σ))) ∧ σ1 = σ) :=
  Ct.of mX8_loadOf.1 (Nat.le_of_ble_eq_true rfl) (bX8_loadOf_0 o x1 σ ho  (⟨by first | rfl | (simp only [true_and, and_true, false_and, and_false, true_or, or_true, false_or, or_false, not_true_eq_false, not_false_eq_true, if_true, if_false]; done) | (simp [bI]; done), by first | rfl | (simp only [true_and, and_true, false_and, and_false, true_or, or_true, false_or, or_false, not_true_eq_false, not_false_eq_true, if_true, if_false]; done) | (simp [bI]; done)⟩))

/-! CarryNets$Clock.passRow -/
theorem eX2_passRow_0 : decode MX2_passRow.2.1 0 = .ok (.iload_n 1, 1) := by decide +kernel
theorem eX2_passRow_1 : decode MX2_passRow.2.1 1 = .ok (.iconst 1, 1) := by decide +kernel
theorem eX2_passRow_2 : decode MX2_passRow.2.1 2 = .ok (.isub, 1) := by decide +kernel
theorem eX2_passRow_3 : decode MX2_passRow.2.1 3 = .ok (.istore_n 2, 1) := by decide +kernel
theorem eX2_passRow_4 : decode MX2_passRow.2.1 4 = .ok (.iload_n 2, 1) := by decide +kernel
theorem eX2_passRow_5 : decode MX2_passRow.2.1 5 = .ok (.ifCond .le 70, 3) := by decide +kernel
theorem eX2_passRow_8 : decode MX2_passRow.2.1 8 = .ok (.aload_n 0, 1) := by decide +kernel
theorem eX2_passRow_9 : decode MX2_passRow.2.1 9 = .ok (.getfield 28, 3) := by decide +kernel
theorem eX2_passRow_12 : decode MX2_passRow.2.1 12 = .ok (.iload_n 2, 1) := by decide +kernel
theorem eX2_passRow_13 : decode MX2_passRow.2.1 13 = .ok (.invokevirtual 71, 3) := by decide +kernel
theorem eX2_passRow_16 : decode MX2_passRow.2.1 16 = .ok (.istore_n 3, 1) := by decide +kernel
theorem eX2_passRow_17 : decode MX2_passRow.2.1 17 = .ok (.iload_n 3, 1) := by decide +kernel
theorem eX2_passRow_18 : decode MX2_passRow.2.1 18 = .ok (.bipush (-4), 2) := by decide +kernel
theorem eX2_passRow_20 : decode MX2_passRow.2.1 20 = .ok (.if_icmp .eq 49, 3) := by decide +kernel
theorem eX2_passRow_23 : decode MX2_passRow.2.1 23 = .ok (.aload_n 0, 1) := by decide +kernel
theorem eX2_passRow_24 : decode MX2_passRow.2.1 24 = .ok (.iload_n 2, 1) := by decide +kernel
theorem eX2_passRow_25 : decode MX2_passRow.2.1 25 = .ok (.invokevirtual 62, 3) := by decide +kernel
theorem eX2_passRow_28 : decode MX2_passRow.2.1 28 = .ok (.aload_n 0, 1) := by decide +kernel
theorem eX2_passRow_29 : decode MX2_passRow.2.1 29 = .ok (.iload_n 3, 1) := by decide +kernel
theorem eX2_passRow_30 : decode MX2_passRow.2.1 30 = .ok (.invokevirtual 62, 3) := by decide +kernel
theorem eX2_passRow_33 : decode MX2_passRow.2.1 33 = .ok (.invokestatic 65, 3) := by decide +kernel
theorem eX2_passRow_36 : decode MX2_passRow.2.1 36 = .ok (.istore 4, 2) := by decide +kernel
theorem eX2_passRow_38 : decode MX2_passRow.2.1 38 = .ok (.aload_n 0, 1) := by decide +kernel
theorem eX2_passRow_39 : decode MX2_passRow.2.1 39 = .ok (.getfield 22, 3) := by decide +kernel
theorem eX2_passRow_42 : decode MX2_passRow.2.1 42 = .ok (.iload_n 2, 1) := by decide +kernel
theorem eX2_passRow_43 : decode MX2_passRow.2.1 43 = .ok (.iload 4, 2) := by decide +kernel
theorem eX2_passRow_45 : decode MX2_passRow.2.1 45 = .ok (.aload_n 0, 1) := by decide +kernel
theorem eX2_passRow_46 : decode MX2_passRow.2.1 46 = .ok (.getfield 9, 3) := by decide +kernel
theorem eX2_passRow_49 : decode MX2_passRow.2.1 49 = .ok (.iadd, 1) := by decide +kernel
theorem eX2_passRow_50 : decode MX2_passRow.2.1 50 = .ok (.aload_n 0, 1) := by decide +kernel
theorem eX2_passRow_51 : decode MX2_passRow.2.1 51 = .ok (.getfield 15, 3) := by decide +kernel
theorem eX2_passRow_54 : decode MX2_passRow.2.1 54 = .ok (.aload_n 0, 1) := by decide +kernel
theorem eX2_passRow_55 : decode MX2_passRow.2.1 55 = .ok (.getfield 28, 3) := by decide +kernel
theorem eX2_passRow_58 : decode MX2_passRow.2.1 58 = .ok (.iload_n 3, 1) := by decide +kernel
theorem eX2_passRow_59 : decode MX2_passRow.2.1 59 = .ok (.invokevirtual 74, 3) := by decide +kernel
theorem eX2_passRow_62 : decode MX2_passRow.2.1 62 = .ok (.iconst 1, 1) := by decide +kernel
theorem eX2_passRow_63 : decode MX2_passRow.2.1 63 = .ok (.isub, 1) := by decide +kernel
theorem eX2_passRow_64 : decode MX2_passRow.2.1 64 = .ok (.imul, 1) := by decide +kernel
theorem eX2_passRow_65 : decode MX2_passRow.2.1 65 = .ok (.iadd, 1) := by decide +kernel
theorem eX2_passRow_66 : decode MX2_passRow.2.1 66 = .ok (.invokestatic 41, 3) := by decide +kernel
theorem eX2_passRow_69 : decode MX2_passRow.2.1 69 = .ok (.iinc 2 (-1), 3) := by decide +kernel
theorem eX2_passRow_72 : decode MX2_passRow.2.1 72 = .ok (.goto (-68), 3) := by decide +kernel
theorem eX2_passRow_75 : decode MX2_passRow.2.1 75 = .ok (.return_, 1) := by decide +kernel
set_option maxRecDepth 20000 in
theorem bX2_passRow_0 {d : Nat} {Q : Option Value → St → Prop} (x1 : Int32) (σ : St) 
    (k1 : Run MX2_passRow (d + 2) 4 [some (.ref 14), none, some (.int (x1 - 1)), none, none] [] σ Q)
    : Run MX2_passRow (d + 2) 0 [some (.ref 14), some (.int x1), none, none, none] [] σ Q := by
  refine (go_iload_n 1 eX2_passRow_0 rfl rfl).run ?_
  refine (go_iconst (v := 1) eX2_passRow_1 rfl).run ?_
  refine (go_isub eX2_passRow_2).run ?_
  refine (go_istore_n 2 (L' := [some (.ref 14), some (.int x1), some (.int (x1 - 1)), none, none]) eX2_passRow_3 rfl (Nat.le_of_ble_eq_true rfl) rfl).run ?_
  refine (go_sub (L' := [some (.ref 14), none, some (.int (x1 - 1)), none, none]) (lsub_keep (lsub_drop (lsub_keep (lsub_keep (lsub_keep lsub_nil)))))).run ?_
  exact k1

set_option maxRecDepth 20000 in
theorem bX2_passRow_4 {d : Nat} {Q : Option Value → St → Prop} (x2 : Int32) (σ : St) 
    (k1 : x2 ≤ 0 → Q (none) σ)
    (k2 : (0 : Int32) < x2 → (((aG (gr 17 2) x2 σ))) = (-4) → Run MX2_passRow (d + 2) 4 [some (.ref 14), none, some (.int (x2 + (-1))), none, none] [] σ Q)
    (k3 : (0 : Int32) < x2 → ¬ (((aG (gr 17 2) x2 σ))) = (-4) → Run MX2_passRow (d + 2) 4 [some (.ref 14), none, some (.int (x2 + (-1))), none, none] [] (aP 16 x2 (((mxI (((aG 16 x2 σ))) (((aG 16 (((aG (gr 17 2) x2 σ))) σ)))) + (σ.1 14 0)) + ((σ.1 14 1) * ((((aG (gr 17 3) (((aG (gr 17 2) x2 σ))) σ))) - 1))) σ) Q)
    : Run MX2_passRow (d + 2) 4 [some (.ref 14), none, some (.int x2), none, none] [] σ Q := by
  refine (go_iload_n 2 eX2_passRow_4 rfl rfl).run ?_
  refine (bz_le 75 eX2_passRow_5 rfl).run (fun h1 => ?_) (fun h1 => ?_)
  · exact Run.ret (v := none) (k1 h1) ⟨rfl, eX2_passRow_75⟩ rfl
  · refine (go_aload_n 0 eX2_passRow_8 rfl rfl).run ?_
    refine (go_getr flX2_28 rf_2_4 kd_14 gr_14_4 eX2_passRow_9).run ?_
    refine (go_iload_n 2 eX2_passRow_12 rfl rfl).run ?_
    refine Run.callV1 (d := (d + 1)) (As := [.int x2]) (r := .int (((aG (gr 17 2) x2 σ)))) mX8_takenBy lkX2_71 kd_17 (by decide) rfl rfl rfl rfl rfl (Nat.le_of_ble_eq_true rfl) eX2_passRow_13 (qX8_takenBy d 17 x2 σ kd_17 ) ?_
    refine (go_istore_n 3 (L' := [some (.ref 14), none, some (.int x2), some (.int (((aG (gr 17 2) x2 σ)))), none]) eX2_passRow_16 rfl (Nat.le_of_ble_eq_true rfl) rfl).run ?_
    refine (go_iload_n 3 eX2_passRow_17 rfl rfl).run ?_
    refine (go_bipush (v := -4) eX2_passRow_18 rfl).run ?_
    refine (bi_eq 69 eX2_passRow_20 rfl).run (fun h2 => ?_) (fun h2 => ?_)
    · refine (go_iinc 2 (v := (x2 + (-1))) (L' := [some (.ref 14), none, some (.int (x2 + (-1))), some (.int (((aG (gr 17 2) x2 σ)))), none]) eX2_passRow_69 rfl rfl (Nat.le_of_ble_eq_true rfl) rfl).run ?_
      refine (go_goto 4 eX2_passRow_72 rfl).run ?_
      refine (go_sub (L' := [some (.ref 14), none, some (.int (x2 + (-1))), none, none]) (lsub_keep (lsub_keep (lsub_keep (lsub_drop (lsub_keep lsub_nil)))))).run ?_
      exact (k2 h1 h2)
    · refine (go_aload_n 0 eX2_passRow_23 rfl rfl).run ?_
      refine (go_iload_n 2 eX2_passRow_24 rfl rfl).run ?_
      refine Run.callV1 (d := (d + 1)) (As := [.int x2]) (r := .int (((aG 16 x2 σ)))) mX2_readyAt lkX2_62 kd_14 (by decide) rfl rfl rfl rfl rfl (Nat.le_of_ble_eq_true rfl) eX2_passRow_25 (qX2_readyAt d x2 σ  ) ?_
      refine (go_aload_n 0 eX2_passRow_28 rfl rfl).run ?_
      refine (go_iload_n 3 eX2_passRow_29 rfl rfl).run ?_
      refine Run.callV1 (d := (d + 1)) (As := [.int (((aG (gr 17 2) x2 σ)))]) (r := .int (((aG 16 (((aG (gr 17 2) x2 σ))) σ)))) mX2_readyAt lkX2_62 kd_14 (by decide) rfl rfl rfl rfl rfl (Nat.le_of_ble_eq_true rfl) eX2_passRow_30 (qX2_readyAt d (((aG (gr 17 2) x2 σ))) σ  ) ?_
      refine (go_maxN mm_ok lkX2_65 rfl (Nat.le_of_ble_eq_true rfl) (by omega) eX2_passRow_33).run ?_
      refine (go_istore 4 (L' := [some (.ref 14), none, some (.int x2), some (.int (((aG (gr 17 2) x2 σ)))), some (.int (mxI (((aG 16 x2 σ))) (((aG 16 (((aG (gr 17 2) x2 σ))) σ)))))]) eX2_passRow_36 (Nat.le_of_ble_eq_true rfl) rfl).run ?_
      refine (go_aload_n 0 eX2_passRow_38 rfl rfl).run ?_
      refine (go_getr flX2_22 rf_2_3 kd_14 gr_14_3 eX2_passRow_39).run ?_
      refine (go_iload_n 2 eX2_passRow_42 rfl rfl).run ?_
      refine (go_iload 4 eX2_passRow_43 rfl).run ?_
      refine (go_aload_n 0 eX2_passRow_45 rfl rfl).run ?_
      refine (go_geti flX2_9 rf_2_0 kd_14 eX2_passRow_46).run ?_
      refine (go_iadd eX2_passRow_49).run ?_
      refine (go_aload_n 0 eX2_passRow_50 rfl rfl).run ?_
      refine (go_geti flX2_15 rf_2_1 kd_14 eX2_passRow_51).run ?_
      refine (go_aload_n 0 eX2_passRow_54 rfl rfl).run ?_
      refine (go_getr flX2_28 rf_2_4 kd_14 gr_14_4 eX2_passRow_55).run ?_
      refine (go_iload_n 3 eX2_passRow_58 rfl rfl).run ?_
      refine Run.callV1 (d := (d + 1)) (As := [.int (((aG (gr 17 2) x2 σ)))]) (r := .int (((aG (gr 17 3) (((aG (gr 17 2) x2 σ))) σ)))) mX8_loadOf lkX2_74 kd_17 (by decide) rfl rfl rfl rfl rfl (Nat.le_of_ble_eq_true rfl) eX2_passRow_59 (qX8_loadOf d 17 (((aG (gr 17 2) x2 σ))) σ kd_17 ) ?_
      refine (go_iconst (v := 1) eX2_passRow_62 rfl).run ?_
      refine (go_isub eX2_passRow_63).run ?_
      refine (go_imul eX2_passRow_64).run ?_
      refine (go_iadd eX2_passRow_65).run ?_
      refine Run.callS0 (d := (d + 1)) (As := [.ref 16, .int x2, .int (((mxI (((aG 16 x2 σ))) (((aG 16 (((aG (gr 17 2) x2 σ))) σ)))) + (σ.1 14 0)) + ((σ.1 14 1) * ((((aG (gr 17 3) (((aG (gr 17 2) x2 σ))) σ))) - 1)))]) mX10_put lkX2_41 rfl rfl rfl (Nat.le_of_ble_eq_true rfl) eX2_passRow_66 (qX10_put (d + 1) 16 x2 (((mxI (((aG 16 x2 σ))) (((aG 16 (((aG (gr 17 2) x2 σ))) σ)))) + (σ.1 14 0)) + ((σ.1 14 1) * ((((aG (gr 17 3) (((aG (gr 17 2) x2 σ))) σ))) - 1))) σ kd_16 ) ?_
      refine (go_iinc 2 (v := (x2 + (-1))) (L' := [some (.ref 14), none, some (.int (x2 + (-1))), some (.int (((aG (gr 17 2) x2 σ)))), some (.int (mxI (((aG 16 x2 σ))) (((aG 16 (((aG (gr 17 2) x2 σ))) σ)))))]) eX2_passRow_69 rfl rfl (Nat.le_of_ble_eq_true rfl) rfl).run ?_
      refine (go_goto 4 eX2_passRow_72 rfl).run ?_
      refine (go_sub (L' := [some (.ref 14), none, some (.int (x2 + (-1))), none, none]) (lsub_keep (lsub_keep (lsub_keep (lsub_drop (lsub_drop lsub_nil)))))).run ?_
      exact (k3 h1 h2)

/-! CarryNets$Clock.follow -/
theorem eX2_follow_0 : decode MX2_follow.2.1 0 = .ok (.iconst 0, 1) := by decide +kernel
theorem eX2_follow_1 : decode MX2_follow.2.1 1 = .ok (.istore_n 2, 1) := by decide +kernel
theorem eX2_follow_2 : decode MX2_follow.2.1 2 = .ok (.iload_n 2, 1) := by decide +kernel
theorem eX2_follow_3 : decode MX2_follow.2.1 3 = .ok (.aload_n 1, 1) := by decide +kernel
theorem eX2_follow_4 : decode MX2_follow.2.1 4 = .ok (.getfield 32, 3) := by decide +kernel
theorem eX2_follow_7 : decode MX2_follow.2.1 7 = .ok (.if_icmp .ge 25, 3) := by decide +kernel
theorem eX2_follow_10 : decode MX2_follow.2.1 10 = .ok (.aload_n 0, 1) := by decide +kernel
theorem eX2_follow_11 : decode MX2_follow.2.1 11 = .ok (.getfield 22, 3) := by decide +kernel
theorem eX2_follow_14 : decode MX2_follow.2.1 14 = .ok (.iload_n 2, 1) := by decide +kernel
theorem eX2_follow_15 : decode MX2_follow.2.1 15 = .ok (.aload_n 0, 1) := by decide +kernel
theorem eX2_follow_16 : decode MX2_follow.2.1 16 = .ok (.getfield 18, 3) := by decide +kernel
theorem eX2_follow_19 : decode MX2_follow.2.1 19 = .ok (.iload_n 2, 1) := by decide +kernel
theorem eX2_follow_20 : decode MX2_follow.2.1 20 = .ok (.invokestatic 37, 3) := by decide +kernel
theorem eX2_follow_23 : decode MX2_follow.2.1 23 = .ok (.invokestatic 41, 3) := by decide +kernel
theorem eX2_follow_26 : decode MX2_follow.2.1 26 = .ok (.iinc 2 1, 3) := by decide +kernel
theorem eX2_follow_29 : decode MX2_follow.2.1 29 = .ok (.goto (-27), 3) := by decide +kernel
theorem eX2_follow_32 : decode MX2_follow.2.1 32 = .ok (.aload_n 0, 1) := by decide +kernel
theorem eX2_follow_33 : decode MX2_follow.2.1 33 = .ok (.getfield 28, 3) := by decide +kernel
theorem eX2_follow_36 : decode MX2_follow.2.1 36 = .ok (.aload_n 1, 1) := by decide +kernel
theorem eX2_follow_37 : decode MX2_follow.2.1 37 = .ok (.getfield 32, 3) := by decide +kernel
theorem eX2_follow_40 : decode MX2_follow.2.1 40 = .ok (.invokevirtual 45, 3) := by decide +kernel
theorem eX2_follow_43 : decode MX2_follow.2.1 43 = .ok (.iconst 0, 1) := by decide +kernel
theorem eX2_follow_44 : decode MX2_follow.2.1 44 = .ok (.istore_n 2, 1) := by decide +kernel
theorem eX2_follow_45 : decode MX2_follow.2.1 45 = .ok (.iload_n 2, 1) := by decide +kernel
theorem eX2_follow_46 : decode MX2_follow.2.1 46 = .ok (.aload_n 1, 1) := by decide +kernel
theorem eX2_follow_47 : decode MX2_follow.2.1 47 = .ok (.getfield 49, 3) := by decide +kernel
theorem eX2_follow_50 : decode MX2_follow.2.1 50 = .ok (.if_icmp .ge 29, 3) := by decide +kernel
theorem eX2_follow_53 : decode MX2_follow.2.1 53 = .ok (.aload_n 0, 1) := by decide +kernel
theorem eX2_follow_54 : decode MX2_follow.2.1 54 = .ok (.getfield 28, 3) := by decide +kernel
theorem eX2_follow_57 : decode MX2_follow.2.1 57 = .ok (.aload_n 1, 1) := by decide +kernel
theorem eX2_follow_58 : decode MX2_follow.2.1 58 = .ok (.iload_n 2, 1) := by decide +kernel
theorem eX2_follow_59 : decode MX2_follow.2.1 59 = .ok (.invokevirtual 52, 3) := by decide +kernel
theorem eX2_follow_62 : decode MX2_follow.2.1 62 = .ok (.invokevirtual 56, 3) := by decide +kernel
theorem eX2_follow_65 : decode MX2_follow.2.1 65 = .ok (.aload_n 0, 1) := by decide +kernel
theorem eX2_follow_66 : decode MX2_follow.2.1 66 = .ok (.aload_n 1, 1) := by decide +kernel
theorem eX2_follow_67 : decode MX2_follow.2.1 67 = .ok (.getfield 32, 3) := by decide +kernel
theorem eX2_follow_70 : decode MX2_follow.2.1 70 = .ok (.invokevirtual 59, 3) := by decide +kernel
theorem eX2_follow_73 : decode MX2_follow.2.1 73 = .ok (.iinc 2 1, 3) := by decide +kernel
theorem eX2_follow_76 : decode MX2_follow.2.1 76 = .ok (.goto (-31), 3) := by decide +kernel
theorem eX2_follow_79 : decode MX2_follow.2.1 79 = .ok (.return_, 1) := by decide +kernel
set_option maxRecDepth 20000 in
theorem bX2_follow_0 {d : Nat} {Q : Option Value → St → Prop} (o1 : Nat) (σ : St) (ho1 : kd o1 = 5) 
    (k1 : Run MX2_follow (d + 3) 2 [some (.ref 14), some (.ref o1), some (.int 0)] [] σ Q)
    : Run MX2_follow (d + 3) 0 [some (.ref 14), some (.ref o1), none] [] σ Q := by
  refine (go_iconst (v := 0) eX2_follow_0 rfl).run ?_
  refine (go_istore_n 2 (L' := [some (.ref 14), some (.ref o1), some (.int 0)]) eX2_follow_1 rfl (Nat.le_of_ble_eq_true rfl) rfl).run ?_
  exact k1

set_option maxRecDepth 20000 in
theorem bX2_follow_2 {d : Nat} {Q : Option Value → St → Prop} (o1 : Nat) (x2 : Int32) (σ : St) (ho1 : kd o1 = 5) 
    (k1 : (σ.1 o1 0) ≤ x2 → Ct yX8_begin MX8_begin (d + 2) [.ref 17, .int (σ.1 o1 0)] σ (fun v σ1 => Run MX2_follow (d + 3) 43 [some (.ref 14), some (.ref o1), none] (v.toList ++ []) σ1 Q))
    (k2 : x2 < (σ.1 o1 0) → Run MX2_follow (d + 3) 2 [some (.ref 14), some (.ref o1), some (.int (x2 + 1))] [] (aP 16 x2 ((aG 15 x2 σ)) σ) Q)
    : Run MX2_follow (d + 3) 2 [some (.ref 14), some (.ref o1), some (.int x2)] [] σ Q := by
  refine (go_iload_n 2 eX2_follow_2 rfl rfl).run ?_
  refine (go_aload_n 1 eX2_follow_3 rfl rfl).run ?_
  refine (go_geti flX2_32 rf_5_0 ho1 eX2_follow_4).run ?_
  refine (bi_ge 32 eX2_follow_7 rfl).run (fun h1 => ?_) (fun h1 => ?_)
  · refine (go_aload_n 0 eX2_follow_32 rfl rfl).run ?_
    refine (go_getr flX2_28 rf_2_4 kd_14 gr_14_4 eX2_follow_33).run ?_
    refine (go_aload_n 1 eX2_follow_36 rfl rfl).run ?_
    refine (go_geti flX2_32 rf_5_0 ho1 eX2_follow_37).run ?_
    refine (go_sub (L' := [some (.ref 14), some (.ref o1), none]) (lsub_keep (lsub_keep (lsub_drop lsub_nil)))).run ?_
    exact Run.callV (d := (d + 2)) (As := [.int (σ.1 o1 0)]) mX8_begin lkX2_45 kd_17 (by decide) rfl rfl rfl rfl rfl (Nat.le_of_ble_eq_true rfl) eX2_follow_40 (k1 h1)
  · refine (go_aload_n 0 eX2_follow_10 rfl rfl).run ?_
    refine (go_getr flX2_22 rf_2_3 kd_14 gr_14_3 eX2_follow_11).run ?_
    refine (go_iload_n 2 eX2_follow_14 rfl rfl).run ?_
    refine (go_aload_n 0 eX2_follow_15 rfl rfl).run ?_
    refine (go_getr flX2_18 rf_2_2 kd_14 gr_14_2 eX2_follow_16).run ?_
    refine (go_iload_n 2 eX2_follow_19 rfl rfl).run ?_
    refine Run.callS1 (d := (d + 2)) (As := [.ref 15, .int x2]) (r := .int ((aG 15 x2 σ))) mX10_at lkX2_37 rfl rfl rfl (Nat.le_of_ble_eq_true rfl) eX2_follow_20 (qX10_at (d + 2) 15 x2 σ kd_15 ) ?_
    refine Run.callS0 (d := (d + 2)) (As := [.ref 16, .int x2, .int ((aG 15 x2 σ))]) mX10_put lkX2_41 rfl rfl rfl (Nat.le_of_ble_eq_true rfl) eX2_follow_23 (qX10_put (d + 2) 16 x2 ((aG 15 x2 σ)) σ kd_16 ) ?_
    refine (go_iinc 2 (v := (x2 + 1)) (L' := [some (.ref 14), some (.ref o1), some (.int (x2 + 1))]) eX2_follow_26 rfl rfl (Nat.le_of_ble_eq_true rfl) rfl).run ?_
    refine (go_goto 2 eX2_follow_29 rfl).run ?_
    exact (k2 h1)

set_option maxRecDepth 20000 in
theorem bX2_follow_43 {d : Nat} {Q : Option Value → St → Prop} (o1 : Nat) (σ : St) (ho1 : kd o1 = 5) 
    (k1 : Run MX2_follow (d + 3) 45 [some (.ref 14), some (.ref o1), some (.int 0)] [] σ Q)
    : Run MX2_follow (d + 3) 43 [some (.ref 14), some (.ref o1), none] [] σ Q := by
  refine (go_iconst (v := 0) eX2_follow_43 rfl).run ?_
  refine (go_istore_n 2 (L' := [some (.ref 14), some (.ref o1), some (.int 0)]) eX2_follow_44 rfl (Nat.le_of_ble_eq_true rfl) rfl).run ?_
  exact k1

set_option maxRecDepth 20000 in
theorem bX2_follow_45 {d : Nat} {Q : Option Value → St → Prop} (o1 : Nat) (x2 : Int32) (σ : St) (ho1 : kd o1 = 5) 
    (k1 : (σ.1 o1 1) ≤ x2 → Q (none) σ)
    (k2 : x2 < (σ.1 o1 1) → Ct yX8_join MX8_join (d + 2) [.ref 17, .int (((aG (gr o1 3) x2 σ)))] σ (fun v σ1 => Run MX2_follow (d + 3) 65 [some (.ref 14), some (.ref o1), some (.int x2)] (v.toList ++ []) σ1 Q))
    : Run MX2_follow (d + 3) 45 [some (.ref 14), some (.ref o1), some (.int x2)] [] σ Q := by
  refine (go_iload_n 2 eX2_follow_45 rfl rfl).run ?_
  refine (go_aload_n 1 eX2_follow_46 rfl rfl).run ?_
  refine (go_geti flX2_49 rf_5_1 ho1 eX2_follow_47).run ?_
  refine (bi_ge 79 eX2_follow_50 rfl).run (fun h1 => ?_) (fun h1 => ?_)
  · exact Run.ret (v := none) (k1 h1) ⟨rfl, eX2_follow_79⟩ rfl
  · refine (go_aload_n 0 eX2_follow_53 rfl rfl).run ?_
    refine (go_getr flX2_28 rf_2_4 kd_14 gr_14_4 eX2_follow_54).run ?_
    refine (go_aload_n 1 eX2_follow_57 rfl rfl).run ?_
    refine (go_iload_n 2 eX2_follow_58 rfl rfl).run ?_
    refine Run.callV1 (d := (d + 2)) (As := [.int x2]) (r := .int (((aG (gr o1 3) x2 σ)))) mX6_row lkX2_52 ho1 (by decide) rfl rfl rfl rfl rfl (Nat.le_of_ble_eq_true rfl) eX2_follow_59 (qX6_row (d + 1) o1 x2 σ ho1 ) ?_
    exact Run.callV (d := (d + 2)) (As := [.int (((aG (gr o1 3) x2 σ)))]) mX8_join lkX2_56 kd_17 (by decide) rfl rfl rfl rfl rfl (Nat.le_of_ble_eq_true rfl) eX2_follow_62 (k2 h1)

set_option maxRecDepth 20000 in
theorem bX2_follow_65 {d : Nat} {Q : Option Value → St → Prop} (o1 : Nat) (x2 : Int32) (σ : St) (ho1 : kd o1 = 5) 
    (k1 : Ct yX2_passRow MX2_passRow (d + 2) [.ref 14, .int (σ.1 o1 0)] σ (fun v σ1 => Run MX2_follow (d + 3) 73 [some (.ref 14), some (.ref o1), some (.int x2)] (v.toList ++ []) σ1 Q))
    : Run MX2_follow (d + 3) 65 [some (.ref 14), some (.ref o1), some (.int x2)] [] σ Q := by
  refine (go_aload_n 0 eX2_follow_65 rfl rfl).run ?_
  refine (go_aload_n 1 eX2_follow_66 rfl rfl).run ?_
  refine (go_geti flX2_32 rf_5_0 ho1 eX2_follow_67).run ?_
  exact Run.callV (d := (d + 2)) (As := [.int (σ.1 o1 0)]) mX2_passRow lkX2_59 kd_14 (by decide) rfl rfl rfl rfl rfl (Nat.le_of_ble_eq_true rfl) eX2_follow_70 k1

set_option maxRecDepth 20000 in
theorem bX2_follow_73 {d : Nat} {Q : Option Value → St → Prop} (o1 : Nat) (x2 : Int32) (σ : St) (ho1 : kd o1 = 5) 
    (k1 : Run MX2_follow (d + 3) 45 [some (.ref 14), some (.ref o1), some (.int (x2 + 1))] [] σ Q)
    : Run MX2_follow (d + 3) 73 [some (.ref 14), some (.ref o1), some (.int x2)] [] σ Q := by
  refine (go_iinc 2 (v := (x2 + 1)) (L' := [some (.ref 14), some (.ref o1), some (.int (x2 + 1))]) eX2_follow_73 rfl rfl (Nat.le_of_ble_eq_true rfl) rfl).run ?_
  refine (go_goto 45 eX2_follow_76 rfl).run ?_
  exact k1

/-! CarryNets$Clock.latest -/
theorem eX2_latest_0 : decode MX2_latest.2.1 0 = .ok (.iconst 0, 1) := by decide +kernel
theorem eX2_latest_1 : decode MX2_latest.2.1 1 = .ok (.istore_n 2, 1) := by decide +kernel
theorem eX2_latest_2 : decode MX2_latest.2.1 2 = .ok (.iconst 0, 1) := by decide +kernel
theorem eX2_latest_3 : decode MX2_latest.2.1 3 = .ok (.istore_n 3, 1) := by decide +kernel
theorem eX2_latest_4 : decode MX2_latest.2.1 4 = .ok (.iload_n 3, 1) := by decide +kernel
theorem eX2_latest_5 : decode MX2_latest.2.1 5 = .ok (.iload_n 1, 1) := by decide +kernel
theorem eX2_latest_6 : decode MX2_latest.2.1 6 = .ok (.if_icmp .ge 19, 3) := by decide +kernel
theorem eX2_latest_9 : decode MX2_latest.2.1 9 = .ok (.iload_n 2, 1) := by decide +kernel
theorem eX2_latest_10 : decode MX2_latest.2.1 10 = .ok (.aload_n 0, 1) := by decide +kernel
theorem eX2_latest_11 : decode MX2_latest.2.1 11 = .ok (.iload_n 3, 1) := by decide +kernel
theorem eX2_latest_12 : decode MX2_latest.2.1 12 = .ok (.invokevirtual 62, 3) := by decide +kernel
theorem eX2_latest_15 : decode MX2_latest.2.1 15 = .ok (.invokestatic 65, 3) := by decide +kernel
theorem eX2_latest_18 : decode MX2_latest.2.1 18 = .ok (.istore_n 2, 1) := by decide +kernel
theorem eX2_latest_19 : decode MX2_latest.2.1 19 = .ok (.iinc 3 1, 3) := by decide +kernel
theorem eX2_latest_22 : decode MX2_latest.2.1 22 = .ok (.goto (-18), 3) := by decide +kernel
theorem eX2_latest_25 : decode MX2_latest.2.1 25 = .ok (.iload_n 2, 1) := by decide +kernel
theorem eX2_latest_26 : decode MX2_latest.2.1 26 = .ok (.ireturn, 1) := by decide +kernel
set_option maxRecDepth 20000 in
theorem bX2_latest_0 {d : Nat} {Q : Option Value → St → Prop} (x1 : Int32) (σ : St) 
    (k1 : Run MX2_latest (d + 2) 4 [some (.ref 14), some (.int x1), some (.int 0), some (.int 0)] [] σ Q)
    : Run MX2_latest (d + 2) 0 [some (.ref 14), some (.int x1), none, none] [] σ Q := by
  refine (go_iconst (v := 0) eX2_latest_0 rfl).run ?_
  refine (go_istore_n 2 (L' := [some (.ref 14), some (.int x1), some (.int 0), none]) eX2_latest_1 rfl (Nat.le_of_ble_eq_true rfl) rfl).run ?_
  refine (go_iconst (v := 0) eX2_latest_2 rfl).run ?_
  refine (go_istore_n 3 (L' := [some (.ref 14), some (.int x1), some (.int 0), some (.int 0)]) eX2_latest_3 rfl (Nat.le_of_ble_eq_true rfl) rfl).run ?_
  exact k1

set_option maxRecDepth 20000 in
theorem bX2_latest_4 {d : Nat} {Q : Option Value → St → Prop} (x1 : Int32) (x2 : Int32) (x3 : Int32) (σ : St) 
    (k1 : x1 ≤ x3 → Q (some (.int x2)) σ)
    (k2 : x3 < x1 → Run MX2_latest (d + 2) 4 [some (.ref 14), some (.int x1), some (.int (mxI x2 (((aG 16 x3 σ))))), some (.int (x3 + 1))] [] σ Q)
    : Run MX2_latest (d + 2) 4 [some (.ref 14), some (.int x1), some (.int x2), some (.int x3)] [] σ Q := by
  refine (go_iload_n 3 eX2_latest_4 rfl rfl).run ?_
  refine (go_iload_n 1 eX2_latest_5 rfl rfl).run ?_
  refine (bi_ge 25 eX2_latest_6 rfl).run (fun h1 => ?_) (fun h1 => ?_)
  · refine (go_iload_n 2 eX2_latest_25 rfl rfl).run ?_
    exact Run.ret (v := some (.int x2)) (k1 h1) ⟨Or.inl rfl, eX2_latest_26⟩ rfl
  · refine (go_iload_n 2 eX2_latest_9 rfl rfl).run ?_
    refine (go_aload_n 0 eX2_latest_10 rfl rfl).run ?_
    refine (go_iload_n 3 eX2_latest_11 rfl rfl).run ?_
    refine Run.callV1 (d := (d + 1)) (As := [.int x3]) (r := .int (((aG 16 x3 σ)))) mX2_readyAt lkX2_62 kd_14 (by decide) rfl rfl rfl rfl rfl (Nat.le_of_ble_eq_true rfl) eX2_latest_12 (qX2_readyAt d x3 σ  ) ?_
    refine (go_maxN mm_ok lkX2_65 rfl (Nat.le_of_ble_eq_true rfl) (by omega) eX2_latest_15).run ?_
    refine (go_istore_n 2 (L' := [some (.ref 14), some (.int x1), some (.int (mxI x2 (((aG 16 x3 σ))))), some (.int x3)]) eX2_latest_18 rfl (Nat.le_of_ble_eq_true rfl) rfl).run ?_
    refine (go_iinc 3 (v := (x3 + 1)) (L' := [some (.ref 14), some (.int x1), some (.int (mxI x2 (((aG 16 x3 σ))))), some (.int (x3 + 1))]) eX2_latest_19 rfl rfl (Nat.le_of_ble_eq_true rfl) rfl).run ?_
    refine (go_goto 4 eX2_latest_22 rfl).run ?_
    exact (k2 h1)

/-! CarryNets$Columns.heightOf -/
theorem eX3_heightOf_0 : decode MX3_heightOf.2.1 0 = .ok (.aload_n 0, 1) := by decide +kernel
theorem eX3_heightOf_1 : decode MX3_heightOf.2.1 1 = .ok (.getfield 9, 3) := by decide +kernel
theorem eX3_heightOf_4 : decode MX3_heightOf.2.1 4 = .ok (.iload_n 1, 1) := by decide +kernel
theorem eX3_heightOf_5 : decode MX3_heightOf.2.1 5 = .ok (.invokestatic 15, 3) := by decide +kernel
theorem eX3_heightOf_8 : decode MX3_heightOf.2.1 8 = .ok (.ireturn, 1) := by decide +kernel
set_option maxRecDepth 20000 in
theorem bX3_heightOf_0 {d : Nat} {Q : Option Value → St → Prop} (o : Nat) (x1 : Int32) (σ : St) (ho : kd o = 3) 
    (k1 : Q (some (.int ((aG (gr o 3) x1 σ)))) σ)
    : Run MX3_heightOf (d + 1) 0 [some (.ref o), some (.int x1)] [] σ Q := by
  refine (go_aload_n 0 eX3_heightOf_0 rfl rfl).run ?_
  refine (go_getr (r := gr o 3) flX3_9 rf_3_3 ho rfl eX3_heightOf_1).run ?_
  refine (go_iload_n 1 eX3_heightOf_4 rfl rfl).run ?_
  refine Run.callS1 (d := d) (As := [.ref (gr o 3), .int x1]) (r := .int ((aG (gr o 3) x1 σ))) mX10_at lkX3_15 rfl rfl rfl (Nat.le_of_ble_eq_true rfl) eX3_heightOf_5 (qX10_at d (gr o 3) x1 σ (kf_3_3 ho).1 ) ?_
  exact Run.ret (v := some (.int ((aG (gr o 3) x1 σ)))) k1 ⟨Or.inl rfl, eX3_heightOf_8⟩ rfl

theorem qX3_heightOf (d : Nat) (o : Nat) (x1 : Int32) (σ : St) (ho : kd o = 3) : Ct yX3_heightOf MX3_heightOf (d + 1) [.ref o, .int x1] σ (fun v σ1 => v = some (.int ((aG (gr o 3) x1 σ))) ∧ σ1 = σ) :=
  Ct.of mX3_heightOf.1 (Nat.le_of_ble_eq_true rfl) (bX3_heightOf_0 o x1 σ ho  (⟨by first | rfl | (simp only [true_and, and_true, false_and, and_false, true_or, or_true, false_or, or_false, not_true_eq_false, not_false_eq_true, if_true, if_false]; done) | (simp [bI]; done), by first | rfl | (simp only [true_and, and_true, false_and, and_false, true_or, or_true, false_or, or_false, not_true_eq_false, not_false_eq_true, if_true, if_false]; done) | (simp [bI]; done)⟩))

/-! CarryNets$Columns.setHeight -/
theorem eX3_setHeight_0 : decode MX3_setHeight.2.1 0 = .ok (.aload_n 0, 1) := by decide +kernel
theorem eX3_setHeight_1 : decode MX3_setHeight.2.1 1 = .ok (.getfield 9, 3) := by decide +kernel
theorem eX3_setHeight_4 : decode MX3_setHeight.2.1 4 = .ok (.iload_n 1, 1) := by decide +kernel
theorem eX3_setHeight_5 : decode MX3_setHeight.2.1 5 = .ok (.iload_n 2, 1) := by decide +kernel
theorem eX3_setHeight_6 : decode MX3_setHeight.2.1 6 = .ok (.invokestatic 19, 3) := by decide +kernel
theorem eX3_setHeight_9 : decode MX3_setHeight.2.1 9 = .ok (.return_, 1) := by decide +kernel
set_option maxRecDepth 20000 in
theorem bX3_setHeight_0 {d : Nat} {Q : Option Value → St → Prop} (o : Nat) (x1 : Int32) (x2 : Int32) (σ : St) (ho : kd o = 3) 
    (k1 : Q (none) (aP (gr o 3) x1 x2 σ))
    : Run MX3_setHeight (d + 1) 0 [some (.ref o), some (.int x1), some (.int x2)] [] σ Q := by
  refine (go_aload_n 0 eX3_setHeight_0 rfl rfl).run ?_
  refine (go_getr (r := gr o 3) flX3_9 rf_3_3 ho rfl eX3_setHeight_1).run ?_
  refine (go_iload_n 1 eX3_setHeight_4 rfl rfl).run ?_
  refine (go_iload_n 2 eX3_setHeight_5 rfl rfl).run ?_
  refine Run.callS0 (d := d) (As := [.ref (gr o 3), .int x1, .int x2]) mX10_put lkX3_19 rfl rfl rfl (Nat.le_of_ble_eq_true rfl) eX3_setHeight_6 (qX10_put d (gr o 3) x1 x2 σ (kf_3_3 ho).1 ) ?_
  exact Run.ret (v := none) k1 ⟨rfl, eX3_setHeight_9⟩ rfl

def sX3_setHeight (o : Nat) (x1 : Int32) (x2 : Int32) (σ : St) : St := aP (gr o 3) x1 x2 σ
theorem qX3_setHeight (d : Nat) (o : Nat) (x1 : Int32) (x2 : Int32) (σ : St) (ho : kd o = 3) : Ct yX3_setHeight MX3_setHeight (d + 1) [.ref o, .int x1, .int x2] σ (fun v σ1 => v = none ∧ σ1 = sX3_setHeight o x1 x2 σ) :=
  Ct.of mX3_setHeight.1 (Nat.le_of_ble_eq_true rfl) (bX3_setHeight_0 o x1 x2 σ ho  (⟨by first | rfl | (simp only [sX3_setHeight, true_and, and_true, false_and, and_false, true_or, or_true, false_or, or_false, not_true_eq_false, not_false_eq_true, if_true, if_false]; done) | (simp [sX3_setHeight, bI]; done), by first | rfl | (simp only [sX3_setHeight, true_and, and_true, false_and, and_false, true_or, or_true, false_or, or_false, not_true_eq_false, not_false_eq_true, if_true, if_false]; done) | (simp [sX3_setHeight, bI]; done)⟩))

/-! CarryNets$Columns.clear -/
theorem eX3_clear_0 : decode MX3_clear.2.1 0 = .ok (.iconst 0, 1) := by decide +kernel
theorem eX3_clear_1 : decode MX3_clear.2.1 1 = .ok (.istore_n 1, 1) := by decide +kernel
theorem eX3_clear_2 : decode MX3_clear.2.1 2 = .ok (.iload_n 1, 1) := by decide +kernel
theorem eX3_clear_3 : decode MX3_clear.2.1 3 = .ok (.aload_n 0, 1) := by decide +kernel
theorem eX3_clear_4 : decode MX3_clear.2.1 4 = .ok (.getfield 9, 3) := by decide +kernel
theorem eX3_clear_7 : decode MX3_clear.2.1 7 = .ok (.arraylength, 1) := by decide +kernel
theorem eX3_clear_8 : decode MX3_clear.2.1 8 = .ok (.if_icmp .ge 16, 3) := by decide +kernel
theorem eX3_clear_11 : decode MX3_clear.2.1 11 = .ok (.aload_n 0, 1) := by decide +kernel
theorem eX3_clear_12 : decode MX3_clear.2.1 12 = .ok (.getfield 9, 3) := by decide +kernel
theorem eX3_clear_15 : decode MX3_clear.2.1 15 = .ok (.iload_n 1, 1) := by decide +kernel
theorem eX3_clear_16 : decode MX3_clear.2.1 16 = .ok (.iconst 0, 1) := by decide +kernel
theorem eX3_clear_17 : decode MX3_clear.2.1 17 = .ok (.iastore, 1) := by decide +kernel
theorem eX3_clear_18 : decode MX3_clear.2.1 18 = .ok (.iinc 1 1, 3) := by decide +kernel
theorem eX3_clear_21 : decode MX3_clear.2.1 21 = .ok (.goto (-19), 3) := by decide +kernel
theorem eX3_clear_24 : decode MX3_clear.2.1 24 = .ok (.return_, 1) := by decide +kernel
set_option maxRecDepth 20000 in
theorem bX3_clear_0 {d : Nat} {Q : Option Value → St → Prop} (o : Nat) (σ : St) (ho : kd o = 3) 
    (k1 : Run MX3_clear d 2 [some (.ref o), some (.int 0)] [] σ Q)
    : Run MX3_clear d 0 [some (.ref o), none] [] σ Q := by
  refine (go_iconst (v := 0) eX3_clear_0 rfl).run ?_
  refine (go_istore_n 1 (L' := [some (.ref o), some (.int 0)]) eX3_clear_1 rfl (Nat.le_of_ble_eq_true rfl) rfl).run ?_
  exact k1

set_option maxRecDepth 20000 in
theorem bX3_clear_2 {d : Nat} {Q : Option Value → St → Prop} (o : Nat) (x1 : Int32) (σ : St) (ho : kd o = 3) 
    (g1 : x1 < 12 → vp_in x1 12)
    (k1 : (12 : Int32) ≤ x1 → Q (none) σ)
    (k2 : x1 < 12 → Run MX3_clear d 2 [some (.ref o), some (.int (x1 + 1))] [] (sA σ ((gr o 3)) (upd (σ.1 ((gr o 3))) x1.toNatClampNeg 0)) Q)
    : Run MX3_clear d 2 [some (.ref o), some (.int x1)] [] σ Q := by
  refine (go_iload_n 1 eX3_clear_2 rfl rfl).run ?_
  refine (go_aload_n 0 eX3_clear_3 rfl rfl).run ?_
  refine (go_getr (r := gr o 3) flX3_9 rf_3_3 ho rfl eX3_clear_4).run ?_
  refine (go_alen100 (v := 12) (kf_3_3 ho).1 (kf_3_3 ho).2 rfl eX3_clear_7).run ?_
  refine (bi_ge 24 eX3_clear_8 rfl).run (fun h1 => ?_) (fun h1 => ?_)
  · exact Run.ret (v := none) (k1 h1) ⟨rfl, eX3_clear_24⟩ rfl
  · refine (go_aload_n 0 eX3_clear_11 rfl rfl).run ?_
    refine (go_getr (r := gr o 3) flX3_9 rf_3_3 ho rfl eX3_clear_12).run ?_
    refine (go_iload_n 1 eX3_clear_15 rfl rfl).run ?_
    refine (go_iconst (v := 0) eX3_clear_16 rfl).run ?_
    refine (go_iast (kf_3_3 ho).1 (kf_3_3 ho).2 (g1 h1) eX3_clear_17).run ?_
    refine (go_iinc 1 (v := (x1 + 1)) (L' := [some (.ref o), some (.int (x1 + 1))]) eX3_clear_18 rfl rfl (Nat.le_of_ble_eq_true rfl) rfl).run ?_
    refine (go_goto 2 eX3_clear_21 rfl).run ?_
    exact (k2 h1)

/-! CarryNets$Columns.copy -/
theorem eX3_copy_0 : decode MX3_copy.2.1 0 = .ok (.iconst 0, 1) := by decide +kernel
theorem eX3_copy_1 : decode MX3_copy.2.1 1 = .ok (.istore_n 2, 1) := by decide +kernel
theorem eX3_copy_2 : decode MX3_copy.2.1 2 = .ok (.iload_n 2, 1) := by decide +kernel
theorem eX3_copy_3 : decode MX3_copy.2.1 3 = .ok (.aload_n 0, 1) := by decide +kernel
theorem eX3_copy_4 : decode MX3_copy.2.1 4 = .ok (.getfield 9, 3) := by decide +kernel
theorem eX3_copy_7 : decode MX3_copy.2.1 7 = .ok (.arraylength, 1) := by decide +kernel
theorem eX3_copy_8 : decode MX3_copy.2.1 8 = .ok (.if_icmp .ge 20, 3) := by decide +kernel
theorem eX3_copy_11 : decode MX3_copy.2.1 11 = .ok (.aload_n 0, 1) := by decide +kernel
theorem eX3_copy_12 : decode MX3_copy.2.1 12 = .ok (.getfield 9, 3) := by decide +kernel
theorem eX3_copy_15 : decode MX3_copy.2.1 15 = .ok (.iload_n 2, 1) := by decide +kernel
theorem eX3_copy_16 : decode MX3_copy.2.1 16 = .ok (.aload_n 1, 1) := by decide +kernel
theorem eX3_copy_17 : decode MX3_copy.2.1 17 = .ok (.iload_n 2, 1) := by decide +kernel
theorem eX3_copy_18 : decode MX3_copy.2.1 18 = .ok (.invokevirtual 23, 3) := by decide +kernel
theorem eX3_copy_21 : decode MX3_copy.2.1 21 = .ok (.iastore, 1) := by decide +kernel
theorem eX3_copy_22 : decode MX3_copy.2.1 22 = .ok (.iinc 2 1, 3) := by decide +kernel
theorem eX3_copy_25 : decode MX3_copy.2.1 25 = .ok (.goto (-23), 3) := by decide +kernel
theorem eX3_copy_28 : decode MX3_copy.2.1 28 = .ok (.return_, 1) := by decide +kernel
set_option maxRecDepth 20000 in
theorem bX3_copy_0 {d : Nat} {Q : Option Value → St → Prop} (o : Nat) (o1 : Nat) (σ : St) (ho : kd o = 3) (ho1 : kd o1 = 3) 
    (k1 : Run MX3_copy (d + 2) 2 [some (.ref o), some (.ref o1), some (.int 0)] [] σ Q)
    : Run MX3_copy (d + 2) 0 [some (.ref o), some (.ref o1), none] [] σ Q := by
  refine (go_iconst (v := 0) eX3_copy_0 rfl).run ?_
  refine (go_istore_n 2 (L' := [some (.ref o), some (.ref o1), some (.int 0)]) eX3_copy_1 rfl (Nat.le_of_ble_eq_true rfl) rfl).run ?_
  exact k1

set_option maxRecDepth 20000 in
theorem bX3_copy_2 {d : Nat} {Q : Option Value → St → Prop} (o : Nat) (o1 : Nat) (x2 : Int32) (σ : St) (ho : kd o = 3) (ho1 : kd o1 = 3) 
    (g1 : x2 < 12 → vp_in x2 12)
    (k1 : (12 : Int32) ≤ x2 → Q (none) σ)
    (k2 : x2 < 12 → Run MX3_copy (d + 2) 2 [some (.ref o), some (.ref o1), some (.int (x2 + 1))] [] (sA σ ((gr o 3)) (upd (σ.1 ((gr o 3))) x2.toNatClampNeg (((aG (gr o1 3) x2 σ))))) Q)
    : Run MX3_copy (d + 2) 2 [some (.ref o), some (.ref o1), some (.int x2)] [] σ Q := by
  refine (go_iload_n 2 eX3_copy_2 rfl rfl).run ?_
  refine (go_aload_n 0 eX3_copy_3 rfl rfl).run ?_
  refine (go_getr (r := gr o 3) flX3_9 rf_3_3 ho rfl eX3_copy_4).run ?_
  refine (go_alen100 (v := 12) (kf_3_3 ho).1 (kf_3_3 ho).2 rfl eX3_copy_7).run ?_
  refine (bi_ge 28 eX3_copy_8 rfl).run (fun h1 => ?_) (fun h1 => ?_)
  · exact Run.ret (v := none) (k1 h1) ⟨rfl, eX3_copy_28⟩ rfl
  · refine (go_aload_n 0 eX3_copy_11 rfl rfl).run ?_
    refine (go_getr (r := gr o 3) flX3_9 rf_3_3 ho rfl eX3_copy_12).run ?_
    refine (go_iload_n 2 eX3_copy_15 rfl rfl).run ?_
    refine (go_aload_n 1 eX3_copy_16 rfl rfl).run ?_
    refine (go_iload_n 2 eX3_copy_17 rfl rfl).run ?_
    refine Run.callV1 (d := (d + 1)) (As := [.int x2]) (r := .int (((aG (gr o1 3) x2 σ)))) mX3_heightOf lkX3_23 ho1 (by decide) rfl rfl rfl rfl rfl (Nat.le_of_ble_eq_true rfl) eX3_copy_18 (qX3_heightOf d o1 x2 σ ho1 ) ?_
    refine (go_iast (kf_3_3 ho).1 (kf_3_3 ho).2 (g1 h1) eX3_copy_21).run ?_
    refine (go_iinc 2 (v := (x2 + 1)) (L' := [some (.ref o), some (.ref o1), some (.int (x2 + 1))]) eX3_copy_22 rfl rfl (Nat.le_of_ble_eq_true rfl) rfl).run ?_
    refine (go_goto 2 eX3_copy_25 rfl).run ?_
    exact (k2 h1)

/-! CarryNets$Columns.clearTallies -/
theorem eX3_clearTallies_0 : decode MX3_clearTallies.2.1 0 = .ok (.aload_n 0, 1) := by decide +kernel
theorem eX3_clearTallies_1 : decode MX3_clearTallies.2.1 1 = .ok (.iconst 0, 1) := by decide +kernel
theorem eX3_clearTallies_2 : decode MX3_clearTallies.2.1 2 = .ok (.putfield 27, 3) := by decide +kernel
theorem eX3_clearTallies_5 : decode MX3_clearTallies.2.1 5 = .ok (.aload_n 0, 1) := by decide +kernel
theorem eX3_clearTallies_6 : decode MX3_clearTallies.2.1 6 = .ok (.iconst 0, 1) := by decide +kernel
theorem eX3_clearTallies_7 : decode MX3_clearTallies.2.1 7 = .ok (.putfield 31, 3) := by decide +kernel
theorem eX3_clearTallies_10 : decode MX3_clearTallies.2.1 10 = .ok (.aload_n 0, 1) := by decide +kernel
theorem eX3_clearTallies_11 : decode MX3_clearTallies.2.1 11 = .ok (.iconst 0, 1) := by decide +kernel
theorem eX3_clearTallies_12 : decode MX3_clearTallies.2.1 12 = .ok (.putfield 34, 3) := by decide +kernel
theorem eX3_clearTallies_15 : decode MX3_clearTallies.2.1 15 = .ok (.return_, 1) := by decide +kernel
set_option maxRecDepth 20000 in
theorem bX3_clearTallies_0 {d : Nat} {Q : Option Value → St → Prop} (o : Nat) (σ : St) (ho : kd o = 3) 
    (k1 : Q (none) (sA (sA (sA σ o (upd (σ.1 o) 0 0)) o (upd ((sA σ o (upd (σ.1 o) 0 0)).1 o) 1 0)) o (upd ((sA (sA σ o (upd (σ.1 o) 0 0)) o (upd ((sA σ o (upd (σ.1 o) 0 0)).1 o) 1 0)).1 o) 2 0)))
    : Run MX3_clearTallies d 0 [some (.ref o)] [] σ Q := by
  refine (go_aload_n 0 eX3_clearTallies_0 rfl rfl).run ?_
  refine (go_iconst (v := 0) eX3_clearTallies_1 rfl).run ?_
  refine (go_puti flX3_27 rf_3_0 rfl pf_3_0 rfl rfl ho eX3_clearTallies_2).run ?_
  refine (go_aload_n 0 eX3_clearTallies_5 rfl rfl).run ?_
  refine (go_iconst (v := 0) eX3_clearTallies_6 rfl).run ?_
  refine (go_puti flX3_31 rf_3_1 rfl pf_3_1 rfl rfl ho eX3_clearTallies_7).run ?_
  refine (go_aload_n 0 eX3_clearTallies_10 rfl rfl).run ?_
  refine (go_iconst (v := 0) eX3_clearTallies_11 rfl).run ?_
  refine (go_puti flX3_34 rf_3_2 rfl pf_3_2 rfl rfl ho eX3_clearTallies_12).run ?_
  exact Run.ret (v := none) k1 ⟨rfl, eX3_clearTallies_15⟩ rfl

def sX3_clearTallies (o : Nat) (σ : St) : St := sA (sA (sA σ o (upd (σ.1 o) 0 0)) o (upd ((sA σ o (upd (σ.1 o) 0 0)).1 o) 1 0)) o (upd ((sA (sA σ o (upd (σ.1 o) 0 0)) o (upd ((sA σ o (upd (σ.1 o) 0 0)).1 o) 1 0)).1 o) 2 0)
theorem qX3_clearTallies (d : Nat) (o : Nat) (σ : St) (ho : kd o = 3) : Ct yX3_clearTallies MX3_clearTallies d [.ref o] σ (fun v σ1 => v = none ∧ σ1 = sX3_clearTallies o σ) :=
  Ct.of mX3_clearTallies.1 (Nat.le_of_ble_eq_true rfl) (bX3_clearTallies_0 o σ ho  (⟨by first | rfl | (simp only [sX3_clearTallies, true_and, and_true, false_and, and_false, true_or, or_true, false_or, or_false, not_true_eq_false, not_false_eq_true, if_true, if_false]; done) | (simp [sX3_clearTallies, bI]; done), by first | rfl | (simp only [sX3_clearTallies, true_and, and_true, false_and, and_false, true_or, or_true, false_or, or_false, not_true_eq_false, not_false_eq_true, if_true, if_false]; done) | (simp [sX3_clearTallies, bI]; done)⟩))

/-! CarryNets$Columns.greatest -/
theorem eX3_greatest_0 : decode MX3_greatest.2.1 0 = .ok (.iconst 0, 1) := by decide +kernel
theorem eX3_greatest_1 : decode MX3_greatest.2.1 1 = .ok (.istore_n 1, 1) := by decide +kernel
theorem eX3_greatest_2 : decode MX3_greatest.2.1 2 = .ok (.aload_n 0, 1) := by decide +kernel
theorem eX3_greatest_3 : decode MX3_greatest.2.1 3 = .ok (.getfield 9, 3) := by decide +kernel
theorem eX3_greatest_6 : decode MX3_greatest.2.1 6 = .ok (.astore_n 2, 1) := by decide +kernel
theorem eX3_greatest_7 : decode MX3_greatest.2.1 7 = .ok (.aload_n 2, 1) := by decide +kernel
theorem eX3_greatest_8 : decode MX3_greatest.2.1 8 = .ok (.arraylength, 1) := by decide +kernel
theorem eX3_greatest_9 : decode MX3_greatest.2.1 9 = .ok (.istore_n 3, 1) := by decide +kernel
theorem eX3_greatest_10 : decode MX3_greatest.2.1 10 = .ok (.iconst 0, 1) := by decide +kernel
theorem eX3_greatest_11 : decode MX3_greatest.2.1 11 = .ok (.istore 4, 2) := by decide +kernel
theorem eX3_greatest_13 : decode MX3_greatest.2.1 13 = .ok (.iload 4, 2) := by decide +kernel
theorem eX3_greatest_15 : decode MX3_greatest.2.1 15 = .ok (.iload_n 3, 1) := by decide +kernel
theorem eX3_greatest_16 : decode MX3_greatest.2.1 16 = .ok (.if_icmp .ge 22, 3) := by decide +kernel
theorem eX3_greatest_19 : decode MX3_greatest.2.1 19 = .ok (.aload_n 2, 1) := by decide +kernel
theorem eX3_greatest_20 : decode MX3_greatest.2.1 20 = .ok (.iload 4, 2) := by decide +kernel
theorem eX3_greatest_22 : decode MX3_greatest.2.1 22 = .ok (.iaload, 1) := by decide +kernel
theorem eX3_greatest_23 : decode MX3_greatest.2.1 23 = .ok (.istore 5, 2) := by decide +kernel
theorem eX3_greatest_25 : decode MX3_greatest.2.1 25 = .ok (.iload_n 1, 1) := by decide +kernel
theorem eX3_greatest_26 : decode MX3_greatest.2.1 26 = .ok (.iload 5, 2) := by decide +kernel
theorem eX3_greatest_28 : decode MX3_greatest.2.1 28 = .ok (.invokestatic 37, 3) := by decide +kernel
theorem eX3_greatest_31 : decode MX3_greatest.2.1 31 = .ok (.istore_n 1, 1) := by decide +kernel
theorem eX3_greatest_32 : decode MX3_greatest.2.1 32 = .ok (.iinc 4 1, 3) := by decide +kernel
theorem eX3_greatest_35 : decode MX3_greatest.2.1 35 = .ok (.goto (-22), 3) := by decide +kernel
theorem eX3_greatest_38 : decode MX3_greatest.2.1 38 = .ok (.iload_n 1, 1) := by decide +kernel
theorem eX3_greatest_39 : decode MX3_greatest.2.1 39 = .ok (.ireturn, 1) := by decide +kernel
set_option maxRecDepth 20000 in
theorem bX3_greatest_0 {d : Nat} {Q : Option Value → St → Prop} (o : Nat) (σ : St) (ho : kd o = 3) 
    (k1 : Run MX3_greatest (d + 1) 13 [none, some (.int 0), some (.ref (gr o 3)), some (.int 12), some (.int 0), none] [] σ Q)
    : Run MX3_greatest (d + 1) 0 [some (.ref o), none, none, none, none, none] [] σ Q := by
  refine (go_iconst (v := 0) eX3_greatest_0 rfl).run ?_
  refine (go_istore_n 1 (L' := [some (.ref o), some (.int 0), none, none, none, none]) eX3_greatest_1 rfl (Nat.le_of_ble_eq_true rfl) rfl).run ?_
  refine (go_aload_n 0 eX3_greatest_2 rfl rfl).run ?_
  refine (go_getr (r := gr o 3) flX3_9 rf_3_3 ho rfl eX3_greatest_3).run ?_
  refine (go_astore_n 2 (L' := [some (.ref o), some (.int 0), some (.ref (gr o 3)), none, none, none]) eX3_greatest_6 rfl (Nat.le_of_ble_eq_true rfl) rfl).run ?_
  refine (go_aload_n 2 eX3_greatest_7 rfl rfl).run ?_
  refine (go_alen100 (v := 12) (kf_3_3 ho).1 (kf_3_3 ho).2 rfl eX3_greatest_8).run ?_
  refine (go_istore_n 3 (L' := [some (.ref o), some (.int 0), some (.ref (gr o 3)), some (.int 12), none, none]) eX3_greatest_9 rfl (Nat.le_of_ble_eq_true rfl) rfl).run ?_
  refine (go_iconst (v := 0) eX3_greatest_10 rfl).run ?_
  refine (go_istore 4 (L' := [some (.ref o), some (.int 0), some (.ref (gr o 3)), some (.int 12), some (.int 0), none]) eX3_greatest_11 (Nat.le_of_ble_eq_true rfl) rfl).run ?_
  refine (go_sub (L' := [none, some (.int 0), some (.ref (gr o 3)), some (.int 12), some (.int 0), none]) (lsub_drop (lsub_keep (lsub_keep (lsub_keep (lsub_keep (lsub_keep lsub_nil))))))).run ?_
  exact k1

set_option maxRecDepth 20000 in
theorem bX3_greatest_13 {d : Nat} {Q : Option Value → St → Prop} (x1 : Int32) (rx2 : Nat) (x3 : Int32) (x4 : Int32) (σ : St) (hrx2 : kd rx2 = 100) (lrx2 : ln rx2 = 12) 
    (g1 : x4 < x3 → vp_in x4 12)
    (k1 : x3 ≤ x4 → Q (some (.int x1)) σ)
    (k2 : x4 < x3 → Run MX3_greatest (d + 1) 13 [none, some (.int (mxI x1 (σ.1 rx2 x4.toNatClampNeg))), some (.ref rx2), some (.int x3), some (.int (x4 + 1)), none] [] σ Q)
    : Run MX3_greatest (d + 1) 13 [none, some (.int x1), some (.ref rx2), some (.int x3), some (.int x4), none] [] σ Q := by
  refine (go_iload 4 eX3_greatest_13 rfl).run ?_
  refine (go_iload_n 3 eX3_greatest_15 rfl rfl).run ?_
  refine (bi_ge 38 eX3_greatest_16 rfl).run (fun h1 => ?_) (fun h1 => ?_)
  · refine (go_iload_n 1 eX3_greatest_38 rfl rfl).run ?_
    exact Run.ret (v := some (.int x1)) (k1 h1) ⟨Or.inl rfl, eX3_greatest_39⟩ rfl
  · refine (go_aload_n 2 eX3_greatest_19 rfl rfl).run ?_
    refine (go_iload 4 eX3_greatest_20 rfl).run ?_
    refine (go_iald hrx2 lrx2 (g1 h1) eX3_greatest_22).run ?_
    refine (go_istore 5 (L' := [none, some (.int x1), some (.ref rx2), some (.int x3), some (.int x4), some (.int (σ.1 rx2 x4.toNatClampNeg))]) eX3_greatest_23 (Nat.le_of_ble_eq_true rfl) rfl).run ?_
    refine (go_iload_n 1 eX3_greatest_25 rfl rfl).run ?_
    refine (go_iload 5 eX3_greatest_26 rfl).run ?_
    refine (go_maxN mm_ok lkX3_37 rfl (Nat.le_of_ble_eq_true rfl) (by omega) eX3_greatest_28).run ?_
    refine (go_istore_n 1 (L' := [none, some (.int (mxI x1 (σ.1 rx2 x4.toNatClampNeg))), some (.ref rx2), some (.int x3), some (.int x4), some (.int (σ.1 rx2 x4.toNatClampNeg))]) eX3_greatest_31 rfl (Nat.le_of_ble_eq_true rfl) rfl).run ?_
    refine (go_iinc 4 (v := (x4 + 1)) (L' := [none, some (.int (mxI x1 (σ.1 rx2 x4.toNatClampNeg))), some (.ref rx2), some (.int x3), some (.int (x4 + 1)), some (.int (σ.1 rx2 x4.toNatClampNeg))]) eX3_greatest_32 rfl rfl (Nat.le_of_ble_eq_true rfl) rfl).run ?_
    refine (go_goto 13 eX3_greatest_35 rfl).run ?_
    refine (go_sub (L' := [none, some (.int (mxI x1 (σ.1 rx2 x4.toNatClampNeg))), some (.ref rx2), some (.int x3), some (.int (x4 + 1)), none]) (lsub_keep (lsub_keep (lsub_keep (lsub_keep (lsub_keep (lsub_drop lsub_nil))))))).run ?_
    exact (k2 h1)

/-! CarryNets$Columns.allBits -/
theorem eX3_allBits_0 : decode MX3_allBits.2.1 0 = .ok (.iconst 0, 1) := by decide +kernel
theorem eX3_allBits_1 : decode MX3_allBits.2.1 1 = .ok (.istore_n 1, 1) := by decide +kernel
theorem eX3_allBits_2 : decode MX3_allBits.2.1 2 = .ok (.aload_n 0, 1) := by decide +kernel
theorem eX3_allBits_3 : decode MX3_allBits.2.1 3 = .ok (.getfield 9, 3) := by decide +kernel
theorem eX3_allBits_6 : decode MX3_allBits.2.1 6 = .ok (.astore_n 2, 1) := by decide +kernel
theorem eX3_allBits_7 : decode MX3_allBits.2.1 7 = .ok (.aload_n 2, 1) := by decide +kernel
theorem eX3_allBits_8 : decode MX3_allBits.2.1 8 = .ok (.arraylength, 1) := by decide +kernel
theorem eX3_allBits_9 : decode MX3_allBits.2.1 9 = .ok (.istore_n 3, 1) := by decide +kernel
theorem eX3_allBits_10 : decode MX3_allBits.2.1 10 = .ok (.iconst 0, 1) := by decide +kernel
theorem eX3_allBits_11 : decode MX3_allBits.2.1 11 = .ok (.istore 4, 2) := by decide +kernel
theorem eX3_allBits_13 : decode MX3_allBits.2.1 13 = .ok (.iload 4, 2) := by decide +kernel
theorem eX3_allBits_15 : decode MX3_allBits.2.1 15 = .ok (.iload_n 3, 1) := by decide +kernel
theorem eX3_allBits_16 : decode MX3_allBits.2.1 16 = .ok (.if_icmp .ge 20, 3) := by decide +kernel
theorem eX3_allBits_19 : decode MX3_allBits.2.1 19 = .ok (.aload_n 2, 1) := by decide +kernel
theorem eX3_allBits_20 : decode MX3_allBits.2.1 20 = .ok (.iload 4, 2) := by decide +kernel
theorem eX3_allBits_22 : decode MX3_allBits.2.1 22 = .ok (.iaload, 1) := by decide +kernel
theorem eX3_allBits_23 : decode MX3_allBits.2.1 23 = .ok (.istore 5, 2) := by decide +kernel
theorem eX3_allBits_25 : decode MX3_allBits.2.1 25 = .ok (.iload_n 1, 1) := by decide +kernel
theorem eX3_allBits_26 : decode MX3_allBits.2.1 26 = .ok (.iload 5, 2) := by decide +kernel
theorem eX3_allBits_28 : decode MX3_allBits.2.1 28 = .ok (.iadd, 1) := by decide +kernel
theorem eX3_allBits_29 : decode MX3_allBits.2.1 29 = .ok (.istore_n 1, 1) := by decide +kernel
theorem eX3_allBits_30 : decode MX3_allBits.2.1 30 = .ok (.iinc 4 1, 3) := by decide +kernel
theorem eX3_allBits_33 : decode MX3_allBits.2.1 33 = .ok (.goto (-20), 3) := by decide +kernel
theorem eX3_allBits_36 : decode MX3_allBits.2.1 36 = .ok (.iload_n 1, 1) := by decide +kernel
theorem eX3_allBits_37 : decode MX3_allBits.2.1 37 = .ok (.ireturn, 1) := by decide +kernel
set_option maxRecDepth 20000 in
theorem bX3_allBits_0 {d : Nat} {Q : Option Value → St → Prop} (o : Nat) (σ : St) (ho : kd o = 3) 
    (k1 : Run MX3_allBits d 13 [none, some (.int 0), some (.ref (gr o 3)), some (.int 12), some (.int 0), none] [] σ Q)
    : Run MX3_allBits d 0 [some (.ref o), none, none, none, none, none] [] σ Q := by
  refine (go_iconst (v := 0) eX3_allBits_0 rfl).run ?_
  refine (go_istore_n 1 (L' := [some (.ref o), some (.int 0), none, none, none, none]) eX3_allBits_1 rfl (Nat.le_of_ble_eq_true rfl) rfl).run ?_
  refine (go_aload_n 0 eX3_allBits_2 rfl rfl).run ?_
  refine (go_getr (r := gr o 3) flX3_9 rf_3_3 ho rfl eX3_allBits_3).run ?_
  refine (go_astore_n 2 (L' := [some (.ref o), some (.int 0), some (.ref (gr o 3)), none, none, none]) eX3_allBits_6 rfl (Nat.le_of_ble_eq_true rfl) rfl).run ?_
  refine (go_aload_n 2 eX3_allBits_7 rfl rfl).run ?_
  refine (go_alen100 (v := 12) (kf_3_3 ho).1 (kf_3_3 ho).2 rfl eX3_allBits_8).run ?_
  refine (go_istore_n 3 (L' := [some (.ref o), some (.int 0), some (.ref (gr o 3)), some (.int 12), none, none]) eX3_allBits_9 rfl (Nat.le_of_ble_eq_true rfl) rfl).run ?_
  refine (go_iconst (v := 0) eX3_allBits_10 rfl).run ?_
  refine (go_istore 4 (L' := [some (.ref o), some (.int 0), some (.ref (gr o 3)), some (.int 12), some (.int 0), none]) eX3_allBits_11 (Nat.le_of_ble_eq_true rfl) rfl).run ?_
  refine (go_sub (L' := [none, some (.int 0), some (.ref (gr o 3)), some (.int 12), some (.int 0), none]) (lsub_drop (lsub_keep (lsub_keep (lsub_keep (lsub_keep (lsub_keep lsub_nil))))))).run ?_
  exact k1

set_option maxRecDepth 20000 in
theorem bX3_allBits_13 {d : Nat} {Q : Option Value → St → Prop} (x1 : Int32) (rx2 : Nat) (x3 : Int32) (x4 : Int32) (σ : St) (hrx2 : kd rx2 = 100) (lrx2 : ln rx2 = 12) 
    (g1 : x4 < x3 → vp_in x4 12)
    (k1 : x3 ≤ x4 → Q (some (.int x1)) σ)
    (k2 : x4 < x3 → Run MX3_allBits d 13 [none, some (.int (x1 + (σ.1 rx2 x4.toNatClampNeg))), some (.ref rx2), some (.int x3), some (.int (x4 + 1)), none] [] σ Q)
    : Run MX3_allBits d 13 [none, some (.int x1), some (.ref rx2), some (.int x3), some (.int x4), none] [] σ Q := by
  refine (go_iload 4 eX3_allBits_13 rfl).run ?_
  refine (go_iload_n 3 eX3_allBits_15 rfl rfl).run ?_
  refine (bi_ge 36 eX3_allBits_16 rfl).run (fun h1 => ?_) (fun h1 => ?_)
  · refine (go_iload_n 1 eX3_allBits_36 rfl rfl).run ?_
    exact Run.ret (v := some (.int x1)) (k1 h1) ⟨Or.inl rfl, eX3_allBits_37⟩ rfl
  · refine (go_aload_n 2 eX3_allBits_19 rfl rfl).run ?_
    refine (go_iload 4 eX3_allBits_20 rfl).run ?_
    refine (go_iald hrx2 lrx2 (g1 h1) eX3_allBits_22).run ?_
    refine (go_istore 5 (L' := [none, some (.int x1), some (.ref rx2), some (.int x3), some (.int x4), some (.int (σ.1 rx2 x4.toNatClampNeg))]) eX3_allBits_23 (Nat.le_of_ble_eq_true rfl) rfl).run ?_
    refine (go_iload_n 1 eX3_allBits_25 rfl rfl).run ?_
    refine (go_iload 5 eX3_allBits_26 rfl).run ?_
    refine (go_iadd eX3_allBits_28).run ?_
    refine (go_istore_n 1 (L' := [none, some (.int (x1 + (σ.1 rx2 x4.toNatClampNeg))), some (.ref rx2), some (.int x3), some (.int x4), some (.int (σ.1 rx2 x4.toNatClampNeg))]) eX3_allBits_29 rfl (Nat.le_of_ble_eq_true rfl) rfl).run ?_
    refine (go_iinc 4 (v := (x4 + 1)) (L' := [none, some (.int (x1 + (σ.1 rx2 x4.toNatClampNeg))), some (.ref rx2), some (.int x3), some (.int (x4 + 1)), some (.int (σ.1 rx2 x4.toNatClampNeg))]) eX3_allBits_30 rfl rfl (Nat.le_of_ble_eq_true rfl) rfl).run ?_
    refine (go_goto 13 eX3_allBits_33 rfl).run ?_
    refine (go_sub (L' := [none, some (.int (x1 + (σ.1 rx2 x4.toNatClampNeg))), some (.ref rx2), some (.int x3), some (.int (x4 + 1)), none]) (lsub_keep (lsub_keep (lsub_keep (lsub_keep (lsub_keep (lsub_drop lsub_nil))))))).run ?_
    exact (k2 h1)

/-! CarryNets$Columns.filled -/
theorem eX3_filled_0 : decode MX3_filled.2.1 0 = .ok (.iconst 0, 1) := by decide +kernel
theorem eX3_filled_1 : decode MX3_filled.2.1 1 = .ok (.istore_n 1, 1) := by decide +kernel
theorem eX3_filled_2 : decode MX3_filled.2.1 2 = .ok (.aload_n 0, 1) := by decide +kernel
theorem eX3_filled_3 : decode MX3_filled.2.1 3 = .ok (.getfield 9, 3) := by decide +kernel
theorem eX3_filled_6 : decode MX3_filled.2.1 6 = .ok (.astore_n 2, 1) := by decide +kernel
theorem eX3_filled_7 : decode MX3_filled.2.1 7 = .ok (.aload_n 2, 1) := by decide +kernel
theorem eX3_filled_8 : decode MX3_filled.2.1 8 = .ok (.arraylength, 1) := by decide +kernel
theorem eX3_filled_9 : decode MX3_filled.2.1 9 = .ok (.istore_n 3, 1) := by decide +kernel
theorem eX3_filled_10 : decode MX3_filled.2.1 10 = .ok (.iconst 0, 1) := by decide +kernel
theorem eX3_filled_11 : decode MX3_filled.2.1 11 = .ok (.istore 4, 2) := by decide +kernel
theorem eX3_filled_13 : decode MX3_filled.2.1 13 = .ok (.iload 4, 2) := by decide +kernel
theorem eX3_filled_15 : decode MX3_filled.2.1 15 = .ok (.iload_n 3, 1) := by decide +kernel
theorem eX3_filled_16 : decode MX3_filled.2.1 16 = .ok (.if_icmp .ge 28, 3) := by decide +kernel
theorem eX3_filled_19 : decode MX3_filled.2.1 19 = .ok (.aload_n 2, 1) := by decide +kernel
theorem eX3_filled_20 : decode MX3_filled.2.1 20 = .ok (.iload 4, 2) := by decide +kernel
theorem eX3_filled_22 : decode MX3_filled.2.1 22 = .ok (.iaload, 1) := by decide +kernel
theorem eX3_filled_23 : decode MX3_filled.2.1 23 = .ok (.istore 5, 2) := by decide +kernel
theorem eX3_filled_25 : decode MX3_filled.2.1 25 = .ok (.iload_n 1, 1) := by decide +kernel
theorem eX3_filled_26 : decode MX3_filled.2.1 26 = .ok (.iload 5, 2) := by decide +kernel
theorem eX3_filled_28 : decode MX3_filled.2.1 28 = .ok (.ifCond .le 7, 3) := by decide +kernel
theorem eX3_filled_31 : decode MX3_filled.2.1 31 = .ok (.iconst 1, 1) := by decide +kernel
theorem eX3_filled_32 : decode MX3_filled.2.1 32 = .ok (.goto 4, 3) := by decide +kernel
theorem eX3_filled_35 : decode MX3_filled.2.1 35 = .ok (.iconst 0, 1) := by decide +kernel
theorem eX3_filled_36 : decode MX3_filled.2.1 36 = .ok (.iadd, 1) := by decide +kernel
theorem eX3_filled_37 : decode MX3_filled.2.1 37 = .ok (.istore_n 1, 1) := by decide +kernel
theorem eX3_filled_38 : decode MX3_filled.2.1 38 = .ok (.iinc 4 1, 3) := by decide +kernel
theorem eX3_filled_41 : decode MX3_filled.2.1 41 = .ok (.goto (-28), 3) := by decide +kernel
theorem eX3_filled_44 : decode MX3_filled.2.1 44 = .ok (.iload_n 1, 1) := by decide +kernel
theorem eX3_filled_45 : decode MX3_filled.2.1 45 = .ok (.ireturn, 1) := by decide +kernel
set_option maxRecDepth 20000 in
theorem bX3_filled_0 {d : Nat} {Q : Option Value → St → Prop} (o : Nat) (σ : St) (ho : kd o = 3) 
    (k1 : Run MX3_filled d 13 [none, some (.int 0), some (.ref (gr o 3)), some (.int 12), some (.int 0), none] [] σ Q)
    : Run MX3_filled d 0 [some (.ref o), none, none, none, none, none] [] σ Q := by
  refine (go_iconst (v := 0) eX3_filled_0 rfl).run ?_
  refine (go_istore_n 1 (L' := [some (.ref o), some (.int 0), none, none, none, none]) eX3_filled_1 rfl (Nat.le_of_ble_eq_true rfl) rfl).run ?_
  refine (go_aload_n 0 eX3_filled_2 rfl rfl).run ?_
  refine (go_getr (r := gr o 3) flX3_9 rf_3_3 ho rfl eX3_filled_3).run ?_
  refine (go_astore_n 2 (L' := [some (.ref o), some (.int 0), some (.ref (gr o 3)), none, none, none]) eX3_filled_6 rfl (Nat.le_of_ble_eq_true rfl) rfl).run ?_
  refine (go_aload_n 2 eX3_filled_7 rfl rfl).run ?_
  refine (go_alen100 (v := 12) (kf_3_3 ho).1 (kf_3_3 ho).2 rfl eX3_filled_8).run ?_
  refine (go_istore_n 3 (L' := [some (.ref o), some (.int 0), some (.ref (gr o 3)), some (.int 12), none, none]) eX3_filled_9 rfl (Nat.le_of_ble_eq_true rfl) rfl).run ?_
  refine (go_iconst (v := 0) eX3_filled_10 rfl).run ?_
  refine (go_istore 4 (L' := [some (.ref o), some (.int 0), some (.ref (gr o 3)), some (.int 12), some (.int 0), none]) eX3_filled_11 (Nat.le_of_ble_eq_true rfl) rfl).run ?_
  refine (go_sub (L' := [none, some (.int 0), some (.ref (gr o 3)), some (.int 12), some (.int 0), none]) (lsub_drop (lsub_keep (lsub_keep (lsub_keep (lsub_keep (lsub_keep lsub_nil))))))).run ?_
  exact k1

set_option maxRecDepth 20000 in
theorem bX3_filled_13 {d : Nat} {Q : Option Value → St → Prop} (x1 : Int32) (rx2 : Nat) (x3 : Int32) (x4 : Int32) (σ : St) (hrx2 : kd rx2 = 100) (lrx2 : ln rx2 = 12) 
    (g1 : x4 < x3 → vp_in x4 12)
    (k1 : x3 ≤ x4 → Q (some (.int x1)) σ)
    (k2 : x4 < x3 → Run MX3_filled d 13 [none, some (.int (x1 + (bI ((0 : Int32) < (σ.1 rx2 x4.toNatClampNeg))))), some (.ref rx2), some (.int x3), some (.int (x4 + 1)), none] [] σ Q)
    : Run MX3_filled d 13 [none, some (.int x1), some (.ref rx2), some (.int x3), some (.int x4), none] [] σ Q := by
  refine (go_iload 4 eX3_filled_13 rfl).run ?_
  refine (go_iload_n 3 eX3_filled_15 rfl rfl).run ?_
  refine (bi_ge 44 eX3_filled_16 rfl).run (fun h1 => ?_) (fun h1 => ?_)
  · refine (go_iload_n 1 eX3_filled_44 rfl rfl).run ?_
    exact Run.ret (v := some (.int x1)) (k1 h1) ⟨Or.inl rfl, eX3_filled_45⟩ rfl
  · refine (go_aload_n 2 eX3_filled_19 rfl rfl).run ?_
    refine (go_iload 4 eX3_filled_20 rfl).run ?_
    refine (go_iald hrx2 lrx2 (g1 h1) eX3_filled_22).run ?_
    refine (go_istore 5 (L' := [none, some (.int x1), some (.ref rx2), some (.int x3), some (.int x4), some (.int (σ.1 rx2 x4.toNatClampNeg))]) eX3_filled_23 (Nat.le_of_ble_eq_true rfl) rfl).run ?_
    refine (go_iload_n 1 eX3_filled_25 rfl rfl).run ?_
    refine (go_iload 5 eX3_filled_26 rfl).run ?_
    have hJh2 : Run MX3_filled d 36 [none, none, some (.ref rx2), some (.int x3), some (.int x4), none] [.int (bI ((0 : Int32) < (σ.1 rx2 x4.toNatClampNeg))), .int x1] σ Q := by
      refine (go_iadd eX3_filled_36).run ?_
      refine (go_istore_n 1 (L' := [none, some (.int (x1 + (bI ((0 : Int32) < (σ.1 rx2 x4.toNatClampNeg))))), some (.ref rx2), some (.int x3), some (.int x4), none]) eX3_filled_37 rfl (Nat.le_of_ble_eq_true rfl) rfl).run ?_
      refine (go_iinc 4 (v := (x4 + 1)) (L' := [none, some (.int (x1 + (bI ((0 : Int32) < (σ.1 rx2 x4.toNatClampNeg))))), some (.ref rx2), some (.int x3), some (.int (x4 + 1)), none]) eX3_filled_38 rfl rfl (Nat.le_of_ble_eq_true rfl) rfl).run ?_
      refine (go_goto 13 eX3_filled_41 rfl).run ?_
      exact (k2 h1)
    refine (bz_le 35 eX3_filled_28 rfl).run (fun h2 => ?_) (fun h2 => ?_)
    · refine (go_iconst (v := 0) eX3_filled_35 rfl).run ?_
      refine (go_sub (L' := [none, none, some (.ref rx2), some (.int x3), some (.int x4), none]) (lsub_keep (lsub_drop (lsub_keep (lsub_keep (lsub_keep (lsub_drop lsub_nil))))))).run ?_
      first | exact hJh2 | (simp only [if_pos h2] at hJh2; exact hJh2) | (simp only [eq_true h2, eq_false (i32_nlt.mpr h2), true_and, and_true, false_and, and_false, true_or, or_true, false_or, or_false, not_true_eq_false, not_false_eq_true] at hJh2; exact hJh2) | exact Run.eq (by simp [eq_true h2, eq_false (i32_nlt.mpr h2), bI]) (by simp [eq_true h2, eq_false (i32_nlt.mpr h2), bI]) rfl hJh2
    · refine (go_iconst (v := 1) eX3_filled_31 rfl).run ?_
      refine (go_goto 36 eX3_filled_32 rfl).run ?_
      refine (go_sub (L' := [none, none, some (.ref rx2), some (.int x3), some (.int x4), none]) (lsub_keep (lsub_drop (lsub_keep (lsub_keep (lsub_keep (lsub_drop lsub_nil))))))).run ?_
      first | exact hJh2 | (simp only [if_neg (i32_nle.mpr h2)] at hJh2; exact hJh2) | (simp only [eq_true h2, eq_false (i32_nle.mpr h2), true_and, and_true, false_and, and_false, true_or, or_true, false_or, or_false, not_true_eq_false, not_false_eq_true] at hJh2; exact hJh2) | exact Run.eq (by simp [eq_true h2, eq_false (i32_nle.mpr h2), bI]) (by simp [eq_true h2, eq_false (i32_nle.mpr h2), bI]) rfl hJh2

/-! CarryNets$Columns.done -/
theorem eX3_done_0 : decode MX3_done.2.1 0 = .ok (.aload_n 0, 1) := by decide +kernel
theorem eX3_done_1 : decode MX3_done.2.1 1 = .ok (.invokevirtual 43, 3) := by decide +kernel
theorem eX3_done_4 : decode MX3_done.2.1 4 = .ok (.iconst 2, 1) := by decide +kernel
theorem eX3_done_5 : decode MX3_done.2.1 5 = .ok (.if_icmp .gt 7, 3) := by decide +kernel
theorem eX3_done_8 : decode MX3_done.2.1 8 = .ok (.iconst 1, 1) := by decide +kernel
theorem eX3_done_9 : decode MX3_done.2.1 9 = .ok (.goto 4, 3) := by decide +kernel
theorem eX3_done_12 : decode MX3_done.2.1 12 = .ok (.iconst 0, 1) := by decide +kernel
theorem eX3_done_13 : decode MX3_done.2.1 13 = .ok (.ireturn, 1) := by decide +kernel
set_option maxRecDepth 20000 in
theorem bX3_done_0 {d : Nat} {Q : Option Value → St → Prop} (o : Nat) (σ : St) (ho : kd o = 3) 
    (k1 : Ct yX3_greatest MX3_greatest (d + 1) [.ref o] σ (fun v σ1 => Run MX3_done (d + 2) 4 [none] (v.toList ++ []) σ1 Q))
    : Run MX3_done (d + 2) 0 [some (.ref o)] [] σ Q := by
  refine (go_aload_n 0 eX3_done_0 rfl rfl).run ?_
  refine (go_sub (L' := [none]) (lsub_drop lsub_nil)).run ?_
  exact Run.callV (d := (d + 1)) (As := []) mX3_greatest lkX3_43 ho (by decide) rfl rfl rfl rfl rfl (Nat.le_of_ble_eq_true rfl) eX3_done_1 k1

set_option maxRecDepth 20000 in
theorem bX3_done_4 {d : Nat} {Q : Option Value → St → Prop} (s0 : Int32) (σ : St) 
    (k1 : Q (some (.int (bI (s0 ≤ 2)))) σ)
    : Run MX3_done (d + 2) 4 [none] [.int s0] σ Q := by
  refine (go_iconst (v := 2) eX3_done_4 rfl).run ?_
  have hJh1 : Run MX3_done (d + 2) 13 [none] [.int (bI (s0 ≤ 2))] σ Q := by
    exact Run.ret (v := some (.int (bI (s0 ≤ 2)))) k1 ⟨Or.inr ⟨rfl, bI_01⟩, eX3_done_13⟩ rfl
  refine (bi_gt 12 eX3_done_5 rfl).run (fun h1 => ?_) (fun h1 => ?_)
  · refine (go_iconst (v := 0) eX3_done_12 rfl).run ?_
    first | exact hJh1 | (simp only [if_pos h1] at hJh1; exact hJh1) | (simp only [eq_true h1, eq_false (i32_nle.mpr h1), true_and, and_true, false_and, and_false, true_or, or_true, false_or, or_false, not_true_eq_false, not_false_eq_true] at hJh1; exact hJh1) | exact Run.eq (by simp [eq_true h1, eq_false (i32_nle.mpr h1), bI]) (by simp [eq_true h1, eq_false (i32_nle.mpr h1), bI]) rfl hJh1
  · refine (go_iconst (v := 1) eX3_done_8 rfl).run ?_
    refine (go_goto 13 eX3_done_9 rfl).run ?_
    first | exact hJh1 | (simp only [if_neg (i32_nlt.mpr h1)] at hJh1; exact hJh1) | (simp only [eq_true h1, eq_false (i32_nlt.mpr h1), true_and, and_true, false_and, and_false, true_or, or_true, false_or, or_false, not_true_eq_false, not_false_eq_true] at hJh1; exact hJh1) | exact Run.eq (by simp [eq_true h1, eq_false (i32_nlt.mpr h1), bI]) (by simp [eq_true h1, eq_false (i32_nlt.mpr h1), bI]) rfl hJh1

/-! CarryNets$Columns.bringDownAtOnce -/
theorem eX3_bringDownAtOnce_0 : decode MX3_bringDownAtOnce.2.1 0 = .ok (.iconst 0, 1) := by decide +kernel
theorem eX3_bringDownAtOnce_1 : decode MX3_bringDownAtOnce.2.1 1 = .ok (.istore_n 1, 1) := by decide +kernel
theorem eX3_bringDownAtOnce_2 : decode MX3_bringDownAtOnce.2.1 2 = .ok (.iconst 0, 1) := by decide +kernel
theorem eX3_bringDownAtOnce_3 : decode MX3_bringDownAtOnce.2.1 3 = .ok (.istore_n 2, 1) := by decide +kernel
theorem eX3_bringDownAtOnce_4 : decode MX3_bringDownAtOnce.2.1 4 = .ok (.iload_n 2, 1) := by decide +kernel
theorem eX3_bringDownAtOnce_5 : decode MX3_bringDownAtOnce.2.1 5 = .ok (.aload_n 0, 1) := by decide +kernel
theorem eX3_bringDownAtOnce_6 : decode MX3_bringDownAtOnce.2.1 6 = .ok (.getfield 9, 3) := by decide +kernel
theorem eX3_bringDownAtOnce_9 : decode MX3_bringDownAtOnce.2.1 9 = .ok (.arraylength, 1) := by decide +kernel
theorem eX3_bringDownAtOnce_10 : decode MX3_bringDownAtOnce.2.1 10 = .ok (.if_icmp .ge 85, 3) := by decide +kernel
theorem eX3_bringDownAtOnce_13 : decode MX3_bringDownAtOnce.2.1 13 = .ok (.aload_n 0, 1) := by decide +kernel
theorem eX3_bringDownAtOnce_14 : decode MX3_bringDownAtOnce.2.1 14 = .ok (.getfield 9, 3) := by decide +kernel
theorem eX3_bringDownAtOnce_17 : decode MX3_bringDownAtOnce.2.1 17 = .ok (.iload_n 2, 1) := by decide +kernel
theorem eX3_bringDownAtOnce_18 : decode MX3_bringDownAtOnce.2.1 18 = .ok (.iaload, 1) := by decide +kernel
theorem eX3_bringDownAtOnce_19 : decode MX3_bringDownAtOnce.2.1 19 = .ok (.istore_n 3, 1) := by decide +kernel
theorem eX3_bringDownAtOnce_20 : decode MX3_bringDownAtOnce.2.1 20 = .ok (.iload_n 3, 1) := by decide +kernel
theorem eX3_bringDownAtOnce_21 : decode MX3_bringDownAtOnce.2.1 21 = .ok (.iconst 3, 1) := by decide +kernel
theorem eX3_bringDownAtOnce_22 : decode MX3_bringDownAtOnce.2.1 22 = .ok (.idiv, 1) := by decide +kernel
theorem eX3_bringDownAtOnce_23 : decode MX3_bringDownAtOnce.2.1 23 = .ok (.istore 4, 2) := by decide +kernel
theorem eX3_bringDownAtOnce_25 : decode MX3_bringDownAtOnce.2.1 25 = .ok (.iload_n 3, 1) := by decide +kernel
theorem eX3_bringDownAtOnce_26 : decode MX3_bringDownAtOnce.2.1 26 = .ok (.iconst 2, 1) := by decide +kernel
theorem eX3_bringDownAtOnce_27 : decode MX3_bringDownAtOnce.2.1 27 = .ok (.if_icmp .le 14, 3) := by decide +kernel
theorem eX3_bringDownAtOnce_30 : decode MX3_bringDownAtOnce.2.1 30 = .ok (.iload_n 3, 1) := by decide +kernel
theorem eX3_bringDownAtOnce_31 : decode MX3_bringDownAtOnce.2.1 31 = .ok (.iconst 3, 1) := by decide +kernel
theorem eX3_bringDownAtOnce_32 : decode MX3_bringDownAtOnce.2.1 32 = .ok (.irem, 1) := by decide +kernel
theorem eX3_bringDownAtOnce_33 : decode MX3_bringDownAtOnce.2.1 33 = .ok (.iconst 2, 1) := by decide +kernel
theorem eX3_bringDownAtOnce_34 : decode MX3_bringDownAtOnce.2.1 34 = .ok (.if_icmp .ne 7, 3) := by decide +kernel
theorem eX3_bringDownAtOnce_37 : decode MX3_bringDownAtOnce.2.1 37 = .ok (.iconst 1, 1) := by decide +kernel
theorem eX3_bringDownAtOnce_38 : decode MX3_bringDownAtOnce.2.1 38 = .ok (.goto 4, 3) := by decide +kernel
theorem eX3_bringDownAtOnce_41 : decode MX3_bringDownAtOnce.2.1 41 = .ok (.iconst 0, 1) := by decide +kernel
theorem eX3_bringDownAtOnce_42 : decode MX3_bringDownAtOnce.2.1 42 = .ok (.istore 5, 2) := by decide +kernel
theorem eX3_bringDownAtOnce_44 : decode MX3_bringDownAtOnce.2.1 44 = .ok (.aload_n 0, 1) := by decide +kernel
theorem eX3_bringDownAtOnce_45 : decode MX3_bringDownAtOnce.2.1 45 = .ok (.getfield 9, 3) := by decide +kernel
theorem eX3_bringDownAtOnce_48 : decode MX3_bringDownAtOnce.2.1 48 = .ok (.iload_n 2, 1) := by decide +kernel
theorem eX3_bringDownAtOnce_49 : decode MX3_bringDownAtOnce.2.1 49 = .ok (.iload_n 3, 1) := by decide +kernel
theorem eX3_bringDownAtOnce_50 : decode MX3_bringDownAtOnce.2.1 50 = .ok (.iconst 2, 1) := by decide +kernel
theorem eX3_bringDownAtOnce_51 : decode MX3_bringDownAtOnce.2.1 51 = .ok (.iload 4, 2) := by decide +kernel
theorem eX3_bringDownAtOnce_53 : decode MX3_bringDownAtOnce.2.1 53 = .ok (.imul, 1) := by decide +kernel
theorem eX3_bringDownAtOnce_54 : decode MX3_bringDownAtOnce.2.1 54 = .ok (.isub, 1) := by decide +kernel
theorem eX3_bringDownAtOnce_55 : decode MX3_bringDownAtOnce.2.1 55 = .ok (.iload 5, 2) := by decide +kernel
theorem eX3_bringDownAtOnce_57 : decode MX3_bringDownAtOnce.2.1 57 = .ok (.isub, 1) := by decide +kernel
theorem eX3_bringDownAtOnce_58 : decode MX3_bringDownAtOnce.2.1 58 = .ok (.iload_n 1, 1) := by decide +kernel
theorem eX3_bringDownAtOnce_59 : decode MX3_bringDownAtOnce.2.1 59 = .ok (.iadd, 1) := by decide +kernel
theorem eX3_bringDownAtOnce_60 : decode MX3_bringDownAtOnce.2.1 60 = .ok (.iastore, 1) := by decide +kernel
theorem eX3_bringDownAtOnce_61 : decode MX3_bringDownAtOnce.2.1 61 = .ok (.aload_n 0, 1) := by decide +kernel
theorem eX3_bringDownAtOnce_62 : decode MX3_bringDownAtOnce.2.1 62 = .ok (.dup, 1) := by decide +kernel
theorem eX3_bringDownAtOnce_63 : decode MX3_bringDownAtOnce.2.1 63 = .ok (.getfield 27, 3) := by decide +kernel
theorem eX3_bringDownAtOnce_66 : decode MX3_bringDownAtOnce.2.1 66 = .ok (.iload 4, 2) := by decide +kernel
theorem eX3_bringDownAtOnce_68 : decode MX3_bringDownAtOnce.2.1 68 = .ok (.iadd, 1) := by decide +kernel
theorem eX3_bringDownAtOnce_69 : decode MX3_bringDownAtOnce.2.1 69 = .ok (.putfield 27, 3) := by decide +kernel
theorem eX3_bringDownAtOnce_72 : decode MX3_bringDownAtOnce.2.1 72 = .ok (.aload_n 0, 1) := by decide +kernel
theorem eX3_bringDownAtOnce_73 : decode MX3_bringDownAtOnce.2.1 73 = .ok (.dup, 1) := by decide +kernel
theorem eX3_bringDownAtOnce_74 : decode MX3_bringDownAtOnce.2.1 74 = .ok (.getfield 31, 3) := by decide +kernel
theorem eX3_bringDownAtOnce_77 : decode MX3_bringDownAtOnce.2.1 77 = .ok (.iload 5, 2) := by decide +kernel
theorem eX3_bringDownAtOnce_79 : decode MX3_bringDownAtOnce.2.1 79 = .ok (.iadd, 1) := by decide +kernel
theorem eX3_bringDownAtOnce_80 : decode MX3_bringDownAtOnce.2.1 80 = .ok (.putfield 31, 3) := by decide +kernel
theorem eX3_bringDownAtOnce_83 : decode MX3_bringDownAtOnce.2.1 83 = .ok (.iload 4, 2) := by decide +kernel
theorem eX3_bringDownAtOnce_85 : decode MX3_bringDownAtOnce.2.1 85 = .ok (.iload 5, 2) := by decide +kernel
theorem eX3_bringDownAtOnce_87 : decode MX3_bringDownAtOnce.2.1 87 = .ok (.iadd, 1) := by decide +kernel
theorem eX3_bringDownAtOnce_88 : decode MX3_bringDownAtOnce.2.1 88 = .ok (.istore_n 1, 1) := by decide +kernel
theorem eX3_bringDownAtOnce_89 : decode MX3_bringDownAtOnce.2.1 89 = .ok (.iinc 2 1, 3) := by decide +kernel
theorem eX3_bringDownAtOnce_92 : decode MX3_bringDownAtOnce.2.1 92 = .ok (.goto (-88), 3) := by decide +kernel
theorem eX3_bringDownAtOnce_95 : decode MX3_bringDownAtOnce.2.1 95 = .ok (.aload_n 0, 1) := by decide +kernel
theorem eX3_bringDownAtOnce_96 : decode MX3_bringDownAtOnce.2.1 96 = .ok (.dup, 1) := by decide +kernel
theorem eX3_bringDownAtOnce_97 : decode MX3_bringDownAtOnce.2.1 97 = .ok (.getfield 34, 3) := by decide +kernel
theorem eX3_bringDownAtOnce_100 : decode MX3_bringDownAtOnce.2.1 100 = .ok (.iload_n 1, 1) := by decide +kernel
theorem eX3_bringDownAtOnce_101 : decode MX3_bringDownAtOnce.2.1 101 = .ok (.iadd, 1) := by decide +kernel
theorem eX3_bringDownAtOnce_102 : decode MX3_bringDownAtOnce.2.1 102 = .ok (.putfield 34, 3) := by decide +kernel
theorem eX3_bringDownAtOnce_105 : decode MX3_bringDownAtOnce.2.1 105 = .ok (.return_, 1) := by decide +kernel
set_option maxRecDepth 20000 in
theorem bX3_bringDownAtOnce_0 {d : Nat} {Q : Option Value → St → Prop} (o : Nat) (σ : St) (ho : kd o = 3) 
    (k1 : Run MX3_bringDownAtOnce d 4 [some (.ref o), some (.int 0), some (.int 0), none, none, none] [] σ Q)
    : Run MX3_bringDownAtOnce d 0 [some (.ref o), none, none, none, none, none] [] σ Q := by
  refine (go_iconst (v := 0) eX3_bringDownAtOnce_0 rfl).run ?_
  refine (go_istore_n 1 (L' := [some (.ref o), some (.int 0), none, none, none, none]) eX3_bringDownAtOnce_1 rfl (Nat.le_of_ble_eq_true rfl) rfl).run ?_
  refine (go_iconst (v := 0) eX3_bringDownAtOnce_2 rfl).run ?_
  refine (go_istore_n 2 (L' := [some (.ref o), some (.int 0), some (.int 0), none, none, none]) eX3_bringDownAtOnce_3 rfl (Nat.le_of_ble_eq_true rfl) rfl).run ?_
  exact k1

set_option maxRecDepth 20000 in
theorem bX3_bringDownAtOnce_4 {d : Nat} {Q : Option Value → St → Prop} (o : Nat) (x1 : Int32) (x2 : Int32) (σ : St) (ho : kd o = 3) 
    (g1 : x2 < 12 → vp_in x2 12)
    (k1 : (12 : Int32) ≤ x2 → Q (none) (sA σ o (upd (σ.1 o) 2 ((σ.1 o 2) + x1))))
    (k2 : x2 < 12 → Run MX3_bringDownAtOnce d 4 [some (.ref o), some (.int ((((σ.1 ((gr o 3))) x2.toNatClampNeg) / 3) + (bI ((2 : Int32) < ((σ.1 ((gr o 3))) x2.toNatClampNeg) ∧ (((σ.1 ((gr o 3))) x2.toNatClampNeg) - ((σ.1 ((gr o 3))) x2.toNatClampNeg) / 3 * 3) = 2)))), some (.int (x2 + 1)), none, none, none] [] (sA (sA (sA σ ((gr o 3)) (upd (σ.1 ((gr o 3))) x2.toNatClampNeg (((((σ.1 ((gr o 3))) x2.toNatClampNeg) - ((2 : Int32) * (((σ.1 ((gr o 3))) x2.toNatClampNeg) / 3))) - (bI ((2 : Int32) < ((σ.1 ((gr o 3))) x2.toNatClampNeg) ∧ (((σ.1 ((gr o 3))) x2.toNatClampNeg) - ((σ.1 ((gr o 3))) x2.toNatClampNeg) / 3 * 3) = 2))) + x1))) o (upd ((sA σ ((gr o 3)) (upd (σ.1 ((gr o 3))) x2.toNatClampNeg (((((σ.1 ((gr o 3))) x2.toNatClampNeg) - ((2 : Int32) * (((σ.1 ((gr o 3))) x2.toNatClampNeg) / 3))) - (bI ((2 : Int32) < ((σ.1 ((gr o 3))) x2.toNatClampNeg) ∧ (((σ.1 ((gr o 3))) x2.toNatClampNeg) - ((σ.1 ((gr o 3))) x2.toNatClampNeg) / 3 * 3) = 2))) + x1))).1 o) 0 (((sA σ ((gr o 3)) (upd (σ.1 ((gr o 3))) x2.toNatClampNeg (((((σ.1 ((gr o 3))) x2.toNatClampNeg) - ((2 : Int32) * (((σ.1 ((gr o 3))) x2.toNatClampNeg) / 3))) - (bI ((2 : Int32) < ((σ.1 ((gr o 3))) x2.toNatClampNeg) ∧ (((σ.1 ((gr o 3))) x2.toNatClampNeg) - ((σ.1 ((gr o 3))) x2.toNatClampNeg) / 3 * 3) = 2))) + x1))).1 o 0) + (((σ.1 ((gr o 3))) x2.toNatClampNeg) / 3)))) o (upd ((sA (sA σ ((gr o 3)) (upd (σ.1 ((gr o 3))) x2.toNatClampNeg (((((σ.1 ((gr o 3))) x2.toNatClampNeg) - ((2 : Int32) * (((σ.1 ((gr o 3))) x2.toNatClampNeg) / 3))) - (bI ((2 : Int32) < ((σ.1 ((gr o 3))) x2.toNatClampNeg) ∧ (((σ.1 ((gr o 3))) x2.toNatClampNeg) - ((σ.1 ((gr o 3))) x2.toNatClampNeg) / 3 * 3) = 2))) + x1))) o (upd ((sA σ ((gr o 3)) (upd (σ.1 ((gr o 3))) x2.toNatClampNeg (((((σ.1 ((gr o 3))) x2.toNatClampNeg) - ((2 : Int32) * (((σ.1 ((gr o 3))) x2.toNatClampNeg) / 3))) - (bI ((2 : Int32) < ((σ.1 ((gr o 3))) x2.toNatClampNeg) ∧ (((σ.1 ((gr o 3))) x2.toNatClampNeg) - ((σ.1 ((gr o 3))) x2.toNatClampNeg) / 3 * 3) = 2))) + x1))).1 o) 0 (((sA σ ((gr o 3)) (upd (σ.1 ((gr o 3))) x2.toNatClampNeg (((((σ.1 ((gr o 3))) x2.toNatClampNeg) - ((2 : Int32) * (((σ.1 ((gr o 3))) x2.toNatClampNeg) / 3))) - (bI ((2 : Int32) < ((σ.1 ((gr o 3))) x2.toNatClampNeg) ∧ (((σ.1 ((gr o 3))) x2.toNatClampNeg) - ((σ.1 ((gr o 3))) x2.toNatClampNeg) / 3 * 3) = 2))) + x1))).1 o 0) + (((σ.1 ((gr o 3))) x2.toNatClampNeg) / 3)))).1 o) 1 (((sA (sA σ ((gr o 3)) (upd (σ.1 ((gr o 3))) x2.toNatClampNeg (((((σ.1 ((gr o 3))) x2.toNatClampNeg) - ((2 : Int32) * (((σ.1 ((gr o 3))) x2.toNatClampNeg) / 3))) - (bI ((2 : Int32) < ((σ.1 ((gr o 3))) x2.toNatClampNeg) ∧ (((σ.1 ((gr o 3))) x2.toNatClampNeg) - ((σ.1 ((gr o 3))) x2.toNatClampNeg) / 3 * 3) = 2))) + x1))) o (upd ((sA σ ((gr o 3)) (upd (σ.1 ((gr o 3))) x2.toNatClampNeg (((((σ.1 ((gr o 3))) x2.toNatClampNeg) - ((2 : Int32) * (((σ.1 ((gr o 3))) x2.toNatClampNeg) / 3))) - (bI ((2 : Int32) < ((σ.1 ((gr o 3))) x2.toNatClampNeg) ∧ (((σ.1 ((gr o 3))) x2.toNatClampNeg) - ((σ.1 ((gr o 3))) x2.toNatClampNeg) / 3 * 3) = 2))) + x1))).1 o) 0 (((sA σ ((gr o 3)) (upd (σ.1 ((gr o 3))) x2.toNatClampNeg (((((σ.1 ((gr o 3))) x2.toNatClampNeg) - ((2 : Int32) * (((σ.1 ((gr o 3))) x2.toNatClampNeg) / 3))) - (bI ((2 : Int32) < ((σ.1 ((gr o 3))) x2.toNatClampNeg) ∧ (((σ.1 ((gr o 3))) x2.toNatClampNeg) - ((σ.1 ((gr o 3))) x2.toNatClampNeg) / 3 * 3) = 2))) + x1))).1 o 0) + (((σ.1 ((gr o 3))) x2.toNatClampNeg) / 3)))).1 o 1) + (bI ((2 : Int32) < ((σ.1 ((gr o 3))) x2.toNatClampNeg) ∧ (((σ.1 ((gr o 3))) x2.toNatClampNeg) - ((σ.1 ((gr o 3))) x2.toNatClampNeg) / 3 * 3) = 2))))) Q)
    : Run MX3_bringDownAtOnce d 4 [some (.ref o), some (.int x1), some (.int x2), none, none, none] [] σ Q := by
  refine (go_iload_n 2 eX3_bringDownAtOnce_4 rfl rfl).run ?_
  refine (go_aload_n 0 eX3_bringDownAtOnce_5 rfl rfl).run ?_
  refine (go_getr (r := gr o 3) flX3_9 rf_3_3 ho rfl eX3_bringDownAtOnce_6).run ?_
  refine (go_alen100 (v := 12) (kf_3_3 ho).1 (kf_3_3 ho).2 rfl eX3_bringDownAtOnce_9).run ?_
  refine (bi_ge 95 eX3_bringDownAtOnce_10 rfl).run (fun h1 => ?_) (fun h1 => ?_)
  · refine (go_aload_n 0 eX3_bringDownAtOnce_95 rfl rfl).run ?_
    refine (go_dup eX3_bringDownAtOnce_96 rfl).run ?_
    refine (go_geti flX3_34 rf_3_2 ho eX3_bringDownAtOnce_97).run ?_
    refine (go_iload_n 1 eX3_bringDownAtOnce_100 rfl rfl).run ?_
    refine (go_iadd eX3_bringDownAtOnce_101).run ?_
    refine (go_puti flX3_34 rf_3_2 rfl pf_3_2 rfl rfl ho eX3_bringDownAtOnce_102).run ?_
    exact Run.ret (v := none) (k1 h1) ⟨rfl, eX3_bringDownAtOnce_105⟩ rfl
  · refine (go_aload_n 0 eX3_bringDownAtOnce_13 rfl rfl).run ?_
    refine (go_getr (r := gr o 3) flX3_9 rf_3_3 ho rfl eX3_bringDownAtOnce_14).run ?_
    refine (go_iload_n 2 eX3_bringDownAtOnce_17 rfl rfl).run ?_
    refine (go_iald (kf_3_3 ho).1 (kf_3_3 ho).2 (g1 h1) eX3_bringDownAtOnce_18).run ?_
    refine (go_istore_n 3 (L' := [some (.ref o), some (.int x1), some (.int x2), some (.int ((σ.1 ((gr o 3))) x2.toNatClampNeg)), none, none]) eX3_bringDownAtOnce_19 rfl (Nat.le_of_ble_eq_true rfl) rfl).run ?_
    refine (go_iload_n 3 eX3_bringDownAtOnce_20 rfl rfl).run ?_
    refine (go_iconst (v := 3) eX3_bringDownAtOnce_21 rfl).run ?_
    refine (go_idiv eX3_bringDownAtOnce_22 (by decide)).run ?_
    refine (go_istore 4 (L' := [some (.ref o), some (.int x1), some (.int x2), some (.int ((σ.1 ((gr o 3))) x2.toNatClampNeg)), some (.int (((σ.1 ((gr o 3))) x2.toNatClampNeg) / 3)), none]) eX3_bringDownAtOnce_23 (Nat.le_of_ble_eq_true rfl) rfl).run ?_
    refine (go_iload_n 3 eX3_bringDownAtOnce_25 rfl rfl).run ?_
    refine (go_iconst (v := 2) eX3_bringDownAtOnce_26 rfl).run ?_
    have hJh2 : Run MX3_bringDownAtOnce d 42 [some (.ref o), some (.int x1), some (.int x2), some (.int ((σ.1 ((gr o 3))) x2.toNatClampNeg)), some (.int (((σ.1 ((gr o 3))) x2.toNatClampNeg) / 3)), none] [.int (bI ((2 : Int32) < ((σ.1 ((gr o 3))) x2.toNatClampNeg) ∧ (((σ.1 ((gr o 3))) x2.toNatClampNeg) - ((σ.1 ((gr o 3))) x2.toNatClampNeg) / 3 * 3) = 2))] σ Q := by
      refine (go_istore 5 (L' := [some (.ref o), some (.int x1), some (.int x2), some (.int ((σ.1 ((gr o 3))) x2.toNatClampNeg)), some (.int (((σ.1 ((gr o 3))) x2.toNatClampNeg) / 3)), some (.int (bI ((2 : Int32) < ((σ.1 ((gr o 3))) x2.toNatClampNeg) ∧ (((σ.1 ((gr o 3))) x2.toNatClampNeg) - ((σ.1 ((gr o 3))) x2.toNatClampNeg) / 3 * 3) = 2)))]) eX3_bringDownAtOnce_42 (Nat.le_of_ble_eq_true rfl) rfl).run ?_
      refine (go_aload_n 0 eX3_bringDownAtOnce_44 rfl rfl).run ?_
      refine (go_getr (r := gr o 3) flX3_9 rf_3_3 ho rfl eX3_bringDownAtOnce_45).run ?_
      refine (go_iload_n 2 eX3_bringDownAtOnce_48 rfl rfl).run ?_
      refine (go_iload_n 3 eX3_bringDownAtOnce_49 rfl rfl).run ?_
      refine (go_iconst (v := 2) eX3_bringDownAtOnce_50 rfl).run ?_
      refine (go_iload 4 eX3_bringDownAtOnce_51 rfl).run ?_
      refine (go_imul eX3_bringDownAtOnce_53).run ?_
      refine (go_isub eX3_bringDownAtOnce_54).run ?_
      refine (go_iload 5 eX3_bringDownAtOnce_55 rfl).run ?_
      refine (go_isub eX3_bringDownAtOnce_57).run ?_
      refine (go_iload_n 1 eX3_bringDownAtOnce_58 rfl rfl).run ?_
      refine (go_iadd eX3_bringDownAtOnce_59).run ?_
      refine (go_iast (kf_3_3 ho).1 (kf_3_3 ho).2 (g1 h1) eX3_bringDownAtOnce_60).run ?_
      refine (go_aload_n 0 eX3_bringDownAtOnce_61 rfl rfl).run ?_
      refine (go_dup eX3_bringDownAtOnce_62 rfl).run ?_
      refine (go_geti flX3_27 rf_3_0 ho eX3_bringDownAtOnce_63).run ?_
      refine (go_iload 4 eX3_bringDownAtOnce_66 rfl).run ?_
      refine (go_iadd eX3_bringDownAtOnce_68).run ?_
      refine (go_puti flX3_27 rf_3_0 rfl pf_3_0 rfl rfl ho eX3_bringDownAtOnce_69).run ?_
      refine (go_aload_n 0 eX3_bringDownAtOnce_72 rfl rfl).run ?_
      refine (go_dup eX3_bringDownAtOnce_73 rfl).run ?_
      refine (go_geti flX3_31 rf_3_1 ho eX3_bringDownAtOnce_74).run ?_
      refine (go_iload 5 eX3_bringDownAtOnce_77 rfl).run ?_
      refine (go_iadd eX3_bringDownAtOnce_79).run ?_
      refine (go_puti flX3_31 rf_3_1 rfl pf_3_1 rfl rfl ho eX3_bringDownAtOnce_80).run ?_
      refine (go_iload 4 eX3_bringDownAtOnce_83 rfl).run ?_
      refine (go_iload 5 eX3_bringDownAtOnce_85 rfl).run ?_
      refine (go_iadd eX3_bringDownAtOnce_87).run ?_
      refine (go_istore_n 1 (L' := [some (.ref o), some (.int ((((σ.1 ((gr o 3))) x2.toNatClampNeg) / 3) + (bI ((2 : Int32) < ((σ.1 ((gr o 3))) x2.toNatClampNeg) ∧ (((σ.1 ((gr o 3))) x2.toNatClampNeg) - ((σ.1 ((gr o 3))) x2.toNatClampNeg) / 3 * 3) = 2)))), some (.int x2), some (.int ((σ.1 ((gr o 3))) x2.toNatClampNeg)), some (.int (((σ.1 ((gr o 3))) x2.toNatClampNeg) / 3)), some (.int (bI ((2 : Int32) < ((σ.1 ((gr o 3))) x2.toNatClampNeg) ∧ (((σ.1 ((gr o 3))) x2.toNatClampNeg) - ((σ.1 ((gr o 3))) x2.toNatClampNeg) / 3 * 3) = 2)))]) eX3_bringDownAtOnce_88 rfl (Nat.le_of_ble_eq_true rfl) rfl).run ?_
      refine (go_iinc 2 (v := (x2 + 1)) (L' := [some (.ref o), some (.int ((((σ.1 ((gr o 3))) x2.toNatClampNeg) / 3) + (bI ((2 : Int32) < ((σ.1 ((gr o 3))) x2.toNatClampNeg) ∧ (((σ.1 ((gr o 3))) x2.toNatClampNeg) - ((σ.1 ((gr o 3))) x2.toNatClampNeg) / 3 * 3) = 2)))), some (.int (x2 + 1)), some (.int ((σ.1 ((gr o 3))) x2.toNatClampNeg)), some (.int (((σ.1 ((gr o 3))) x2.toNatClampNeg) / 3)), some (.int (bI ((2 : Int32) < ((σ.1 ((gr o 3))) x2.toNatClampNeg) ∧ (((σ.1 ((gr o 3))) x2.toNatClampNeg) - ((σ.1 ((gr o 3))) x2.toNatClampNeg) / 3 * 3) = 2)))]) eX3_bringDownAtOnce_89 rfl rfl (Nat.le_of_ble_eq_true rfl) rfl).run ?_
      refine (go_goto 4 eX3_bringDownAtOnce_92 rfl).run ?_
      refine (go_sub (L' := [some (.ref o), some (.int ((((σ.1 ((gr o 3))) x2.toNatClampNeg) / 3) + (bI ((2 : Int32) < ((σ.1 ((gr o 3))) x2.toNatClampNeg) ∧ (((σ.1 ((gr o 3))) x2.toNatClampNeg) - ((σ.1 ((gr o 3))) x2.toNatClampNeg) / 3 * 3) = 2)))), some (.int (x2 + 1)), none, none, none]) (lsub_keep (lsub_keep (lsub_keep (lsub_drop (lsub_drop (lsub_drop lsub_nil))))))).run ?_
      exact (k2 h1)
    refine (bi_le 41 eX3_bringDownAtOnce_27 rfl).run (fun h2 => ?_) (fun h2 => ?_)
    · refine (go_iconst (v := 0) eX3_bringDownAtOnce_41 rfl).run ?_
      first | exact hJh2 | (simp only [if_pos h2] at hJh2; exact hJh2) | (simp only [eq_true h2, eq_false (i32_nlt.mpr h2), true_and, and_true, false_and, and_false, true_or, or_true, false_or, or_false, not_true_eq_false, not_false_eq_true] at hJh2; exact hJh2) | exact Run.eq (by simp [eq_true h2, eq_false (i32_nlt.mpr h2), bI]) (by simp [eq_true h2, eq_false (i32_nlt.mpr h2), bI]) rfl hJh2
    · refine (go_iload_n 3 eX3_bringDownAtOnce_30 rfl rfl).run ?_
      refine (go_iconst (v := 3) eX3_bringDownAtOnce_31 rfl).run ?_
      refine (go_irem eX3_bringDownAtOnce_32 (by decide)).run ?_
      refine (go_iconst (v := 2) eX3_bringDownAtOnce_33 rfl).run ?_
      have hJh3 : Run MX3_bringDownAtOnce d 42 [some (.ref o), some (.int x1), some (.int x2), some (.int ((σ.1 ((gr o 3))) x2.toNatClampNeg)), some (.int (((σ.1 ((gr o 3))) x2.toNatClampNeg) / 3)), none] [.int (bI ((((σ.1 ((gr o 3))) x2.toNatClampNeg) - ((σ.1 ((gr o 3))) x2.toNatClampNeg) / 3 * 3) = 2))] σ Q := by
        first | exact hJh2 | (simp only [if_neg (i32_nle.mpr h2)] at hJh2; exact hJh2) | (simp only [eq_true h2, eq_false (i32_nle.mpr h2), true_and, and_true, false_and, and_false, true_or, or_true, false_or, or_false, not_true_eq_false, not_false_eq_true] at hJh2; exact hJh2) | exact Run.eq (by simp [eq_true h2, eq_false (i32_nle.mpr h2), bI]) (by simp [eq_true h2, eq_false (i32_nle.mpr h2), bI]) rfl hJh2
      refine (bi_ne 41 eX3_bringDownAtOnce_34 rfl).run (fun h3 => ?_) (fun h3 => ?_)
      · refine (go_iconst (v := 0) eX3_bringDownAtOnce_41 rfl).run ?_
        first | exact hJh3 | (simp only [if_neg (h3)] at hJh3; exact hJh3) | (simp only [eq_false h3, not_false_eq_true, true_and, and_true, false_and, and_false, true_or, or_true, false_or, or_false, not_true_eq_false, not_false_eq_true] at hJh3; exact hJh3) | exact Run.eq (by simp [eq_false h3, not_false_eq_true, bI]) (by simp [eq_false h3, not_false_eq_true, bI]) rfl hJh3
      · refine (go_iconst (v := 1) eX3_bringDownAtOnce_37 rfl).run ?_
        refine (go_goto 42 eX3_bringDownAtOnce_38 rfl).run ?_
        first | exact hJh3 | (simp only [if_pos h3] at hJh3; exact hJh3) | (simp only [eq_true h3, not_true_eq_false, true_and, and_true, false_and, and_false, true_or, or_true, false_or, or_false, not_true_eq_false, not_false_eq_true] at hJh3; exact hJh3) | exact Run.eq (by simp [eq_true h3, not_true_eq_false, bI]) (by simp [eq_true h3, not_true_eq_false, bI]) rfl hJh3

/-! CarryNets$Columns.goal -/
theorem eX3_goal_0 : decode MX3_goal.2.1 0 = .ok (.aload_n 0, 1) := by decide +kernel
theorem eX3_goal_1 : decode MX3_goal.2.1 1 = .ok (.invokevirtual 43, 3) := by decide +kernel
theorem eX3_goal_4 : decode MX3_goal.2.1 4 = .ok (.istore_n 1, 1) := by decide +kernel
theorem eX3_goal_5 : decode MX3_goal.2.1 5 = .ok (.iconst 2, 1) := by decide +kernel
theorem eX3_goal_6 : decode MX3_goal.2.1 6 = .ok (.istore_n 2, 1) := by decide +kernel
theorem eX3_goal_7 : decode MX3_goal.2.1 7 = .ok (.iconst 3, 1) := by decide +kernel
theorem eX3_goal_8 : decode MX3_goal.2.1 8 = .ok (.istore_n 3, 1) := by decide +kernel
theorem eX3_goal_9 : decode MX3_goal.2.1 9 = .ok (.iload_n 3, 1) := by decide +kernel
theorem eX3_goal_10 : decode MX3_goal.2.1 10 = .ok (.iload_n 1, 1) := by decide +kernel
theorem eX3_goal_11 : decode MX3_goal.2.1 11 = .ok (.if_icmp .ge 14, 3) := by decide +kernel
theorem eX3_goal_14 : decode MX3_goal.2.1 14 = .ok (.iload_n 3, 1) := by decide +kernel
theorem eX3_goal_15 : decode MX3_goal.2.1 15 = .ok (.istore_n 2, 1) := by decide +kernel
theorem eX3_goal_16 : decode MX3_goal.2.1 16 = .ok (.iload_n 3, 1) := by decide +kernel
theorem eX3_goal_17 : decode MX3_goal.2.1 17 = .ok (.iload_n 3, 1) := by decide +kernel
theorem eX3_goal_18 : decode MX3_goal.2.1 18 = .ok (.iconst 2, 1) := by decide +kernel
theorem eX3_goal_19 : decode MX3_goal.2.1 19 = .ok (.idiv, 1) := by decide +kernel
theorem eX3_goal_20 : decode MX3_goal.2.1 20 = .ok (.iadd, 1) := by decide +kernel
theorem eX3_goal_21 : decode MX3_goal.2.1 21 = .ok (.istore_n 3, 1) := by decide +kernel
theorem eX3_goal_22 : decode MX3_goal.2.1 22 = .ok (.goto (-13), 3) := by decide +kernel
theorem eX3_goal_25 : decode MX3_goal.2.1 25 = .ok (.iload_n 2, 1) := by decide +kernel
theorem eX3_goal_26 : decode MX3_goal.2.1 26 = .ok (.ireturn, 1) := by decide +kernel
set_option maxRecDepth 20000 in
theorem bX3_goal_0 {d : Nat} {Q : Option Value → St → Prop} (o : Nat) (σ : St) (ho : kd o = 3) 
    (k1 : Ct yX3_greatest MX3_greatest (d + 1) [.ref o] σ (fun v σ1 => Run MX3_goal (d + 2) 4 [none, none, none, none] (v.toList ++ []) σ1 Q))
    : Run MX3_goal (d + 2) 0 [some (.ref o), none, none, none] [] σ Q := by
  refine (go_aload_n 0 eX3_goal_0 rfl rfl).run ?_
  refine (go_sub (L' := [none, none, none, none]) (lsub_drop (lsub_keep (lsub_keep (lsub_keep lsub_nil))))).run ?_
  exact Run.callV (d := (d + 1)) (As := []) mX3_greatest lkX3_43 ho (by decide) rfl rfl rfl rfl rfl (Nat.le_of_ble_eq_true rfl) eX3_goal_1 k1

set_option maxRecDepth 20000 in
theorem bX3_goal_4 {d : Nat} {Q : Option Value → St → Prop} (s0 : Int32) (σ : St) 
    (k1 : Run MX3_goal (d + 2) 9 [none, some (.int s0), some (.int 2), some (.int 3)] [] σ Q)
    : Run MX3_goal (d + 2) 4 [none, none, none, none] [.int s0] σ Q := by
  refine (go_istore_n 1 (L' := [none, some (.int s0), none, none]) eX3_goal_4 rfl (Nat.le_of_ble_eq_true rfl) rfl).run ?_
  refine (go_iconst (v := 2) eX3_goal_5 rfl).run ?_
  refine (go_istore_n 2 (L' := [none, some (.int s0), some (.int 2), none]) eX3_goal_6 rfl (Nat.le_of_ble_eq_true rfl) rfl).run ?_
  refine (go_iconst (v := 3) eX3_goal_7 rfl).run ?_
  refine (go_istore_n 3 (L' := [none, some (.int s0), some (.int 2), some (.int 3)]) eX3_goal_8 rfl (Nat.le_of_ble_eq_true rfl) rfl).run ?_
  exact k1

set_option maxRecDepth 20000 in
theorem bX3_goal_9 {d : Nat} {Q : Option Value → St → Prop} (x1 : Int32) (x2 : Int32) (x3 : Int32) (σ : St) 
    (k1 : x1 ≤ x3 → Q (some (.int x2)) σ)
    (k2 : x3 < x1 → Run MX3_goal (d + 2) 9 [none, some (.int x1), some (.int x3), some (.int (x3 + (x3 / 2)))] [] σ Q)
    : Run MX3_goal (d + 2) 9 [none, some (.int x1), some (.int x2), some (.int x3)] [] σ Q := by
  refine (go_iload_n 3 eX3_goal_9 rfl rfl).run ?_
  refine (go_iload_n 1 eX3_goal_10 rfl rfl).run ?_
  refine (bi_ge 25 eX3_goal_11 rfl).run (fun h1 => ?_) (fun h1 => ?_)
  · refine (go_iload_n 2 eX3_goal_25 rfl rfl).run ?_
    exact Run.ret (v := some (.int x2)) (k1 h1) ⟨Or.inl rfl, eX3_goal_26⟩ rfl
  · refine (go_iload_n 3 eX3_goal_14 rfl rfl).run ?_
    refine (go_istore_n 2 (L' := [none, some (.int x1), some (.int x3), some (.int x3)]) eX3_goal_15 rfl (Nat.le_of_ble_eq_true rfl) rfl).run ?_
    refine (go_iload_n 3 eX3_goal_16 rfl rfl).run ?_
    refine (go_iload_n 3 eX3_goal_17 rfl rfl).run ?_
    refine (go_iconst (v := 2) eX3_goal_18 rfl).run ?_
    refine (go_idiv eX3_goal_19 (by decide)).run ?_
    refine (go_iadd eX3_goal_20).run ?_
    refine (go_istore_n 3 (L' := [none, some (.int x1), some (.int x3), some (.int (x3 + (x3 / 2)))]) eX3_goal_21 rfl (Nat.le_of_ble_eq_true rfl) rfl).run ?_
    refine (go_goto 9 eX3_goal_22 rfl).run ?_
    exact (k2 h1)

/-! CarryNets$Columns.bringDownLate -/
theorem eX3_bringDownLate_0 : decode MX3_bringDownLate.2.1 0 = .ok (.aload_n 0, 1) := by decide +kernel
theorem eX3_bringDownLate_1 : decode MX3_bringDownLate.2.1 1 = .ok (.invokevirtual 53, 3) := by decide +kernel
theorem eX3_bringDownLate_4 : decode MX3_bringDownLate.2.1 4 = .ok (.istore_n 1, 1) := by decide +kernel
theorem eX3_bringDownLate_5 : decode MX3_bringDownLate.2.1 5 = .ok (.iconst 0, 1) := by decide +kernel
theorem eX3_bringDownLate_6 : decode MX3_bringDownLate.2.1 6 = .ok (.istore_n 2, 1) := by decide +kernel
theorem eX3_bringDownLate_7 : decode MX3_bringDownLate.2.1 7 = .ok (.iconst 0, 1) := by decide +kernel
theorem eX3_bringDownLate_8 : decode MX3_bringDownLate.2.1 8 = .ok (.istore_n 3, 1) := by decide +kernel
theorem eX3_bringDownLate_9 : decode MX3_bringDownLate.2.1 9 = .ok (.iload_n 3, 1) := by decide +kernel
theorem eX3_bringDownLate_10 : decode MX3_bringDownLate.2.1 10 = .ok (.aload_n 0, 1) := by decide +kernel
theorem eX3_bringDownLate_11 : decode MX3_bringDownLate.2.1 11 = .ok (.getfield 9, 3) := by decide +kernel
theorem eX3_bringDownLate_14 : decode MX3_bringDownLate.2.1 14 = .ok (.arraylength, 1) := by decide +kernel
theorem eX3_bringDownLate_15 : decode MX3_bringDownLate.2.1 15 = .ok (.if_icmp .ge 74, 3) := by decide +kernel
theorem eX3_bringDownLate_18 : decode MX3_bringDownLate.2.1 18 = .ok (.iconst 0, 1) := by decide +kernel
theorem eX3_bringDownLate_19 : decode MX3_bringDownLate.2.1 19 = .ok (.aload_n 0, 1) := by decide +kernel
theorem eX3_bringDownLate_20 : decode MX3_bringDownLate.2.1 20 = .ok (.getfield 9, 3) := by decide +kernel
theorem eX3_bringDownLate_23 : decode MX3_bringDownLate.2.1 23 = .ok (.iload_n 3, 1) := by decide +kernel
theorem eX3_bringDownLate_24 : decode MX3_bringDownLate.2.1 24 = .ok (.iaload, 1) := by decide +kernel
theorem eX3_bringDownLate_25 : decode MX3_bringDownLate.2.1 25 = .ok (.iload_n 2, 1) := by decide +kernel
theorem eX3_bringDownLate_26 : decode MX3_bringDownLate.2.1 26 = .ok (.iadd, 1) := by decide +kernel
theorem eX3_bringDownLate_27 : decode MX3_bringDownLate.2.1 27 = .ok (.iload_n 1, 1) := by decide +kernel
theorem eX3_bringDownLate_28 : decode MX3_bringDownLate.2.1 28 = .ok (.isub, 1) := by decide +kernel
theorem eX3_bringDownLate_29 : decode MX3_bringDownLate.2.1 29 = .ok (.invokestatic 37, 3) := by decide +kernel
theorem eX3_bringDownLate_32 : decode MX3_bringDownLate.2.1 32 = .ok (.istore 4, 2) := by decide +kernel
theorem eX3_bringDownLate_34 : decode MX3_bringDownLate.2.1 34 = .ok (.aload_n 0, 1) := by decide +kernel
theorem eX3_bringDownLate_35 : decode MX3_bringDownLate.2.1 35 = .ok (.getfield 9, 3) := by decide +kernel
theorem eX3_bringDownLate_38 : decode MX3_bringDownLate.2.1 38 = .ok (.iload_n 3, 1) := by decide +kernel
theorem eX3_bringDownLate_39 : decode MX3_bringDownLate.2.1 39 = .ok (.dup2, 1) := by decide +kernel
theorem eX3_bringDownLate_40 : decode MX3_bringDownLate.2.1 40 = .ok (.iaload, 1) := by decide +kernel
theorem eX3_bringDownLate_41 : decode MX3_bringDownLate.2.1 41 = .ok (.iload_n 2, 1) := by decide +kernel
theorem eX3_bringDownLate_42 : decode MX3_bringDownLate.2.1 42 = .ok (.iload 4, 2) := by decide +kernel
theorem eX3_bringDownLate_44 : decode MX3_bringDownLate.2.1 44 = .ok (.isub, 1) := by decide +kernel
theorem eX3_bringDownLate_45 : decode MX3_bringDownLate.2.1 45 = .ok (.iadd, 1) := by decide +kernel
theorem eX3_bringDownLate_46 : decode MX3_bringDownLate.2.1 46 = .ok (.iastore, 1) := by decide +kernel
theorem eX3_bringDownLate_47 : decode MX3_bringDownLate.2.1 47 = .ok (.aload_n 0, 1) := by decide +kernel
theorem eX3_bringDownLate_48 : decode MX3_bringDownLate.2.1 48 = .ok (.dup, 1) := by decide +kernel
theorem eX3_bringDownLate_49 : decode MX3_bringDownLate.2.1 49 = .ok (.getfield 27, 3) := by decide +kernel
theorem eX3_bringDownLate_52 : decode MX3_bringDownLate.2.1 52 = .ok (.iload 4, 2) := by decide +kernel
theorem eX3_bringDownLate_54 : decode MX3_bringDownLate.2.1 54 = .ok (.iconst 2, 1) := by decide +kernel
theorem eX3_bringDownLate_55 : decode MX3_bringDownLate.2.1 55 = .ok (.idiv, 1) := by decide +kernel
theorem eX3_bringDownLate_56 : decode MX3_bringDownLate.2.1 56 = .ok (.iadd, 1) := by decide +kernel
theorem eX3_bringDownLate_57 : decode MX3_bringDownLate.2.1 57 = .ok (.putfield 27, 3) := by decide +kernel
theorem eX3_bringDownLate_60 : decode MX3_bringDownLate.2.1 60 = .ok (.aload_n 0, 1) := by decide +kernel
theorem eX3_bringDownLate_61 : decode MX3_bringDownLate.2.1 61 = .ok (.dup, 1) := by decide +kernel
theorem eX3_bringDownLate_62 : decode MX3_bringDownLate.2.1 62 = .ok (.getfield 31, 3) := by decide +kernel
theorem eX3_bringDownLate_65 : decode MX3_bringDownLate.2.1 65 = .ok (.iload 4, 2) := by decide +kernel
theorem eX3_bringDownLate_67 : decode MX3_bringDownLate.2.1 67 = .ok (.iconst 2, 1) := by decide +kernel
theorem eX3_bringDownLate_68 : decode MX3_bringDownLate.2.1 68 = .ok (.irem, 1) := by decide +kernel
theorem eX3_bringDownLate_69 : decode MX3_bringDownLate.2.1 69 = .ok (.iadd, 1) := by decide +kernel
theorem eX3_bringDownLate_70 : decode MX3_bringDownLate.2.1 70 = .ok (.putfield 31, 3) := by decide +kernel
theorem eX3_bringDownLate_73 : decode MX3_bringDownLate.2.1 73 = .ok (.iload 4, 2) := by decide +kernel
theorem eX3_bringDownLate_75 : decode MX3_bringDownLate.2.1 75 = .ok (.iconst 2, 1) := by decide +kernel
theorem eX3_bringDownLate_76 : decode MX3_bringDownLate.2.1 76 = .ok (.idiv, 1) := by decide +kernel
theorem eX3_bringDownLate_77 : decode MX3_bringDownLate.2.1 77 = .ok (.iload 4, 2) := by decide +kernel
theorem eX3_bringDownLate_79 : decode MX3_bringDownLate.2.1 79 = .ok (.iconst 2, 1) := by decide +kernel
theorem eX3_bringDownLate_80 : decode MX3_bringDownLate.2.1 80 = .ok (.irem, 1) := by decide +kernel
theorem eX3_bringDownLate_81 : decode MX3_bringDownLate.2.1 81 = .ok (.iadd, 1) := by decide +kernel
theorem eX3_bringDownLate_82 : decode MX3_bringDownLate.2.1 82 = .ok (.istore_n 2, 1) := by decide +kernel
theorem eX3_bringDownLate_83 : decode MX3_bringDownLate.2.1 83 = .ok (.iinc 3 1, 3) := by decide +kernel
theorem eX3_bringDownLate_86 : decode MX3_bringDownLate.2.1 86 = .ok (.goto (-77), 3) := by decide +kernel
theorem eX3_bringDownLate_89 : decode MX3_bringDownLate.2.1 89 = .ok (.aload_n 0, 1) := by decide +kernel
theorem eX3_bringDownLate_90 : decode MX3_bringDownLate.2.1 90 = .ok (.dup, 1) := by decide +kernel
theorem eX3_bringDownLate_91 : decode MX3_bringDownLate.2.1 91 = .ok (.getfield 34, 3) := by decide +kernel
theorem eX3_bringDownLate_94 : decode MX3_bringDownLate.2.1 94 = .ok (.iload_n 2, 1) := by decide +kernel
theorem eX3_bringDownLate_95 : decode MX3_bringDownLate.2.1 95 = .ok (.iadd, 1) := by decide +kernel
theorem eX3_bringDownLate_96 : decode MX3_bringDownLate.2.1 96 = .ok (.putfield 34, 3) := by decide +kernel
theorem eX3_bringDownLate_99 : decode MX3_bringDownLate.2.1 99 = .ok (.return_, 1) := by decide +kernel
set_option maxRecDepth 20000 in
theorem bX3_bringDownLate_0 {d : Nat} {Q : Option Value → St → Prop} (o : Nat) (σ : St) (ho : kd o = 3) 
    (k1 : Ct yX3_goal MX3_goal (d + 2) [.ref o] σ (fun v σ1 => Run MX3_bringDownLate (d + 3) 4 [some (.ref o), none, none, none, none] (v.toList ++ []) σ1 Q))
    : Run MX3_bringDownLate (d + 3) 0 [some (.ref o), none, none, none, none] [] σ Q := by
  refine (go_aload_n 0 eX3_bringDownLate_0 rfl rfl).run ?_
  exact Run.callV (d := (d + 2)) (As := []) mX3_goal lkX3_53 ho (by decide) rfl rfl rfl rfl rfl (Nat.le_of_ble_eq_true rfl) eX3_bringDownLate_1 k1

set_option maxRecDepth 20000 in
theorem bX3_bringDownLate_4 {d : Nat} {Q : Option Value → St → Prop} (o : Nat) (s0 : Int32) (σ : St) (ho : kd o = 3) 
    (k1 : Run MX3_bringDownLate (d + 3) 9 [some (.ref o), some (.int s0), some (.int 0), some (.int 0), none] [] σ Q)
    : Run MX3_bringDownLate (d + 3) 4 [some (.ref o), none, none, none, none] [.int s0] σ Q := by
  refine (go_istore_n 1 (L' := [some (.ref o), some (.int s0), none, none, none]) eX3_bringDownLate_4 rfl (Nat.le_of_ble_eq_true rfl) rfl).run ?_
  refine (go_iconst (v := 0) eX3_bringDownLate_5 rfl).run ?_
  refine (go_istore_n 2 (L' := [some (.ref o), some (.int s0), some (.int 0), none, none]) eX3_bringDownLate_6 rfl (Nat.le_of_ble_eq_true rfl) rfl).run ?_
  refine (go_iconst (v := 0) eX3_bringDownLate_7 rfl).run ?_
  refine (go_istore_n 3 (L' := [some (.ref o), some (.int s0), some (.int 0), some (.int 0), none]) eX3_bringDownLate_8 rfl (Nat.le_of_ble_eq_true rfl) rfl).run ?_
  exact k1

set_option maxRecDepth 20000 in
theorem bX3_bringDownLate_9 {d : Nat} {Q : Option Value → St → Prop} (o : Nat) (x1 : Int32) (x2 : Int32) (x3 : Int32) (σ : St) (ho : kd o = 3) 
    (g1 : x3 < 12 → vp_in x3 12)
    (k1 : (12 : Int32) ≤ x3 → Q (none) (sA σ o (upd (σ.1 o) 2 ((σ.1 o 2) + x2))))
    (k2 : x3 < 12 → Run MX3_bringDownLate (d + 3) 9 [some (.ref o), some (.int x1), some (.int (((mxI 0 ((((σ.1 ((gr o 3))) x3.toNatClampNeg) + x2) - x1)) / 2) + ((mxI 0 ((((σ.1 ((gr o 3))) x3.toNatClampNeg) + x2) - x1)) - (mxI 0 ((((σ.1 ((gr o 3))) x3.toNatClampNeg) + x2) - x1)) / 2 * 2))), some (.int (x3 + 1)), none] [] (sA (sA (sA σ ((gr o 3)) (upd (σ.1 ((gr o 3))) x3.toNatClampNeg (((σ.1 ((gr o 3))) x3.toNatClampNeg) + (x2 - (mxI 0 ((((σ.1 ((gr o 3))) x3.toNatClampNeg) + x2) - x1)))))) o (upd ((sA σ ((gr o 3)) (upd (σ.1 ((gr o 3))) x3.toNatClampNeg (((σ.1 ((gr o 3))) x3.toNatClampNeg) + (x2 - (mxI 0 ((((σ.1 ((gr o 3))) x3.toNatClampNeg) + x2) - x1)))))).1 o) 0 (((sA σ ((gr o 3)) (upd (σ.1 ((gr o 3))) x3.toNatClampNeg (((σ.1 ((gr o 3))) x3.toNatClampNeg) + (x2 - (mxI 0 ((((σ.1 ((gr o 3))) x3.toNatClampNeg) + x2) - x1)))))).1 o 0) + ((mxI 0 ((((σ.1 ((gr o 3))) x3.toNatClampNeg) + x2) - x1)) / 2)))) o (upd ((sA (sA σ ((gr o 3)) (upd (σ.1 ((gr o 3))) x3.toNatClampNeg (((σ.1 ((gr o 3))) x3.toNatClampNeg) + (x2 - (mxI 0 ((((σ.1 ((gr o 3))) x3.toNatClampNeg) + x2) - x1)))))) o (upd ((sA σ ((gr o 3)) (upd (σ.1 ((gr o 3))) x3.toNatClampNeg (((σ.1 ((gr o 3))) x3.toNatClampNeg) + (x2 - (mxI 0 ((((σ.1 ((gr o 3))) x3.toNatClampNeg) + x2) - x1)))))).1 o) 0 (((sA σ ((gr o 3)) (upd (σ.1 ((gr o 3))) x3.toNatClampNeg (((σ.1 ((gr o 3))) x3.toNatClampNeg) + (x2 - (mxI 0 ((((σ.1 ((gr o 3))) x3.toNatClampNeg) + x2) - x1)))))).1 o 0) + ((mxI 0 ((((σ.1 ((gr o 3))) x3.toNatClampNeg) + x2) - x1)) / 2)))).1 o) 1 (((sA (sA σ ((gr o 3)) (upd (σ.1 ((gr o 3))) x3.toNatClampNeg (((σ.1 ((gr o 3))) x3.toNatClampNeg) + (x2 - (mxI 0 ((((σ.1 ((gr o 3))) x3.toNatClampNeg) + x2) - x1)))))) o (upd ((sA σ ((gr o 3)) (upd (σ.1 ((gr o 3))) x3.toNatClampNeg (((σ.1 ((gr o 3))) x3.toNatClampNeg) + (x2 - (mxI 0 ((((σ.1 ((gr o 3))) x3.toNatClampNeg) + x2) - x1)))))).1 o) 0 (((sA σ ((gr o 3)) (upd (σ.1 ((gr o 3))) x3.toNatClampNeg (((σ.1 ((gr o 3))) x3.toNatClampNeg) + (x2 - (mxI 0 ((((σ.1 ((gr o 3))) x3.toNatClampNeg) + x2) - x1)))))).1 o 0) + ((mxI 0 ((((σ.1 ((gr o 3))) x3.toNatClampNeg) + x2) - x1)) / 2)))).1 o 1) + ((mxI 0 ((((σ.1 ((gr o 3))) x3.toNatClampNeg) + x2) - x1)) - (mxI 0 ((((σ.1 ((gr o 3))) x3.toNatClampNeg) + x2) - x1)) / 2 * 2)))) Q)
    : Run MX3_bringDownLate (d + 3) 9 [some (.ref o), some (.int x1), some (.int x2), some (.int x3), none] [] σ Q := by
  refine (go_iload_n 3 eX3_bringDownLate_9 rfl rfl).run ?_
  refine (go_aload_n 0 eX3_bringDownLate_10 rfl rfl).run ?_
  refine (go_getr (r := gr o 3) flX3_9 rf_3_3 ho rfl eX3_bringDownLate_11).run ?_
  refine (go_alen100 (v := 12) (kf_3_3 ho).1 (kf_3_3 ho).2 rfl eX3_bringDownLate_14).run ?_
  refine (bi_ge 89 eX3_bringDownLate_15 rfl).run (fun h1 => ?_) (fun h1 => ?_)
  · refine (go_aload_n 0 eX3_bringDownLate_89 rfl rfl).run ?_
    refine (go_dup eX3_bringDownLate_90 rfl).run ?_
    refine (go_geti flX3_34 rf_3_2 ho eX3_bringDownLate_91).run ?_
    refine (go_iload_n 2 eX3_bringDownLate_94 rfl rfl).run ?_
    refine (go_iadd eX3_bringDownLate_95).run ?_
    refine (go_puti flX3_34 rf_3_2 rfl pf_3_2 rfl rfl ho eX3_bringDownLate_96).run ?_
    exact Run.ret (v := none) (k1 h1) ⟨rfl, eX3_bringDownLate_99⟩ rfl
  · refine (go_iconst (v := 0) eX3_bringDownLate_18 rfl).run ?_
    refine (go_aload_n 0 eX3_bringDownLate_19 rfl rfl).run ?_
    refine (go_getr (r := gr o 3) flX3_9 rf_3_3 ho rfl eX3_bringDownLate_20).run ?_
    refine (go_iload_n 3 eX3_bringDownLate_23 rfl rfl).run ?_
    refine (go_iald (kf_3_3 ho).1 (kf_3_3 ho).2 (g1 h1) eX3_bringDownLate_24).run ?_
    refine (go_iload_n 2 eX3_bringDownLate_25 rfl rfl).run ?_
    refine (go_iadd eX3_bringDownLate_26).run ?_
    refine (go_iload_n 1 eX3_bringDownLate_27 rfl rfl).run ?_
    refine (go_isub eX3_bringDownLate_28).run ?_
    refine (go_maxN mm_ok lkX3_37 rfl (Nat.le_of_ble_eq_true rfl) (by omega) eX3_bringDownLate_29).run ?_
    refine (go_istore 4 (L' := [some (.ref o), some (.int x1), some (.int x2), some (.int x3), some (.int (mxI 0 ((((σ.1 ((gr o 3))) x3.toNatClampNeg) + x2) - x1)))]) eX3_bringDownLate_32 (Nat.le_of_ble_eq_true rfl) rfl).run ?_
    refine (go_aload_n 0 eX3_bringDownLate_34 rfl rfl).run ?_
    refine (go_getr (r := gr o 3) flX3_9 rf_3_3 ho rfl eX3_bringDownLate_35).run ?_
    refine (go_iload_n 3 eX3_bringDownLate_38 rfl rfl).run ?_
    refine (go_dup2 eX3_bringDownLate_39 rfl rfl).run ?_
    refine (go_iald (kf_3_3 ho).1 (kf_3_3 ho).2 (g1 h1) eX3_bringDownLate_40).run ?_
    refine (go_iload_n 2 eX3_bringDownLate_41 rfl rfl).run ?_
    refine (go_iload 4 eX3_bringDownLate_42 rfl).run ?_
    refine (go_isub eX3_bringDownLate_44).run ?_
    refine (go_iadd eX3_bringDownLate_45).run ?_
    refine (go_iast (kf_3_3 ho).1 (kf_3_3 ho).2 (g1 h1) eX3_bringDownLate_46).run ?_
    refine (go_aload_n 0 eX3_bringDownLate_47 rfl rfl).run ?_
    refine (go_dup eX3_bringDownLate_48 rfl).run ?_
    refine (go_geti flX3_27 rf_3_0 ho eX3_bringDownLate_49).run ?_
    refine (go_iload 4 eX3_bringDownLate_52 rfl).run ?_
    refine (go_iconst (v := 2) eX3_bringDownLate_54 rfl).run ?_
    refine (go_idiv eX3_bringDownLate_55 (by decide)).run ?_
    refine (go_iadd eX3_bringDownLate_56).run ?_
    refine (go_puti flX3_27 rf_3_0 rfl pf_3_0 rfl rfl ho eX3_bringDownLate_57).run ?_
    refine (go_aload_n 0 eX3_bringDownLate_60 rfl rfl).run ?_
    refine (go_dup eX3_bringDownLate_61 rfl).run ?_
    refine (go_geti flX3_31 rf_3_1 ho eX3_bringDownLate_62).run ?_
    refine (go_iload 4 eX3_bringDownLate_65 rfl).run ?_
    refine (go_iconst (v := 2) eX3_bringDownLate_67 rfl).run ?_
    refine (go_irem eX3_bringDownLate_68 (by decide)).run ?_
    refine (go_iadd eX3_bringDownLate_69).run ?_
    refine (go_puti flX3_31 rf_3_1 rfl pf_3_1 rfl rfl ho eX3_bringDownLate_70).run ?_
    refine (go_iload 4 eX3_bringDownLate_73 rfl).run ?_
    refine (go_iconst (v := 2) eX3_bringDownLate_75 rfl).run ?_
    refine (go_idiv eX3_bringDownLate_76 (by decide)).run ?_
    refine (go_iload 4 eX3_bringDownLate_77 rfl).run ?_
    refine (go_iconst (v := 2) eX3_bringDownLate_79 rfl).run ?_
    refine (go_irem eX3_bringDownLate_80 (by decide)).run ?_
    refine (go_iadd eX3_bringDownLate_81).run ?_
    refine (go_istore_n 2 (L' := [some (.ref o), some (.int x1), some (.int (((mxI 0 ((((σ.1 ((gr o 3))) x3.toNatClampNeg) + x2) - x1)) / 2) + ((mxI 0 ((((σ.1 ((gr o 3))) x3.toNatClampNeg) + x2) - x1)) - (mxI 0 ((((σ.1 ((gr o 3))) x3.toNatClampNeg) + x2) - x1)) / 2 * 2))), some (.int x3), some (.int (mxI 0 ((((σ.1 ((gr o 3))) x3.toNatClampNeg) + x2) - x1)))]) eX3_bringDownLate_82 rfl (Nat.le_of_ble_eq_true rfl) rfl).run ?_
    refine (go_iinc 3 (v := (x3 + 1)) (L' := [some (.ref o), some (.int x1), some (.int (((mxI 0 ((((σ.1 ((gr o 3))) x3.toNatClampNeg) + x2) - x1)) / 2) + ((mxI 0 ((((σ.1 ((gr o 3))) x3.toNatClampNeg) + x2) - x1)) - (mxI 0 ((((σ.1 ((gr o 3))) x3.toNatClampNeg) + x2) - x1)) / 2 * 2))), some (.int (x3 + 1)), some (.int (mxI 0 ((((σ.1 ((gr o 3))) x3.toNatClampNeg) + x2) - x1)))]) eX3_bringDownLate_83 rfl rfl (Nat.le_of_ble_eq_true rfl) rfl).run ?_
    refine (go_goto 9 eX3_bringDownLate_86 rfl).run ?_
    refine (go_sub (L' := [some (.ref o), some (.int x1), some (.int (((mxI 0 ((((σ.1 ((gr o 3))) x3.toNatClampNeg) + x2) - x1)) / 2) + ((mxI 0 ((((σ.1 ((gr o 3))) x3.toNatClampNeg) + x2) - x1)) - (mxI 0 ((((σ.1 ((gr o 3))) x3.toNatClampNeg) + x2) - x1)) / 2 * 2))), some (.int (x3 + 1)), none]) (lsub_keep (lsub_keep (lsub_keep (lsub_keep (lsub_drop lsub_nil)))))).run ?_
    exact (k2 h1)

/-! CarryNets$Columns.bringDown -/
theorem eX3_bringDown_0 : decode MX3_bringDown.2.1 0 = .ok (.iload_n 1, 1) := by decide +kernel
theorem eX3_bringDown_1 : decode MX3_bringDown.2.1 1 = .ok (.ifCond .ne 10, 3) := by decide +kernel
theorem eX3_bringDown_4 : decode MX3_bringDown.2.1 4 = .ok (.aload_n 0, 1) := by decide +kernel
theorem eX3_bringDown_5 : decode MX3_bringDown.2.1 5 = .ok (.invokevirtual 47, 3) := by decide +kernel
theorem eX3_bringDown_8 : decode MX3_bringDown.2.1 8 = .ok (.goto 7, 3) := by decide +kernel
theorem eX3_bringDown_11 : decode MX3_bringDown.2.1 11 = .ok (.aload_n 0, 1) := by decide +kernel
theorem eX3_bringDown_12 : decode MX3_bringDown.2.1 12 = .ok (.invokevirtual 50, 3) := by decide +kernel
theorem eX3_bringDown_15 : decode MX3_bringDown.2.1 15 = .ok (.return_, 1) := by decide +kernel
set_option maxRecDepth 20000 in
theorem bX3_bringDown_0 {d : Nat} {Q : Option Value → St → Prop} (o : Nat) (x1 : Int32) (σ : St) (ho : kd o = 3) 
    (k1 : ¬ x1 = 0 → Ct yX3_bringDownLate MX3_bringDownLate (d + 3) [.ref o] σ (fun v σ1 => Run MX3_bringDown (d + 4) 15 [none, none] (v.toList ++ []) σ1 Q))
    (k2 : x1 = 0 → Ct yX3_bringDownAtOnce MX3_bringDownAtOnce (d + 3) [.ref o] σ (fun v σ1 => Run MX3_bringDown (d + 4) 8 [none, none] (v.toList ++ []) σ1 Q))
    : Run MX3_bringDown (d + 4) 0 [some (.ref o), some (.int x1)] [] σ Q := by
  refine (go_iload_n 1 eX3_bringDown_0 rfl rfl).run ?_
  refine (bz_ne 11 eX3_bringDown_1 rfl).run (fun h1 => ?_) (fun h1 => ?_)
  · refine (go_aload_n 0 eX3_bringDown_11 rfl rfl).run ?_
    refine (go_sub (L' := [none, none]) (lsub_drop (lsub_drop lsub_nil))).run ?_
    exact Run.callV (d := (d + 3)) (As := []) mX3_bringDownLate lkX3_50 ho (by decide) rfl rfl rfl rfl rfl (Nat.le_of_ble_eq_true rfl) eX3_bringDown_12 (k1 h1)
  · refine (go_aload_n 0 eX3_bringDown_4 rfl rfl).run ?_
    refine (go_sub (L' := [none, none]) (lsub_drop (lsub_drop lsub_nil))).run ?_
    exact Run.callV (d := (d + 3)) (As := []) mX3_bringDownAtOnce lkX3_47 ho (by decide) rfl rfl rfl rfl rfl (Nat.le_of_ble_eq_true rfl) eX3_bringDown_5 (k2 h1)

set_option maxRecDepth 20000 in
theorem bX3_bringDown_15 {d : Nat} {Q : Option Value → St → Prop} (σ : St) 
    (k1 : Q (none) σ)
    : Run MX3_bringDown (d + 4) 15 [none, none] [] σ Q := by
  exact Run.ret (v := none) k1 ⟨rfl, eX3_bringDown_15⟩ rfl

set_option maxRecDepth 20000 in
theorem bX3_bringDown_8 {d : Nat} {Q : Option Value → St → Prop} (σ : St) 
    (k1 : Q (none) σ)
    : Run MX3_bringDown (d + 4) 8 [none, none] [] σ Q := by
  refine (go_goto 15 eX3_bringDown_8 rfl).run ?_
  exact Run.ret (v := none) k1 ⟨rfl, eX3_bringDown_15⟩ rfl

/-! CarryNets$Judge.lookAtCells -/
theorem eX4_lookAtCells_0 : decode MX4_lookAtCells.2.1 0 = .ok (.iconst 0, 1) := by decide +kernel
theorem eX4_lookAtCells_1 : decode MX4_lookAtCells.2.1 1 = .ok (.istore_n 2, 1) := by decide +kernel
theorem eX4_lookAtCells_2 : decode MX4_lookAtCells.2.1 2 = .ok (.iload_n 2, 1) := by decide +kernel
theorem eX4_lookAtCells_3 : decode MX4_lookAtCells.2.1 3 = .ok (.aload_n 0, 1) := by decide +kernel
theorem eX4_lookAtCells_4 : decode MX4_lookAtCells.2.1 4 = .ok (.getfield 18, 3) := by decide +kernel
theorem eX4_lookAtCells_7 : decode MX4_lookAtCells.2.1 7 = .ok (.arraylength, 1) := by decide +kernel
theorem eX4_lookAtCells_8 : decode MX4_lookAtCells.2.1 8 = .ok (.if_icmp .ge 16, 3) := by decide +kernel
theorem eX4_lookAtCells_11 : decode MX4_lookAtCells.2.1 11 = .ok (.aload_n 0, 1) := by decide +kernel
theorem eX4_lookAtCells_12 : decode MX4_lookAtCells.2.1 12 = .ok (.getfield 18, 3) := by decide +kernel
theorem eX4_lookAtCells_15 : decode MX4_lookAtCells.2.1 15 = .ok (.iload_n 2, 1) := by decide +kernel
theorem eX4_lookAtCells_16 : decode MX4_lookAtCells.2.1 16 = .ok (.iconst 0, 1) := by decide +kernel
theorem eX4_lookAtCells_17 : decode MX4_lookAtCells.2.1 17 = .ok (.iastore, 1) := by decide +kernel
theorem eX4_lookAtCells_18 : decode MX4_lookAtCells.2.1 18 = .ok (.iinc 2 1, 3) := by decide +kernel
theorem eX4_lookAtCells_21 : decode MX4_lookAtCells.2.1 21 = .ok (.goto (-19), 3) := by decide +kernel
theorem eX4_lookAtCells_24 : decode MX4_lookAtCells.2.1 24 = .ok (.iconst 0, 1) := by decide +kernel
theorem eX4_lookAtCells_25 : decode MX4_lookAtCells.2.1 25 = .ok (.istore_n 2, 1) := by decide +kernel
theorem eX4_lookAtCells_26 : decode MX4_lookAtCells.2.1 26 = .ok (.iload_n 2, 1) := by decide +kernel
theorem eX4_lookAtCells_27 : decode MX4_lookAtCells.2.1 27 = .ok (.iload_n 1, 1) := by decide +kernel
theorem eX4_lookAtCells_28 : decode MX4_lookAtCells.2.1 28 = .ok (.if_icmp .ge 115, 3) := by decide +kernel
theorem eX4_lookAtCells_31 : decode MX4_lookAtCells.2.1 31 = .ok (.aload_n 0, 1) := by decide +kernel
theorem eX4_lookAtCells_32 : decode MX4_lookAtCells.2.1 32 = .ok (.aload_n 0, 1) := by decide +kernel
theorem eX4_lookAtCells_33 : decode MX4_lookAtCells.2.1 33 = .ok (.getfield 26, 3) := by decide +kernel
theorem eX4_lookAtCells_36 : decode MX4_lookAtCells.2.1 36 = .ok (.aload_n 0, 1) := by decide +kernel
theorem eX4_lookAtCells_37 : decode MX4_lookAtCells.2.1 37 = .ok (.getfield 12, 3) := by decide +kernel
theorem eX4_lookAtCells_40 : decode MX4_lookAtCells.2.1 40 = .ok (.iload_n 2, 1) := by decide +kernel
theorem eX4_lookAtCells_41 : decode MX4_lookAtCells.2.1 41 = .ok (.invokevirtual 63, 3) := by decide +kernel
theorem eX4_lookAtCells_44 : decode MX4_lookAtCells.2.1 44 = .ok (.invokestatic 66, 3) := by decide +kernel
theorem eX4_lookAtCells_47 : decode MX4_lookAtCells.2.1 47 = .ok (.putfield 26, 3) := by decide +kernel
theorem eX4_lookAtCells_50 : decode MX4_lookAtCells.2.1 50 = .ok (.aload_n 0, 1) := by decide +kernel
theorem eX4_lookAtCells_51 : decode MX4_lookAtCells.2.1 51 = .ok (.getfield 12, 3) := by decide +kernel
theorem eX4_lookAtCells_54 : decode MX4_lookAtCells.2.1 54 = .ok (.iload_n 2, 1) := by decide +kernel
theorem eX4_lookAtCells_55 : decode MX4_lookAtCells.2.1 55 = .ok (.invokevirtual 72, 3) := by decide +kernel
theorem eX4_lookAtCells_58 : decode MX4_lookAtCells.2.1 58 = .ok (.istore_n 3, 1) := by decide +kernel
theorem eX4_lookAtCells_59 : decode MX4_lookAtCells.2.1 59 = .ok (.iload_n 3, 1) := by decide +kernel
theorem eX4_lookAtCells_60 : decode MX4_lookAtCells.2.1 60 = .ok (.bipush (-4), 2) := by decide +kernel
theorem eX4_lookAtCells_62 : decode MX4_lookAtCells.2.1 62 = .ok (.if_icmp .eq 75, 3) := by decide +kernel
theorem eX4_lookAtCells_65 : decode MX4_lookAtCells.2.1 65 = .ok (.aload_n 0, 1) := by decide +kernel
theorem eX4_lookAtCells_66 : decode MX4_lookAtCells.2.1 66 = .ok (.dup, 1) := by decide +kernel
theorem eX4_lookAtCells_67 : decode MX4_lookAtCells.2.1 67 = .ok (.getfield 22, 3) := by decide +kernel
theorem eX4_lookAtCells_70 : decode MX4_lookAtCells.2.1 70 = .ok (.iconst 1, 1) := by decide +kernel
theorem eX4_lookAtCells_71 : decode MX4_lookAtCells.2.1 71 = .ok (.iadd, 1) := by decide +kernel
theorem eX4_lookAtCells_72 : decode MX4_lookAtCells.2.1 72 = .ok (.putfield 22, 3) := by decide +kernel
theorem eX4_lookAtCells_75 : decode MX4_lookAtCells.2.1 75 = .ok (.aload_n 0, 1) := by decide +kernel
theorem eX4_lookAtCells_76 : decode MX4_lookAtCells.2.1 76 = .ok (.dup, 1) := by decide +kernel
theorem eX4_lookAtCells_77 : decode MX4_lookAtCells.2.1 77 = .ok (.getfield 29, 3) := by decide +kernel
theorem eX4_lookAtCells_80 : decode MX4_lookAtCells.2.1 80 = .ok (.iload_n 2, 1) := by decide +kernel
theorem eX4_lookAtCells_81 : decode MX4_lookAtCells.2.1 81 = .ok (.iload_n 3, 1) := by decide +kernel
theorem eX4_lookAtCells_82 : decode MX4_lookAtCells.2.1 82 = .ok (.isub, 1) := by decide +kernel
theorem eX4_lookAtCells_83 : decode MX4_lookAtCells.2.1 83 = .ok (.iadd, 1) := by decide +kernel
theorem eX4_lookAtCells_84 : decode MX4_lookAtCells.2.1 84 = .ok (.putfield 29, 3) := by decide +kernel
theorem eX4_lookAtCells_87 : decode MX4_lookAtCells.2.1 87 = .ok (.aload_n 0, 1) := by decide +kernel
theorem eX4_lookAtCells_88 : decode MX4_lookAtCells.2.1 88 = .ok (.aload_n 0, 1) := by decide +kernel
theorem eX4_lookAtCells_89 : decode MX4_lookAtCells.2.1 89 = .ok (.getfield 35, 3) := by decide +kernel
theorem eX4_lookAtCells_92 : decode MX4_lookAtCells.2.1 92 = .ok (.iload_n 2, 1) := by decide +kernel
theorem eX4_lookAtCells_93 : decode MX4_lookAtCells.2.1 93 = .ok (.iload_n 3, 1) := by decide +kernel
theorem eX4_lookAtCells_94 : decode MX4_lookAtCells.2.1 94 = .ok (.isub, 1) := by decide +kernel
theorem eX4_lookAtCells_95 : decode MX4_lookAtCells.2.1 95 = .ok (.invokestatic 66, 3) := by decide +kernel
theorem eX4_lookAtCells_98 : decode MX4_lookAtCells.2.1 98 = .ok (.putfield 35, 3) := by decide +kernel
theorem eX4_lookAtCells_101 : decode MX4_lookAtCells.2.1 101 = .ok (.aload_n 0, 1) := by decide +kernel
theorem eX4_lookAtCells_102 : decode MX4_lookAtCells.2.1 102 = .ok (.getfield 18, 3) := by decide +kernel
theorem eX4_lookAtCells_105 : decode MX4_lookAtCells.2.1 105 = .ok (.iload_n 3, 1) := by decide +kernel
theorem eX4_lookAtCells_106 : decode MX4_lookAtCells.2.1 106 = .ok (.aload_n 0, 1) := by decide +kernel
theorem eX4_lookAtCells_107 : decode MX4_lookAtCells.2.1 107 = .ok (.getfield 18, 3) := by decide +kernel
theorem eX4_lookAtCells_110 : decode MX4_lookAtCells.2.1 110 = .ok (.iload_n 3, 1) := by decide +kernel
theorem eX4_lookAtCells_111 : decode MX4_lookAtCells.2.1 111 = .ok (.invokestatic 75, 3) := by decide +kernel
theorem eX4_lookAtCells_114 : decode MX4_lookAtCells.2.1 114 = .ok (.iconst 1, 1) := by decide +kernel
theorem eX4_lookAtCells_115 : decode MX4_lookAtCells.2.1 115 = .ok (.iadd, 1) := by decide +kernel
theorem eX4_lookAtCells_116 : decode MX4_lookAtCells.2.1 116 = .ok (.invokestatic 79, 3) := by decide +kernel
theorem eX4_lookAtCells_119 : decode MX4_lookAtCells.2.1 119 = .ok (.aload_n 0, 1) := by decide +kernel
theorem eX4_lookAtCells_120 : decode MX4_lookAtCells.2.1 120 = .ok (.getfield 18, 3) := by decide +kernel
theorem eX4_lookAtCells_123 : decode MX4_lookAtCells.2.1 123 = .ok (.iload_n 2, 1) := by decide +kernel
theorem eX4_lookAtCells_124 : decode MX4_lookAtCells.2.1 124 = .ok (.aload_n 0, 1) := by decide +kernel
theorem eX4_lookAtCells_125 : decode MX4_lookAtCells.2.1 125 = .ok (.getfield 18, 3) := by decide +kernel
theorem eX4_lookAtCells_128 : decode MX4_lookAtCells.2.1 128 = .ok (.iload_n 2, 1) := by decide +kernel
theorem eX4_lookAtCells_129 : decode MX4_lookAtCells.2.1 129 = .ok (.invokestatic 75, 3) := by decide +kernel
theorem eX4_lookAtCells_132 : decode MX4_lookAtCells.2.1 132 = .ok (.iconst 1, 1) := by decide +kernel
theorem eX4_lookAtCells_133 : decode MX4_lookAtCells.2.1 133 = .ok (.isub, 1) := by decide +kernel
theorem eX4_lookAtCells_134 : decode MX4_lookAtCells.2.1 134 = .ok (.invokestatic 79, 3) := by decide +kernel
theorem eX4_lookAtCells_137 : decode MX4_lookAtCells.2.1 137 = .ok (.iinc 2 1, 3) := by decide +kernel
theorem eX4_lookAtCells_140 : decode MX4_lookAtCells.2.1 140 = .ok (.goto (-114), 3) := by decide +kernel
theorem eX4_lookAtCells_143 : decode MX4_lookAtCells.2.1 143 = .ok (.return_, 1) := by decide +kernel
set_option maxRecDepth 20000 in
theorem bX4_lookAtCells_0 {d : Nat} {Q : Option Value → St → Prop} (x1 : Int32) (σ : St) 
    (k1 : Run MX4_lookAtCells (d + 2) 2 [some (.ref 8), some (.int x1), some (.int 0), none] [] σ Q)
    : Run MX4_lookAtCells (d + 2) 0 [some (.ref 8), some (.int x1), none, none] [] σ Q := by
  refine (go_iconst (v := 0) eX4_lookAtCells_0 rfl).run ?_
  refine (go_istore_n 2 (L' := [some (.ref 8), some (.int x1), some (.int 0), none]) eX4_lookAtCells_1 rfl (Nat.le_of_ble_eq_true rfl) rfl).run ?_
  exact k1

set_option maxRecDepth 20000 in
theorem bX4_lookAtCells_2 {d : Nat} {Q : Option Value → St → Prop} (x1 : Int32) (x2 : Int32) (σ : St) 
    (g1 : x2 < 32 → vp_in x2 32)
    (k1 : (32 : Int32) ≤ x2 → Run MX4_lookAtCells (d + 2) 26 [some (.ref 8), some (.int x1), some (.int 0), none] [] σ Q)
    (k2 : x2 < 32 → Run MX4_lookAtCells (d + 2) 2 [some (.ref 8), some (.int x1), some (.int (x2 + 1)), none] [] (sA σ 13 (upd (σ.1 13) x2.toNatClampNeg 0)) Q)
    : Run MX4_lookAtCells (d + 2) 2 [some (.ref 8), some (.int x1), some (.int x2), none] [] σ Q := by
  refine (go_iload_n 2 eX4_lookAtCells_2 rfl rfl).run ?_
  refine (go_aload_n 0 eX4_lookAtCells_3 rfl rfl).run ?_
  refine (go_getr flX4_18 rf_4_6 kd_8 gr_8_6 eX4_lookAtCells_4).run ?_
  refine (go_alen100 (v := 32) kd_13 ln_13 rfl eX4_lookAtCells_7).run ?_
  refine (bi_ge 24 eX4_lookAtCells_8 rfl).run (fun h1 => ?_) (fun h1 => ?_)
  · refine (go_iconst (v := 0) eX4_lookAtCells_24 rfl).run ?_
    refine (go_istore_n 2 (L' := [some (.ref 8), some (.int x1), some (.int 0), none]) eX4_lookAtCells_25 rfl (Nat.le_of_ble_eq_true rfl) rfl).run ?_
    exact (k1 h1)
  · refine (go_aload_n 0 eX4_lookAtCells_11 rfl rfl).run ?_
    refine (go_getr flX4_18 rf_4_6 kd_8 gr_8_6 eX4_lookAtCells_12).run ?_
    refine (go_iload_n 2 eX4_lookAtCells_15 rfl rfl).run ?_
    refine (go_iconst (v := 0) eX4_lookAtCells_16 rfl).run ?_
    refine (go_iast kd_13 ln_13 (g1 h1) eX4_lookAtCells_17).run ?_
    refine (go_iinc 2 (v := (x2 + 1)) (L' := [some (.ref 8), some (.int x1), some (.int (x2 + 1)), none]) eX4_lookAtCells_18 rfl rfl (Nat.le_of_ble_eq_true rfl) rfl).run ?_
    refine (go_goto 2 eX4_lookAtCells_21 rfl).run ?_
    exact (k2 h1)

set_option maxRecDepth 20000 in
theorem bX4_lookAtCells_26 {d : Nat} {Q : Option Value → St → Prop} (x1 : Int32) (x2 : Int32) (σ : St) 
    (k1 : x1 ≤ x2 → Q (none) σ)
    (k2 : x2 < x1 → (((aG (gr 9 2) x2 (sA σ 8 (upd (σ.1 8) 1 (mxI (σ.1 8 1) (((aG (gr 9 3) x2 σ))))))))) = (-4) → Run MX4_lookAtCells (d + 2) 26 [some (.ref 8), some (.int x1), some (.int (x2 + 1)), none] [] (sA σ 8 (upd (σ.1 8) 1 (mxI (σ.1 8 1) (((aG (gr 9 3) x2 σ)))))) Q)
    (k3 : x2 < x1 → ¬ (((aG (gr 9 2) x2 (sA σ 8 (upd (σ.1 8) 1 (mxI (σ.1 8 1) (((aG (gr 9 3) x2 σ))))))))) = (-4) → Run MX4_lookAtCells (d + 2) 26 [some (.ref 8), some (.int x1), some (.int (x2 + 1)), none] [] (aP 13 x2 (((aG 13 x2 (aP 13 (((aG (gr 9 2) x2 (sA σ 8 (upd (σ.1 8) 1 (mxI (σ.1 8 1) (((aG (gr 9 3) x2 σ))))))))) (((aG 13 (((aG (gr 9 2) x2 (sA σ 8 (upd (σ.1 8) 1 (mxI (σ.1 8 1) (((aG (gr 9 3) x2 σ))))))))) (sA (sA (sA (sA σ 8 (upd (σ.1 8) 1 (mxI (σ.1 8 1) (((aG (gr 9 3) x2 σ)))))) 8 (upd (upd (σ.1 8) 1 (mxI (σ.1 8 1) (((aG (gr 9 3) x2 σ))))) 0 ((σ.1 8 0) + 1))) 8 (upd (upd (upd (σ.1 8) 1 (mxI (σ.1 8 1) (((aG (gr 9 3) x2 σ))))) 0 ((σ.1 8 0) + 1)) 2 ((σ.1 8 2) + (x2 - (((aG (gr 9 2) x2 (sA σ 8 (upd (σ.1 8) 1 (mxI (σ.1 8 1) (((aG (gr 9 3) x2 σ))))))))))))) 8 (upd (upd (upd (upd (σ.1 8) 1 (mxI (σ.1 8 1) (((aG (gr 9 3) x2 σ))))) 0 ((σ.1 8 0) + 1)) 2 ((σ.1 8 2) + (x2 - (((aG (gr 9 2) x2 (sA σ 8 (upd (σ.1 8) 1 (mxI (σ.1 8 1) (((aG (gr 9 3) x2 σ)))))))))))) 4 (mxI (σ.1 8 4) (x2 - (((aG (gr 9 2) x2 (sA σ 8 (upd (σ.1 8) 1 (mxI (σ.1 8 1) (((aG (gr 9 3) x2 σ))))))))))))))) + 1) (sA (sA (sA (sA σ 8 (upd (σ.1 8) 1 (mxI (σ.1 8 1) (((aG (gr 9 3) x2 σ)))))) 8 (upd (upd (σ.1 8) 1 (mxI (σ.1 8 1) (((aG (gr 9 3) x2 σ))))) 0 ((σ.1 8 0) + 1))) 8 (upd (upd (upd (σ.1 8) 1 (mxI (σ.1 8 1) (((aG (gr 9 3) x2 σ))))) 0 ((σ.1 8 0) + 1)) 2 ((σ.1 8 2) + (x2 - (((aG (gr 9 2) x2 (sA σ 8 (upd (σ.1 8) 1 (mxI (σ.1 8 1) (((aG (gr 9 3) x2 σ))))))))))))) 8 (upd (upd (upd (upd (σ.1 8) 1 (mxI (σ.1 8 1) (((aG (gr 9 3) x2 σ))))) 0 ((σ.1 8 0) + 1)) 2 ((σ.1 8 2) + (x2 - (((aG (gr 9 2) x2 (sA σ 8 (upd (σ.1 8) 1 (mxI (σ.1 8 1) (((aG (gr 9 3) x2 σ)))))))))))) 4 (mxI (σ.1 8 4) (x2 - (((aG (gr 9 2) x2 (sA σ 8 (upd (σ.1 8) 1 (mxI (σ.1 8 1) (((aG (gr 9 3) x2 σ)))))))))))))))) - 1) (aP 13 (((aG (gr 9 2) x2 (sA σ 8 (upd (σ.1 8) 1 (mxI (σ.1 8 1) (((aG (gr 9 3) x2 σ))))))))) (((aG 13 (((aG (gr 9 2) x2 (sA σ 8 (upd (σ.1 8) 1 (mxI (σ.1 8 1) (((aG (gr 9 3) x2 σ))))))))) (sA (sA (sA (sA σ 8 (upd (σ.1 8) 1 (mxI (σ.1 8 1) (((aG (gr 9 3) x2 σ)))))) 8 (upd (upd (σ.1 8) 1 (mxI (σ.1 8 1) (((aG (gr 9 3) x2 σ))))) 0 ((σ.1 8 0) + 1))) 8 (upd (upd (upd (σ.1 8) 1 (mxI (σ.1 8 1) (((aG (gr 9 3) x2 σ))))) 0 ((σ.1 8 0) + 1)) 2 ((σ.1 8 2) + (x2 - (((aG (gr 9 2) x2 (sA σ 8 (upd (σ.1 8) 1 (mxI (σ.1 8 1) (((aG (gr 9 3) x2 σ))))))))))))) 8 (upd (upd (upd (upd (σ.1 8) 1 (mxI (σ.1 8 1) (((aG (gr 9 3) x2 σ))))) 0 ((σ.1 8 0) + 1)) 2 ((σ.1 8 2) + (x2 - (((aG (gr 9 2) x2 (sA σ 8 (upd (σ.1 8) 1 (mxI (σ.1 8 1) (((aG (gr 9 3) x2 σ)))))))))))) 4 (mxI (σ.1 8 4) (x2 - (((aG (gr 9 2) x2 (sA σ 8 (upd (σ.1 8) 1 (mxI (σ.1 8 1) (((aG (gr 9 3) x2 σ))))))))))))))) + 1) (sA (sA (sA (sA σ 8 (upd (σ.1 8) 1 (mxI (σ.1 8 1) (((aG (gr 9 3) x2 σ)))))) 8 (upd (upd (σ.1 8) 1 (mxI (σ.1 8 1) (((aG (gr 9 3) x2 σ))))) 0 ((σ.1 8 0) + 1))) 8 (upd (upd (upd (σ.1 8) 1 (mxI (σ.1 8 1) (((aG (gr 9 3) x2 σ))))) 0 ((σ.1 8 0) + 1)) 2 ((σ.1 8 2) + (x2 - (((aG (gr 9 2) x2 (sA σ 8 (upd (σ.1 8) 1 (mxI (σ.1 8 1) (((aG (gr 9 3) x2 σ))))))))))))) 8 (upd (upd (upd (upd (σ.1 8) 1 (mxI (σ.1 8 1) (((aG (gr 9 3) x2 σ))))) 0 ((σ.1 8 0) + 1)) 2 ((σ.1 8 2) + (x2 - (((aG (gr 9 2) x2 (sA σ 8 (upd (σ.1 8) 1 (mxI (σ.1 8 1) (((aG (gr 9 3) x2 σ)))))))))))) 4 (mxI (σ.1 8 4) (x2 - (((aG (gr 9 2) x2 (sA σ 8 (upd (σ.1 8) 1 (mxI (σ.1 8 1) (((aG (gr 9 3) x2 σ))))))))))))))) Q)
    : Run MX4_lookAtCells (d + 2) 26 [some (.ref 8), some (.int x1), some (.int x2), none] [] σ Q := by
  refine (go_iload_n 2 eX4_lookAtCells_26 rfl rfl).run ?_
  refine (go_iload_n 1 eX4_lookAtCells_27 rfl rfl).run ?_
  refine (bi_ge 143 eX4_lookAtCells_28 rfl).run (fun h1 => ?_) (fun h1 => ?_)
  · exact Run.ret (v := none) (k1 h1) ⟨rfl, eX4_lookAtCells_143⟩ rfl
  · refine (go_aload_n 0 eX4_lookAtCells_31 rfl rfl).run ?_
    refine (go_aload_n 0 eX4_lookAtCells_32 rfl rfl).run ?_
    refine (go_geti flX4_26 rf_4_1 kd_8 eX4_lookAtCells_33).run ?_
    refine (go_aload_n 0 eX4_lookAtCells_36 rfl rfl).run ?_
    refine (go_getr flX4_12 rf_4_5 kd_8 gr_8_5 eX4_lookAtCells_37).run ?_
    refine (go_iload_n 2 eX4_lookAtCells_40 rfl rfl).run ?_
    refine Run.callV1 (d := (d + 1)) (As := [.int x2]) (r := .int (((aG (gr 9 3) x2 σ)))) mX8_loadOf lkX4_63 kd_9 (by decide) rfl rfl rfl rfl rfl (Nat.le_of_ble_eq_true rfl) eX4_lookAtCells_41 (qX8_loadOf d 9 x2 σ kd_9 ) ?_
    refine (go_maxN mm_ok lkX4_66 rfl (Nat.le_of_ble_eq_true rfl) (by omega) eX4_lookAtCells_44).run ?_
    refine (go_puti flX4_26 rf_4_1 rfl pf_4_1 rfl rfl kd_8 eX4_lookAtCells_47).run ?_
    refine (go_aload_n 0 eX4_lookAtCells_50 rfl rfl).run ?_
    refine (go_getr flX4_12 rf_4_5 kd_8 gr_8_5 eX4_lookAtCells_51).run ?_
    refine (go_iload_n 2 eX4_lookAtCells_54 rfl rfl).run ?_
    refine Run.callV1 (d := (d + 1)) (As := [.int x2]) (r := .int (((aG (gr 9 2) x2 (sA σ 8 (upd (σ.1 8) 1 (mxI (σ.1 8 1) (((aG (gr 9 3) x2 σ)))))))))) mX8_takenBy lkX4_72 kd_9 (by decide) rfl rfl rfl rfl rfl (Nat.le_of_ble_eq_true rfl) eX4_lookAtCells_55 (qX8_takenBy d 9 x2 (sA σ 8 (upd (σ.1 8) 1 (mxI (σ.1 8 1) (((aG (gr 9 3) x2 σ)))))) kd_9 ) ?_
    refine (go_istore_n 3 (L' := [some (.ref 8), some (.int x1), some (.int x2), some (.int (((aG (gr 9 2) x2 (sA σ 8 (upd (σ.1 8) 1 (mxI (σ.1 8 1) (((aG (gr 9 3) x2 σ))))))))))]) eX4_lookAtCells_58 rfl (Nat.le_of_ble_eq_true rfl) rfl).run ?_
    refine (go_iload_n 3 eX4_lookAtCells_59 rfl rfl).run ?_
    refine (go_bipush (v := -4) eX4_lookAtCells_60 rfl).run ?_
    refine (bi_eq 137 eX4_lookAtCells_62 rfl).run (fun h2 => ?_) (fun h2 => ?_)
    · refine (go_iinc 2 (v := (x2 + 1)) (L' := [some (.ref 8), some (.int x1), some (.int (x2 + 1)), some (.int (((aG (gr 9 2) x2 (sA σ 8 (upd (σ.1 8) 1 (mxI (σ.1 8 1) (((aG (gr 9 3) x2 σ))))))))))]) eX4_lookAtCells_137 rfl rfl (Nat.le_of_ble_eq_true rfl) rfl).run ?_
      refine (go_goto 26 eX4_lookAtCells_140 rfl).run ?_
      refine (go_sub (L' := [some (.ref 8), some (.int x1), some (.int (x2 + 1)), none]) (lsub_keep (lsub_keep (lsub_keep (lsub_drop lsub_nil))))).run ?_
      exact (k2 h1 h2)
    · refine (go_aload_n 0 eX4_lookAtCells_65 rfl rfl).run ?_
      refine (go_dup eX4_lookAtCells_66 rfl).run ?_
      refine (go_geti flX4_22 rf_4_0 kd_8 eX4_lookAtCells_67).run ?_
      refine (go_iconst (v := 1) eX4_lookAtCells_70 rfl).run ?_
      refine (go_iadd eX4_lookAtCells_71).run ?_
      refine (go_puti flX4_22 rf_4_0 rfl pf_4_0 rfl rfl kd_8 eX4_lookAtCells_72).run ?_
      refine (go_aload_n 0 eX4_lookAtCells_75 rfl rfl).run ?_
      refine (go_dup eX4_lookAtCells_76 rfl).run ?_
      refine (go_geti flX4_29 rf_4_2 kd_8 eX4_lookAtCells_77).run ?_
      refine (go_iload_n 2 eX4_lookAtCells_80 rfl rfl).run ?_
      refine (go_iload_n 3 eX4_lookAtCells_81 rfl rfl).run ?_
      refine (go_isub eX4_lookAtCells_82).run ?_
      refine (go_iadd eX4_lookAtCells_83).run ?_
      refine (go_puti flX4_29 rf_4_2 rfl pf_4_2 rfl rfl kd_8 eX4_lookAtCells_84).run ?_
      refine (go_aload_n 0 eX4_lookAtCells_87 rfl rfl).run ?_
      refine (go_aload_n 0 eX4_lookAtCells_88 rfl rfl).run ?_
      refine (go_geti flX4_35 rf_4_4 kd_8 eX4_lookAtCells_89).run ?_
      refine (go_iload_n 2 eX4_lookAtCells_92 rfl rfl).run ?_
      refine (go_iload_n 3 eX4_lookAtCells_93 rfl rfl).run ?_
      refine (go_isub eX4_lookAtCells_94).run ?_
      refine (go_maxN mm_ok lkX4_66 rfl (Nat.le_of_ble_eq_true rfl) (by omega) eX4_lookAtCells_95).run ?_
      refine (go_puti flX4_35 rf_4_4 rfl pf_4_4 rfl rfl kd_8 eX4_lookAtCells_98).run ?_
      refine (go_aload_n 0 eX4_lookAtCells_101 rfl rfl).run ?_
      refine (go_getr flX4_18 rf_4_6 kd_8 gr_8_6 eX4_lookAtCells_102).run ?_
      refine (go_iload_n 3 eX4_lookAtCells_105 rfl rfl).run ?_
      refine (go_aload_n 0 eX4_lookAtCells_106 rfl rfl).run ?_
      refine (go_getr flX4_18 rf_4_6 kd_8 gr_8_6 eX4_lookAtCells_107).run ?_
      refine (go_iload_n 3 eX4_lookAtCells_110 rfl rfl).run ?_
      refine Run.callS1 (d := (d + 1)) (As := [.ref 13, .int (((aG (gr 9 2) x2 (sA σ 8 (upd (σ.1 8) 1 (mxI (σ.1 8 1) (((aG (gr 9 3) x2 σ)))))))))]) (r := .int ((aG 13 (((aG (gr 9 2) x2 (sA σ 8 (upd (σ.1 8) 1 (mxI (σ.1 8 1) (((aG (gr 9 3) x2 σ))))))))) (sA (sA (sA (sA σ 8 (upd (σ.1 8) 1 (mxI (σ.1 8 1) (((aG (gr 9 3) x2 σ)))))) 8 (upd (upd (σ.1 8) 1 (mxI (σ.1 8 1) (((aG (gr 9 3) x2 σ))))) 0 ((σ.1 8 0) + 1))) 8 (upd (upd (upd (σ.1 8) 1 (mxI (σ.1 8 1) (((aG (gr 9 3) x2 σ))))) 0 ((σ.1 8 0) + 1)) 2 ((σ.1 8 2) + (x2 - (((aG (gr 9 2) x2 (sA σ 8 (upd (σ.1 8) 1 (mxI (σ.1 8 1) (((aG (gr 9 3) x2 σ))))))))))))) 8 (upd (upd (upd (upd (σ.1 8) 1 (mxI (σ.1 8 1) (((aG (gr 9 3) x2 σ))))) 0 ((σ.1 8 0) + 1)) 2 ((σ.1 8 2) + (x2 - (((aG (gr 9 2) x2 (sA σ 8 (upd (σ.1 8) 1 (mxI (σ.1 8 1) (((aG (gr 9 3) x2 σ)))))))))))) 4 (mxI (σ.1 8 4) (x2 - (((aG (gr 9 2) x2 (sA σ 8 (upd (σ.1 8) 1 (mxI (σ.1 8 1) (((aG (gr 9 3) x2 σ)))))))))))))))) mX10_at lkX4_75 rfl rfl rfl (Nat.le_of_ble_eq_true rfl) eX4_lookAtCells_111 (qX10_at (d + 1) 13 (((aG (gr 9 2) x2 (sA σ 8 (upd (σ.1 8) 1 (mxI (σ.1 8 1) (((aG (gr 9 3) x2 σ))))))))) (sA (sA (sA (sA σ 8 (upd (σ.1 8) 1 (mxI (σ.1 8 1) (((aG (gr 9 3) x2 σ)))))) 8 (upd (upd (σ.1 8) 1 (mxI (σ.1 8 1) (((aG (gr 9 3) x2 σ))))) 0 ((σ.1 8 0) + 1))) 8 (upd (upd (upd (σ.1 8) 1 (mxI (σ.1 8 1) (((aG (gr 9 3) x2 σ))))) 0 ((σ.1 8 0) + 1)) 2 ((σ.1 8 2) + (x2 - (((aG (gr 9 2) x2 (sA σ 8 (upd (σ.1 8) 1 (mxI (σ.1 8 1) (((aG (gr 9 3) x2 σ))))))))))))) 8 (upd (upd (upd (upd (σ.1 8) 1 (mxI (σ.1 8 1) (((aG (gr 9 3) x2 σ))))) 0 ((σ.1 8 0) + 1)) 2 ((σ.1 8 2) + (x2 - (((aG (gr 9 2) x2 (sA σ 8 (upd (σ.1 8) 1 (mxI (σ.1 8 1) (((aG (gr 9 3) x2 σ)))))))))))) 4 (mxI (σ.1 8 4) (x2 - (((aG (gr 9 2) x2 (sA σ 8 (upd (σ.1 8) 1 (mxI (σ.1 8 1) (((aG (gr 9 3) x2 σ))))))))))))) kd_13 ) ?_
      refine (go_iconst (v := 1) eX4_lookAtCells_114 rfl).run ?_
      refine (go_iadd eX4_lookAtCells_115).run ?_
      refine Run.callS0 (d := (d + 1)) (As := [.ref 13, .int (((aG (gr 9 2) x2 (sA σ 8 (upd (σ.1 8) 1 (mxI (σ.1 8 1) (((aG (gr 9 3) x2 σ))))))))), .int (((aG 13 (((aG (gr 9 2) x2 (sA σ 8 (upd (σ.1 8) 1 (mxI (σ.1 8 1) (((aG (gr 9 3) x2 σ))))))))) (sA (sA (sA (sA σ 8 (upd (σ.1 8) 1 (mxI (σ.1 8 1) (((aG (gr 9 3) x2 σ)))))) 8 (upd (upd (σ.1 8) 1 (mxI (σ.1 8 1) (((aG (gr 9 3) x2 σ))))) 0 ((σ.1 8 0) + 1))) 8 (upd (upd (upd (σ.1 8) 1 (mxI (σ.1 8 1) (((aG (gr 9 3) x2 σ))))) 0 ((σ.1 8 0) + 1)) 2 ((σ.1 8 2) + (x2 - (((aG (gr 9 2) x2 (sA σ 8 (upd (σ.1 8) 1 (mxI (σ.1 8 1) (((aG (gr 9 3) x2 σ))))))))))))) 8 (upd (upd (upd (upd (σ.1 8) 1 (mxI (σ.1 8 1) (((aG (gr 9 3) x2 σ))))) 0 ((σ.1 8 0) + 1)) 2 ((σ.1 8 2) + (x2 - (((aG (gr 9 2) x2 (sA σ 8 (upd (σ.1 8) 1 (mxI (σ.1 8 1) (((aG (gr 9 3) x2 σ)))))))))))) 4 (mxI (σ.1 8 4) (x2 - (((aG (gr 9 2) x2 (sA σ 8 (upd (σ.1 8) 1 (mxI (σ.1 8 1) (((aG (gr 9 3) x2 σ))))))))))))))) + 1)]) mX10_put lkX4_79 rfl rfl rfl (Nat.le_of_ble_eq_true rfl) eX4_lookAtCells_116 (qX10_put (d + 1) 13 (((aG (gr 9 2) x2 (sA σ 8 (upd (σ.1 8) 1 (mxI (σ.1 8 1) (((aG (gr 9 3) x2 σ))))))))) (((aG 13 (((aG (gr 9 2) x2 (sA σ 8 (upd (σ.1 8) 1 (mxI (σ.1 8 1) (((aG (gr 9 3) x2 σ))))))))) (sA (sA (sA (sA σ 8 (upd (σ.1 8) 1 (mxI (σ.1 8 1) (((aG (gr 9 3) x2 σ)))))) 8 (upd (upd (σ.1 8) 1 (mxI (σ.1 8 1) (((aG (gr 9 3) x2 σ))))) 0 ((σ.1 8 0) + 1))) 8 (upd (upd (upd (σ.1 8) 1 (mxI (σ.1 8 1) (((aG (gr 9 3) x2 σ))))) 0 ((σ.1 8 0) + 1)) 2 ((σ.1 8 2) + (x2 - (((aG (gr 9 2) x2 (sA σ 8 (upd (σ.1 8) 1 (mxI (σ.1 8 1) (((aG (gr 9 3) x2 σ))))))))))))) 8 (upd (upd (upd (upd (σ.1 8) 1 (mxI (σ.1 8 1) (((aG (gr 9 3) x2 σ))))) 0 ((σ.1 8 0) + 1)) 2 ((σ.1 8 2) + (x2 - (((aG (gr 9 2) x2 (sA σ 8 (upd (σ.1 8) 1 (mxI (σ.1 8 1) (((aG (gr 9 3) x2 σ)))))))))))) 4 (mxI (σ.1 8 4) (x2 - (((aG (gr 9 2) x2 (sA σ 8 (upd (σ.1 8) 1 (mxI (σ.1 8 1) (((aG (gr 9 3) x2 σ))))))))))))))) + 1) (sA (sA (sA (sA σ 8 (upd (σ.1 8) 1 (mxI (σ.1 8 1) (((aG (gr 9 3) x2 σ)))))) 8 (upd (upd (σ.1 8) 1 (mxI (σ.1 8 1) (((aG (gr 9 3) x2 σ))))) 0 ((σ.1 8 0) + 1))) 8 (upd (upd (upd (σ.1 8) 1 (mxI (σ.1 8 1) (((aG (gr 9 3) x2 σ))))) 0 ((σ.1 8 0) + 1)) 2 ((σ.1 8 2) + (x2 - (((aG (gr 9 2) x2 (sA σ 8 (upd (σ.1 8) 1 (mxI (σ.1 8 1) (((aG (gr 9 3) x2 σ))))))))))))) 8 (upd (upd (upd (upd (σ.1 8) 1 (mxI (σ.1 8 1) (((aG (gr 9 3) x2 σ))))) 0 ((σ.1 8 0) + 1)) 2 ((σ.1 8 2) + (x2 - (((aG (gr 9 2) x2 (sA σ 8 (upd (σ.1 8) 1 (mxI (σ.1 8 1) (((aG (gr 9 3) x2 σ)))))))))))) 4 (mxI (σ.1 8 4) (x2 - (((aG (gr 9 2) x2 (sA σ 8 (upd (σ.1 8) 1 (mxI (σ.1 8 1) (((aG (gr 9 3) x2 σ))))))))))))) kd_13 ) ?_
      refine (go_aload_n 0 eX4_lookAtCells_119 rfl rfl).run ?_
      refine (go_getr flX4_18 rf_4_6 kd_8 gr_8_6 eX4_lookAtCells_120).run ?_
      refine (go_iload_n 2 eX4_lookAtCells_123 rfl rfl).run ?_
      refine (go_aload_n 0 eX4_lookAtCells_124 rfl rfl).run ?_
      refine (go_getr flX4_18 rf_4_6 kd_8 gr_8_6 eX4_lookAtCells_125).run ?_
      refine (go_iload_n 2 eX4_lookAtCells_128 rfl rfl).run ?_
      refine Run.callS1 (d := (d + 1)) (As := [.ref 13, .int x2]) (r := .int ((aG 13 x2 (aP 13 (((aG (gr 9 2) x2 (sA σ 8 (upd (σ.1 8) 1 (mxI (σ.1 8 1) (((aG (gr 9 3) x2 σ))))))))) (((aG 13 (((aG (gr 9 2) x2 (sA σ 8 (upd (σ.1 8) 1 (mxI (σ.1 8 1) (((aG (gr 9 3) x2 σ))))))))) (sA (sA (sA (sA σ 8 (upd (σ.1 8) 1 (mxI (σ.1 8 1) (((aG (gr 9 3) x2 σ)))))) 8 (upd (upd (σ.1 8) 1 (mxI (σ.1 8 1) (((aG (gr 9 3) x2 σ))))) 0 ((σ.1 8 0) + 1))) 8 (upd (upd (upd (σ.1 8) 1 (mxI (σ.1 8 1) (((aG (gr 9 3) x2 σ))))) 0 ((σ.1 8 0) + 1)) 2 ((σ.1 8 2) + (x2 - (((aG (gr 9 2) x2 (sA σ 8 (upd (σ.1 8) 1 (mxI (σ.1 8 1) (((aG (gr 9 3) x2 σ))))))))))))) 8 (upd (upd (upd (upd (σ.1 8) 1 (mxI (σ.1 8 1) (((aG (gr 9 3) x2 σ))))) 0 ((σ.1 8 0) + 1)) 2 ((σ.1 8 2) + (x2 - (((aG (gr 9 2) x2 (sA σ 8 (upd (σ.1 8) 1 (mxI (σ.1 8 1) (((aG (gr 9 3) x2 σ)))))))))))) 4 (mxI (σ.1 8 4) (x2 - (((aG (gr 9 2) x2 (sA σ 8 (upd (σ.1 8) 1 (mxI (σ.1 8 1) (((aG (gr 9 3) x2 σ))))))))))))))) + 1) (sA (sA (sA (sA σ 8 (upd (σ.1 8) 1 (mxI (σ.1 8 1) (((aG (gr 9 3) x2 σ)))))) 8 (upd (upd (σ.1 8) 1 (mxI (σ.1 8 1) (((aG (gr 9 3) x2 σ))))) 0 ((σ.1 8 0) + 1))) 8 (upd (upd (upd (σ.1 8) 1 (mxI (σ.1 8 1) (((aG (gr 9 3) x2 σ))))) 0 ((σ.1 8 0) + 1)) 2 ((σ.1 8 2) + (x2 - (((aG (gr 9 2) x2 (sA σ 8 (upd (σ.1 8) 1 (mxI (σ.1 8 1) (((aG (gr 9 3) x2 σ))))))))))))) 8 (upd (upd (upd (upd (σ.1 8) 1 (mxI (σ.1 8 1) (((aG (gr 9 3) x2 σ))))) 0 ((σ.1 8 0) + 1)) 2 ((σ.1 8 2) + (x2 - (((aG (gr 9 2) x2 (sA σ 8 (upd (σ.1 8) 1 (mxI (σ.1 8 1) (((aG (gr 9 3) x2 σ)))))))))))) 4 (mxI (σ.1 8 4) (x2 - (((aG (gr 9 2) x2 (sA σ 8 (upd (σ.1 8) 1 (mxI (σ.1 8 1) (((aG (gr 9 3) x2 σ))))))))))))))))) mX10_at lkX4_75 rfl rfl rfl (Nat.le_of_ble_eq_true rfl) eX4_lookAtCells_129 (qX10_at (d + 1) 13 x2 (aP 13 (((aG (gr 9 2) x2 (sA σ 8 (upd (σ.1 8) 1 (mxI (σ.1 8 1) (((aG (gr 9 3) x2 σ))))))))) (((aG 13 (((aG (gr 9 2) x2 (sA σ 8 (upd (σ.1 8) 1 (mxI (σ.1 8 1) (((aG (gr 9 3) x2 σ))))))))) (sA (sA (sA (sA σ 8 (upd (σ.1 8) 1 (mxI (σ.1 8 1) (((aG (gr 9 3) x2 σ)))))) 8 (upd (upd (σ.1 8) 1 (mxI (σ.1 8 1) (((aG (gr 9 3) x2 σ))))) 0 ((σ.1 8 0) + 1))) 8 (upd (upd (upd (σ.1 8) 1 (mxI (σ.1 8 1) (((aG (gr 9 3) x2 σ))))) 0 ((σ.1 8 0) + 1)) 2 ((σ.1 8 2) + (x2 - (((aG (gr 9 2) x2 (sA σ 8 (upd (σ.1 8) 1 (mxI (σ.1 8 1) (((aG (gr 9 3) x2 σ))))))))))))) 8 (upd (upd (upd (upd (σ.1 8) 1 (mxI (σ.1 8 1) (((aG (gr 9 3) x2 σ))))) 0 ((σ.1 8 0) + 1)) 2 ((σ.1 8 2) + (x2 - (((aG (gr 9 2) x2 (sA σ 8 (upd (σ.1 8) 1 (mxI (σ.1 8 1) (((aG (gr 9 3) x2 σ)))))))))))) 4 (mxI (σ.1 8 4) (x2 - (((aG (gr 9 2) x2 (sA σ 8 (upd (σ.1 8) 1 (mxI (σ.1 8 1) (((aG (gr 9 3) x2 σ))))))))))))))) + 1) (sA (sA (sA (sA σ 8 (upd (σ.1 8) 1 (mxI (σ.1 8 1) (((aG (gr 9 3) x2 σ)))))) 8 (upd (upd (σ.1 8) 1 (mxI (σ.1 8 1) (((aG (gr 9 3) x2 σ))))) 0 ((σ.1 8 0) + 1))) 8 (upd (upd (upd (σ.1 8) 1 (mxI (σ.1 8 1) (((aG (gr 9 3) x2 σ))))) 0 ((σ.1 8 0) + 1)) 2 ((σ.1 8 2) + (x2 - (((aG (gr 9 2) x2 (sA σ 8 (upd (σ.1 8) 1 (mxI (σ.1 8 1) (((aG (gr 9 3) x2 σ))))))))))))) 8 (upd (upd (upd (upd (σ.1 8) 1 (mxI (σ.1 8 1) (((aG (gr 9 3) x2 σ))))) 0 ((σ.1 8 0) + 1)) 2 ((σ.1 8 2) + (x2 - (((aG (gr 9 2) x2 (sA σ 8 (upd (σ.1 8) 1 (mxI (σ.1 8 1) (((aG (gr 9 3) x2 σ)))))))))))) 4 (mxI (σ.1 8 4) (x2 - (((aG (gr 9 2) x2 (sA σ 8 (upd (σ.1 8) 1 (mxI (σ.1 8 1) (((aG (gr 9 3) x2 σ)))))))))))))) kd_13 ) ?_
      refine (go_iconst (v := 1) eX4_lookAtCells_132 rfl).run ?_
      refine (go_isub eX4_lookAtCells_133).run ?_
      refine Run.callS0 (d := (d + 1)) (As := [.ref 13, .int x2, .int (((aG 13 x2 (aP 13 (((aG (gr 9 2) x2 (sA σ 8 (upd (σ.1 8) 1 (mxI (σ.1 8 1) (((aG (gr 9 3) x2 σ))))))))) (((aG 13 (((aG (gr 9 2) x2 (sA σ 8 (upd (σ.1 8) 1 (mxI (σ.1 8 1) (((aG (gr 9 3) x2 σ))))))))) (sA (sA (sA (sA σ 8 (upd (σ.1 8) 1 (mxI (σ.1 8 1) (((aG (gr 9 3) x2 σ)))))) 8 (upd (upd (σ.1 8) 1 (mxI (σ.1 8 1) (((aG (gr 9 3) x2 σ))))) 0 ((σ.1 8 0) + 1))) 8 (upd (upd (upd (σ.1 8) 1 (mxI (σ.1 8 1) (((aG (gr 9 3) x2 σ))))) 0 ((σ.1 8 0) + 1)) 2 ((σ.1 8 2) + (x2 - (((aG (gr 9 2) x2 (sA σ 8 (upd (σ.1 8) 1 (mxI (σ.1 8 1) (((aG (gr 9 3) x2 σ))))))))))))) 8 (upd (upd (upd (upd (σ.1 8) 1 (mxI (σ.1 8 1) (((aG (gr 9 3) x2 σ))))) 0 ((σ.1 8 0) + 1)) 2 ((σ.1 8 2) + (x2 - (((aG (gr 9 2) x2 (sA σ 8 (upd (σ.1 8) 1 (mxI (σ.1 8 1) (((aG (gr 9 3) x2 σ)))))))))))) 4 (mxI (σ.1 8 4) (x2 - (((aG (gr 9 2) x2 (sA σ 8 (upd (σ.1 8) 1 (mxI (σ.1 8 1) (((aG (gr 9 3) x2 σ))))))))))))))) + 1) (sA (sA (sA (sA σ 8 (upd (σ.1 8) 1 (mxI (σ.1 8 1) (((aG (gr 9 3) x2 σ)))))) 8 (upd (upd (σ.1 8) 1 (mxI (σ.1 8 1) (((aG (gr 9 3) x2 σ))))) 0 ((σ.1 8 0) + 1))) 8 (upd (upd (upd (σ.1 8) 1 (mxI (σ.1 8 1) (((aG (gr 9 3) x2 σ))))) 0 ((σ.1 8 0) + 1)) 2 ((σ.1 8 2) + (x2 - (((aG (gr 9 2) x2 (sA σ 8 (upd (σ.1 8) 1 (mxI (σ.1 8 1) (((aG (gr 9 3) x2 σ))))))))))))) 8 (upd (upd (upd (upd (σ.1 8) 1 (mxI (σ.1 8 1) (((aG (gr 9 3) x2 σ))))) 0 ((σ.1 8 0) + 1)) 2 ((σ.1 8 2) + (x2 - (((aG (gr 9 2) x2 (sA σ 8 (upd (σ.1 8) 1 (mxI (σ.1 8 1) (((aG (gr 9 3) x2 σ)))))))))))) 4 (mxI (σ.1 8 4) (x2 - (((aG (gr 9 2) x2 (sA σ 8 (upd (σ.1 8) 1 (mxI (σ.1 8 1) (((aG (gr 9 3) x2 σ)))))))))))))))) - 1)]) mX10_put lkX4_79 rfl rfl rfl (Nat.le_of_ble_eq_true rfl) eX4_lookAtCells_134 (qX10_put (d + 1) 13 x2 (((aG 13 x2 (aP 13 (((aG (gr 9 2) x2 (sA σ 8 (upd (σ.1 8) 1 (mxI (σ.1 8 1) (((aG (gr 9 3) x2 σ))))))))) (((aG 13 (((aG (gr 9 2) x2 (sA σ 8 (upd (σ.1 8) 1 (mxI (σ.1 8 1) (((aG (gr 9 3) x2 σ))))))))) (sA (sA (sA (sA σ 8 (upd (σ.1 8) 1 (mxI (σ.1 8 1) (((aG (gr 9 3) x2 σ)))))) 8 (upd (upd (σ.1 8) 1 (mxI (σ.1 8 1) (((aG (gr 9 3) x2 σ))))) 0 ((σ.1 8 0) + 1))) 8 (upd (upd (upd (σ.1 8) 1 (mxI (σ.1 8 1) (((aG (gr 9 3) x2 σ))))) 0 ((σ.1 8 0) + 1)) 2 ((σ.1 8 2) + (x2 - (((aG (gr 9 2) x2 (sA σ 8 (upd (σ.1 8) 1 (mxI (σ.1 8 1) (((aG (gr 9 3) x2 σ))))))))))))) 8 (upd (upd (upd (upd (σ.1 8) 1 (mxI (σ.1 8 1) (((aG (gr 9 3) x2 σ))))) 0 ((σ.1 8 0) + 1)) 2 ((σ.1 8 2) + (x2 - (((aG (gr 9 2) x2 (sA σ 8 (upd (σ.1 8) 1 (mxI (σ.1 8 1) (((aG (gr 9 3) x2 σ)))))))))))) 4 (mxI (σ.1 8 4) (x2 - (((aG (gr 9 2) x2 (sA σ 8 (upd (σ.1 8) 1 (mxI (σ.1 8 1) (((aG (gr 9 3) x2 σ))))))))))))))) + 1) (sA (sA (sA (sA σ 8 (upd (σ.1 8) 1 (mxI (σ.1 8 1) (((aG (gr 9 3) x2 σ)))))) 8 (upd (upd (σ.1 8) 1 (mxI (σ.1 8 1) (((aG (gr 9 3) x2 σ))))) 0 ((σ.1 8 0) + 1))) 8 (upd (upd (upd (σ.1 8) 1 (mxI (σ.1 8 1) (((aG (gr 9 3) x2 σ))))) 0 ((σ.1 8 0) + 1)) 2 ((σ.1 8 2) + (x2 - (((aG (gr 9 2) x2 (sA σ 8 (upd (σ.1 8) 1 (mxI (σ.1 8 1) (((aG (gr 9 3) x2 σ))))))))))))) 8 (upd (upd (upd (upd (σ.1 8) 1 (mxI (σ.1 8 1) (((aG (gr 9 3) x2 σ))))) 0 ((σ.1 8 0) + 1)) 2 ((σ.1 8 2) + (x2 - (((aG (gr 9 2) x2 (sA σ 8 (upd (σ.1 8) 1 (mxI (σ.1 8 1) (((aG (gr 9 3) x2 σ)))))))))))) 4 (mxI (σ.1 8 4) (x2 - (((aG (gr 9 2) x2 (sA σ 8 (upd (σ.1 8) 1 (mxI (σ.1 8 1) (((aG (gr 9 3) x2 σ)))))))))))))))) - 1) (aP 13 (((aG (gr 9 2) x2 (sA σ 8 (upd (σ.1 8) 1 (mxI (σ.1 8 1) (((aG (gr 9 3) x2 σ))))))))) (((aG 13 (((aG (gr 9 2) x2 (sA σ 8 (upd (σ.1 8) 1 (mxI (σ.1 8 1) (((aG (gr 9 3) x2 σ))))))))) (sA (sA (sA (sA σ 8 (upd (σ.1 8) 1 (mxI (σ.1 8 1) (((aG (gr 9 3) x2 σ)))))) 8 (upd (upd (σ.1 8) 1 (mxI (σ.1 8 1) (((aG (gr 9 3) x2 σ))))) 0 ((σ.1 8 0) + 1))) 8 (upd (upd (upd (σ.1 8) 1 (mxI (σ.1 8 1) (((aG (gr 9 3) x2 σ))))) 0 ((σ.1 8 0) + 1)) 2 ((σ.1 8 2) + (x2 - (((aG (gr 9 2) x2 (sA σ 8 (upd (σ.1 8) 1 (mxI (σ.1 8 1) (((aG (gr 9 3) x2 σ))))))))))))) 8 (upd (upd (upd (upd (σ.1 8) 1 (mxI (σ.1 8 1) (((aG (gr 9 3) x2 σ))))) 0 ((σ.1 8 0) + 1)) 2 ((σ.1 8 2) + (x2 - (((aG (gr 9 2) x2 (sA σ 8 (upd (σ.1 8) 1 (mxI (σ.1 8 1) (((aG (gr 9 3) x2 σ)))))))))))) 4 (mxI (σ.1 8 4) (x2 - (((aG (gr 9 2) x2 (sA σ 8 (upd (σ.1 8) 1 (mxI (σ.1 8 1) (((aG (gr 9 3) x2 σ))))))))))))))) + 1) (sA (sA (sA (sA σ 8 (upd (σ.1 8) 1 (mxI (σ.1 8 1) (((aG (gr 9 3) x2 σ)))))) 8 (upd (upd (σ.1 8) 1 (mxI (σ.1 8 1) (((aG (gr 9 3) x2 σ))))) 0 ((σ.1 8 0) + 1))) 8 (upd (upd (upd (σ.1 8) 1 (mxI (σ.1 8 1) (((aG (gr 9 3) x2 σ))))) 0 ((σ.1 8 0) + 1)) 2 ((σ.1 8 2) + (x2 - (((aG (gr 9 2) x2 (sA σ 8 (upd (σ.1 8) 1 (mxI (σ.1 8 1) (((aG (gr 9 3) x2 σ))))))))))))) 8 (upd (upd (upd (upd (σ.1 8) 1 (mxI (σ.1 8 1) (((aG (gr 9 3) x2 σ))))) 0 ((σ.1 8 0) + 1)) 2 ((σ.1 8 2) + (x2 - (((aG (gr 9 2) x2 (sA σ 8 (upd (σ.1 8) 1 (mxI (σ.1 8 1) (((aG (gr 9 3) x2 σ)))))))))))) 4 (mxI (σ.1 8 4) (x2 - (((aG (gr 9 2) x2 (sA σ 8 (upd (σ.1 8) 1 (mxI (σ.1 8 1) (((aG (gr 9 3) x2 σ)))))))))))))) kd_13 ) ?_
      refine (go_iinc 2 (v := (x2 + 1)) (L' := [some (.ref 8), some (.int x1), some (.int (x2 + 1)), some (.int (((aG (gr 9 2) x2 (sA σ 8 (upd (σ.1 8) 1 (mxI (σ.1 8 1) (((aG (gr 9 3) x2 σ))))))))))]) eX4_lookAtCells_137 rfl rfl (Nat.le_of_ble_eq_true rfl) rfl).run ?_
      refine (go_goto 26 eX4_lookAtCells_140 rfl).run ?_
      refine (go_sub (L' := [some (.ref 8), some (.int x1), some (.int (x2 + 1)), none]) (lsub_keep (lsub_keep (lsub_keep (lsub_drop lsub_nil))))).run ?_
      exact (k3 h1 h2)

/-! CarryNets$Judge.lookAtTracks -/
theorem eX4_lookAtTracks_0 : decode MX4_lookAtTracks.2.1 0 = .ok (.iconst 0, 1) := by decide +kernel
theorem eX4_lookAtTracks_1 : decode MX4_lookAtTracks.2.1 1 = .ok (.istore_n 1, 1) := by decide +kernel
theorem eX4_lookAtTracks_2 : decode MX4_lookAtTracks.2.1 2 = .ok (.aload_n 0, 1) := by decide +kernel
theorem eX4_lookAtTracks_3 : decode MX4_lookAtTracks.2.1 3 = .ok (.getfield 18, 3) := by decide +kernel
theorem eX4_lookAtTracks_6 : decode MX4_lookAtTracks.2.1 6 = .ok (.astore_n 2, 1) := by decide +kernel
theorem eX4_lookAtTracks_7 : decode MX4_lookAtTracks.2.1 7 = .ok (.aload_n 2, 1) := by decide +kernel
theorem eX4_lookAtTracks_8 : decode MX4_lookAtTracks.2.1 8 = .ok (.arraylength, 1) := by decide +kernel
theorem eX4_lookAtTracks_9 : decode MX4_lookAtTracks.2.1 9 = .ok (.istore_n 3, 1) := by decide +kernel
theorem eX4_lookAtTracks_10 : decode MX4_lookAtTracks.2.1 10 = .ok (.iconst 0, 1) := by decide +kernel
theorem eX4_lookAtTracks_11 : decode MX4_lookAtTracks.2.1 11 = .ok (.istore 4, 2) := by decide +kernel
theorem eX4_lookAtTracks_13 : decode MX4_lookAtTracks.2.1 13 = .ok (.iload 4, 2) := by decide +kernel
theorem eX4_lookAtTracks_15 : decode MX4_lookAtTracks.2.1 15 = .ok (.iload_n 3, 1) := by decide +kernel
theorem eX4_lookAtTracks_16 : decode MX4_lookAtTracks.2.1 16 = .ok (.if_icmp .ge 32, 3) := by decide +kernel
theorem eX4_lookAtTracks_19 : decode MX4_lookAtTracks.2.1 19 = .ok (.aload_n 2, 1) := by decide +kernel
theorem eX4_lookAtTracks_20 : decode MX4_lookAtTracks.2.1 20 = .ok (.iload 4, 2) := by decide +kernel
theorem eX4_lookAtTracks_22 : decode MX4_lookAtTracks.2.1 22 = .ok (.iaload, 1) := by decide +kernel
theorem eX4_lookAtTracks_23 : decode MX4_lookAtTracks.2.1 23 = .ok (.istore 5, 2) := by decide +kernel
theorem eX4_lookAtTracks_25 : decode MX4_lookAtTracks.2.1 25 = .ok (.iload_n 1, 1) := by decide +kernel
theorem eX4_lookAtTracks_26 : decode MX4_lookAtTracks.2.1 26 = .ok (.iload 5, 2) := by decide +kernel
theorem eX4_lookAtTracks_28 : decode MX4_lookAtTracks.2.1 28 = .ok (.iadd, 1) := by decide +kernel
theorem eX4_lookAtTracks_29 : decode MX4_lookAtTracks.2.1 29 = .ok (.istore_n 1, 1) := by decide +kernel
theorem eX4_lookAtTracks_30 : decode MX4_lookAtTracks.2.1 30 = .ok (.aload_n 0, 1) := by decide +kernel
theorem eX4_lookAtTracks_31 : decode MX4_lookAtTracks.2.1 31 = .ok (.aload_n 0, 1) := by decide +kernel
theorem eX4_lookAtTracks_32 : decode MX4_lookAtTracks.2.1 32 = .ok (.getfield 32, 3) := by decide +kernel
theorem eX4_lookAtTracks_35 : decode MX4_lookAtTracks.2.1 35 = .ok (.iload_n 1, 1) := by decide +kernel
theorem eX4_lookAtTracks_36 : decode MX4_lookAtTracks.2.1 36 = .ok (.invokestatic 66, 3) := by decide +kernel
theorem eX4_lookAtTracks_39 : decode MX4_lookAtTracks.2.1 39 = .ok (.putfield 32, 3) := by decide +kernel
theorem eX4_lookAtTracks_42 : decode MX4_lookAtTracks.2.1 42 = .ok (.iinc 4 1, 3) := by decide +kernel
theorem eX4_lookAtTracks_45 : decode MX4_lookAtTracks.2.1 45 = .ok (.goto (-32), 3) := by decide +kernel
theorem eX4_lookAtTracks_48 : decode MX4_lookAtTracks.2.1 48 = .ok (.return_, 1) := by decide +kernel
set_option maxRecDepth 20000 in
theorem bX4_lookAtTracks_0 {d : Nat} {Q : Option Value → St → Prop} (σ : St) 
    (k1 : Run MX4_lookAtTracks (d + 1) 13 [some (.ref 8), some (.int 0), some (.ref 13), some (.int 32), some (.int 0), none] [] σ Q)
    : Run MX4_lookAtTracks (d + 1) 0 [some (.ref 8), none, none, none, none, none] [] σ Q := by
  refine (go_iconst (v := 0) eX4_lookAtTracks_0 rfl).run ?_
  refine (go_istore_n 1 (L' := [some (.ref 8), some (.int 0), none, none, none, none]) eX4_lookAtTracks_1 rfl (Nat.le_of_ble_eq_true rfl) rfl).run ?_
  refine (go_aload_n 0 eX4_lookAtTracks_2 rfl rfl).run ?_
  refine (go_getr flX4_18 rf_4_6 kd_8 gr_8_6 eX4_lookAtTracks_3).run ?_
  refine (go_astore_n 2 (L' := [some (.ref 8), some (.int 0), some (.ref 13), none, none, none]) eX4_lookAtTracks_6 rfl (Nat.le_of_ble_eq_true rfl) rfl).run ?_
  refine (go_aload_n 2 eX4_lookAtTracks_7 rfl rfl).run ?_
  refine (go_alen100 (v := 32) kd_13 ln_13 rfl eX4_lookAtTracks_8).run ?_
  refine (go_istore_n 3 (L' := [some (.ref 8), some (.int 0), some (.ref 13), some (.int 32), none, none]) eX4_lookAtTracks_9 rfl (Nat.le_of_ble_eq_true rfl) rfl).run ?_
  refine (go_iconst (v := 0) eX4_lookAtTracks_10 rfl).run ?_
  refine (go_istore 4 (L' := [some (.ref 8), some (.int 0), some (.ref 13), some (.int 32), some (.int 0), none]) eX4_lookAtTracks_11 (Nat.le_of_ble_eq_true rfl) rfl).run ?_
  exact k1

set_option maxRecDepth 20000 in
theorem bX4_lookAtTracks_13 {d : Nat} {Q : Option Value → St → Prop} (x1 : Int32) (x3 : Int32) (x4 : Int32) (σ : St) 
    (g1 : x4 < x3 → vp_in x4 32)
    (k1 : x3 ≤ x4 → Q (none) σ)
    (k2 : x4 < x3 → Run MX4_lookAtTracks (d + 1) 13 [some (.ref 8), some (.int (x1 + (σ.1 13 x4.toNatClampNeg))), some (.ref 13), some (.int x3), some (.int (x4 + 1)), none] [] (sA σ 8 (upd (σ.1 8) 3 (mxI (σ.1 8 3) (x1 + (σ.1 13 x4.toNatClampNeg))))) Q)
    : Run MX4_lookAtTracks (d + 1) 13 [some (.ref 8), some (.int x1), some (.ref 13), some (.int x3), some (.int x4), none] [] σ Q := by
  refine (go_iload 4 eX4_lookAtTracks_13 rfl).run ?_
  refine (go_iload_n 3 eX4_lookAtTracks_15 rfl rfl).run ?_
  refine (bi_ge 48 eX4_lookAtTracks_16 rfl).run (fun h1 => ?_) (fun h1 => ?_)
  · exact Run.ret (v := none) (k1 h1) ⟨rfl, eX4_lookAtTracks_48⟩ rfl
  · refine (go_aload_n 2 eX4_lookAtTracks_19 rfl rfl).run ?_
    refine (go_iload 4 eX4_lookAtTracks_20 rfl).run ?_
    refine (go_iald kd_13 ln_13 (g1 h1) eX4_lookAtTracks_22).run ?_
    refine (go_istore 5 (L' := [some (.ref 8), some (.int x1), some (.ref 13), some (.int x3), some (.int x4), some (.int (σ.1 13 x4.toNatClampNeg))]) eX4_lookAtTracks_23 (Nat.le_of_ble_eq_true rfl) rfl).run ?_
    refine (go_iload_n 1 eX4_lookAtTracks_25 rfl rfl).run ?_
    refine (go_iload 5 eX4_lookAtTracks_26 rfl).run ?_
    refine (go_iadd eX4_lookAtTracks_28).run ?_
    refine (go_istore_n 1 (L' := [some (.ref 8), some (.int (x1 + (σ.1 13 x4.toNatClampNeg))), some (.ref 13), some (.int x3), some (.int x4), some (.int (σ.1 13 x4.toNatClampNeg))]) eX4_lookAtTracks_29 rfl (Nat.le_of_ble_eq_true rfl) rfl).run ?_
    refine (go_aload_n 0 eX4_lookAtTracks_30 rfl rfl).run ?_
    refine (go_aload_n 0 eX4_lookAtTracks_31 rfl rfl).run ?_
    refine (go_geti flX4_32 rf_4_3 kd_8 eX4_lookAtTracks_32).run ?_
    refine (go_iload_n 1 eX4_lookAtTracks_35 rfl rfl).run ?_
    refine (go_maxN mm_ok lkX4_66 rfl (Nat.le_of_ble_eq_true rfl) (by omega) eX4_lookAtTracks_36).run ?_
    refine (go_puti flX4_32 rf_4_3 rfl pf_4_3 rfl rfl kd_8 eX4_lookAtTracks_39).run ?_
    refine (go_iinc 4 (v := (x4 + 1)) (L' := [some (.ref 8), some (.int (x1 + (σ.1 13 x4.toNatClampNeg))), some (.ref 13), some (.int x3), some (.int (x4 + 1)), some (.int (σ.1 13 x4.toNatClampNeg))]) eX4_lookAtTracks_42 rfl rfl (Nat.le_of_ble_eq_true rfl) rfl).run ?_
    refine (go_goto 13 eX4_lookAtTracks_45 rfl).run ?_
    refine (go_sub (L' := [some (.ref 8), some (.int (x1 + (σ.1 13 x4.toNatClampNeg))), some (.ref 13), some (.int x3), some (.int (x4 + 1)), none]) (lsub_keep (lsub_keep (lsub_keep (lsub_keep (lsub_keep (lsub_drop lsub_nil))))))).run ?_
    exact (k2 h1)

/-! CarryNets$Judge.look -/
theorem eX4_look_0 : decode MX4_look.2.1 0 = .ok (.aload_n 0, 1) := by decide +kernel
theorem eX4_look_1 : decode MX4_look.2.1 1 = .ok (.iconst 0, 1) := by decide +kernel
theorem eX4_look_2 : decode MX4_look.2.1 2 = .ok (.putfield 22, 3) := by decide +kernel
theorem eX4_look_5 : decode MX4_look.2.1 5 = .ok (.aload_n 0, 1) := by decide +kernel
theorem eX4_look_6 : decode MX4_look.2.1 6 = .ok (.iconst 0, 1) := by decide +kernel
theorem eX4_look_7 : decode MX4_look.2.1 7 = .ok (.putfield 26, 3) := by decide +kernel
theorem eX4_look_10 : decode MX4_look.2.1 10 = .ok (.aload_n 0, 1) := by decide +kernel
theorem eX4_look_11 : decode MX4_look.2.1 11 = .ok (.iconst 0, 1) := by decide +kernel
theorem eX4_look_12 : decode MX4_look.2.1 12 = .ok (.putfield 29, 3) := by decide +kernel
theorem eX4_look_15 : decode MX4_look.2.1 15 = .ok (.aload_n 0, 1) := by decide +kernel
theorem eX4_look_16 : decode MX4_look.2.1 16 = .ok (.iconst 0, 1) := by decide +kernel
theorem eX4_look_17 : decode MX4_look.2.1 17 = .ok (.putfield 32, 3) := by decide +kernel
theorem eX4_look_20 : decode MX4_look.2.1 20 = .ok (.aload_n 0, 1) := by decide +kernel
theorem eX4_look_21 : decode MX4_look.2.1 21 = .ok (.iconst 0, 1) := by decide +kernel
theorem eX4_look_22 : decode MX4_look.2.1 22 = .ok (.putfield 35, 3) := by decide +kernel
theorem eX4_look_25 : decode MX4_look.2.1 25 = .ok (.aload_n 0, 1) := by decide +kernel
theorem eX4_look_26 : decode MX4_look.2.1 26 = .ok (.getfield 12, 3) := by decide +kernel
theorem eX4_look_29 : decode MX4_look.2.1 29 = .ok (.aload_n 1, 1) := by decide +kernel
theorem eX4_look_30 : decode MX4_look.2.1 30 = .ok (.getfield 38, 3) := by decide +kernel
theorem eX4_look_33 : decode MX4_look.2.1 33 = .ok (.invokevirtual 43, 3) := by decide +kernel
theorem eX4_look_36 : decode MX4_look.2.1 36 = .ok (.iconst 0, 1) := by decide +kernel
theorem eX4_look_37 : decode MX4_look.2.1 37 = .ok (.istore_n 2, 1) := by decide +kernel
theorem eX4_look_38 : decode MX4_look.2.1 38 = .ok (.iload_n 2, 1) := by decide +kernel
theorem eX4_look_39 : decode MX4_look.2.1 39 = .ok (.aload_n 1, 1) := by decide +kernel
theorem eX4_look_40 : decode MX4_look.2.1 40 = .ok (.getfield 47, 3) := by decide +kernel
theorem eX4_look_43 : decode MX4_look.2.1 43 = .ok (.if_icmp .ge 33, 3) := by decide +kernel
theorem eX4_look_46 : decode MX4_look.2.1 46 = .ok (.aload_n 0, 1) := by decide +kernel
theorem eX4_look_47 : decode MX4_look.2.1 47 = .ok (.getfield 12, 3) := by decide +kernel
theorem eX4_look_50 : decode MX4_look.2.1 50 = .ok (.aload_n 1, 1) := by decide +kernel
theorem eX4_look_51 : decode MX4_look.2.1 51 = .ok (.iload_n 2, 1) := by decide +kernel
theorem eX4_look_52 : decode MX4_look.2.1 52 = .ok (.invokevirtual 50, 3) := by decide +kernel
theorem eX4_look_55 : decode MX4_look.2.1 55 = .ok (.invokevirtual 54, 3) := by decide +kernel
theorem eX4_look_58 : decode MX4_look.2.1 58 = .ok (.aload_n 0, 1) := by decide +kernel
theorem eX4_look_59 : decode MX4_look.2.1 59 = .ok (.aload_n 1, 1) := by decide +kernel
theorem eX4_look_60 : decode MX4_look.2.1 60 = .ok (.getfield 38, 3) := by decide +kernel
theorem eX4_look_63 : decode MX4_look.2.1 63 = .ok (.invokevirtual 57, 3) := by decide +kernel
theorem eX4_look_66 : decode MX4_look.2.1 66 = .ok (.aload_n 0, 1) := by decide +kernel
theorem eX4_look_67 : decode MX4_look.2.1 67 = .ok (.invokevirtual 60, 3) := by decide +kernel
theorem eX4_look_70 : decode MX4_look.2.1 70 = .ok (.iinc 2 1, 3) := by decide +kernel
theorem eX4_look_73 : decode MX4_look.2.1 73 = .ok (.goto (-35), 3) := by decide +kernel
theorem eX4_look_76 : decode MX4_look.2.1 76 = .ok (.return_, 1) := by decide +kernel
set_option maxRecDepth 20000 in
theorem bX4_look_0 {d : Nat} {Q : Option Value → St → Prop} (o1 : Nat) (σ : St) (ho1 : kd o1 = 5) 
    (k1 : Ct yX8_begin MX8_begin (d + 2) [.ref 9, .int ((sA (sA (sA (sA (sA σ 8 (upd (σ.1 8) 0 0)) 8 (upd (upd (σ.1 8) 0 0) 1 0)) 8 (upd (upd (upd (σ.1 8) 0 0) 1 0) 2 0)) 8 (upd (upd (upd (upd (σ.1 8) 0 0) 1 0) 2 0) 3 0)) 8 (upd (upd (upd (upd (upd (σ.1 8) 0 0) 1 0) 2 0) 3 0) 4 0)).1 o1 0)] (sA (sA (sA (sA (sA σ 8 (upd (σ.1 8) 0 0)) 8 (upd (upd (σ.1 8) 0 0) 1 0)) 8 (upd (upd (upd (σ.1 8) 0 0) 1 0) 2 0)) 8 (upd (upd (upd (upd (σ.1 8) 0 0) 1 0) 2 0) 3 0)) 8 (upd (upd (upd (upd (upd (σ.1 8) 0 0) 1 0) 2 0) 3 0) 4 0)) (fun v σ1 => Run MX4_look (d + 3) 36 [some (.ref 8), some (.ref o1), none] (v.toList ++ []) σ1 Q))
    : Run MX4_look (d + 3) 0 [some (.ref 8), some (.ref o1), none] [] σ Q := by
  refine (go_aload_n 0 eX4_look_0 rfl rfl).run ?_
  refine (go_iconst (v := 0) eX4_look_1 rfl).run ?_
  refine (go_puti flX4_22 rf_4_0 rfl pf_4_0 rfl rfl kd_8 eX4_look_2).run ?_
  refine (go_aload_n 0 eX4_look_5 rfl rfl).run ?_
  refine (go_iconst (v := 0) eX4_look_6 rfl).run ?_
  refine (go_puti flX4_26 rf_4_1 rfl pf_4_1 rfl rfl kd_8 eX4_look_7).run ?_
  refine (go_aload_n 0 eX4_look_10 rfl rfl).run ?_
  refine (go_iconst (v := 0) eX4_look_11 rfl).run ?_
  refine (go_puti flX4_29 rf_4_2 rfl pf_4_2 rfl rfl kd_8 eX4_look_12).run ?_
  refine (go_aload_n 0 eX4_look_15 rfl rfl).run ?_
  refine (go_iconst (v := 0) eX4_look_16 rfl).run ?_
  refine (go_puti flX4_32 rf_4_3 rfl pf_4_3 rfl rfl kd_8 eX4_look_17).run ?_
  refine (go_aload_n 0 eX4_look_20 rfl rfl).run ?_
  refine (go_iconst (v := 0) eX4_look_21 rfl).run ?_
  refine (go_puti flX4_35 rf_4_4 rfl pf_4_4 rfl rfl kd_8 eX4_look_22).run ?_
  refine (go_aload_n 0 eX4_look_25 rfl rfl).run ?_
  refine (go_getr flX4_12 rf_4_5 kd_8 gr_8_5 eX4_look_26).run ?_
  refine (go_aload_n 1 eX4_look_29 rfl rfl).run ?_
  refine (go_geti flX4_38 rf_5_0 ho1 eX4_look_30).run ?_
  exact Run.callV (d := (d + 2)) (As := [.int ((sA (sA (sA (sA (sA σ 8 (upd (σ.1 8) 0 0)) 8 (upd (upd (σ.1 8) 0 0) 1 0)) 8 (upd (upd (upd (σ.1 8) 0 0) 1 0) 2 0)) 8 (upd (upd (upd (upd (σ.1 8) 0 0) 1 0) 2 0) 3 0)) 8 (upd (upd (upd (upd (upd (σ.1 8) 0 0) 1 0) 2 0) 3 0) 4 0)).1 o1 0)]) mX8_begin lkX4_43 kd_9 (by decide) rfl rfl rfl rfl rfl (Nat.le_of_ble_eq_true rfl) eX4_look_33 k1

set_option maxRecDepth 20000 in
theorem bX4_look_36 {d : Nat} {Q : Option Value → St → Prop} (o1 : Nat) (σ : St) (ho1 : kd o1 = 5) 
    (k1 : Run MX4_look (d + 3) 38 [some (.ref 8), some (.ref o1), some (.int 0)] [] σ Q)
    : Run MX4_look (d + 3) 36 [some (.ref 8), some (.ref o1), none] [] σ Q := by
  refine (go_iconst (v := 0) eX4_look_36 rfl).run ?_
  refine (go_istore_n 2 (L' := [some (.ref 8), some (.ref o1), some (.int 0)]) eX4_look_37 rfl (Nat.le_of_ble_eq_true rfl) rfl).run ?_
  exact k1

set_option maxRecDepth 20000 in
theorem bX4_look_38 {d : Nat} {Q : Option Value → St → Prop} (o1 : Nat) (x2 : Int32) (σ : St) (ho1 : kd o1 = 5) 
    (k1 : (σ.1 o1 1) ≤ x2 → Q (none) σ)
    (k2 : x2 < (σ.1 o1 1) → Ct yX8_join MX8_join (d + 2) [.ref 9, .int (((aG (gr o1 3) x2 σ)))] σ (fun v σ1 => Run MX4_look (d + 3) 58 [some (.ref 8), some (.ref o1), some (.int x2)] (v.toList ++ []) σ1 Q))
    : Run MX4_look (d + 3) 38 [some (.ref 8), some (.ref o1), some (.int x2)] [] σ Q := by
  refine (go_iload_n 2 eX4_look_38 rfl rfl).run ?_
  refine (go_aload_n 1 eX4_look_39 rfl rfl).run ?_
  refine (go_geti flX4_47 rf_5_1 ho1 eX4_look_40).run ?_
  refine (bi_ge 76 eX4_look_43 rfl).run (fun h1 => ?_) (fun h1 => ?_)
  · exact Run.ret (v := none) (k1 h1) ⟨rfl, eX4_look_76⟩ rfl
  · refine (go_aload_n 0 eX4_look_46 rfl rfl).run ?_
    refine (go_getr flX4_12 rf_4_5 kd_8 gr_8_5 eX4_look_47).run ?_
    refine (go_aload_n 1 eX4_look_50 rfl rfl).run ?_
    refine (go_iload_n 2 eX4_look_51 rfl rfl).run ?_
    refine Run.callV1 (d := (d + 2)) (As := [.int x2]) (r := .int (((aG (gr o1 3) x2 σ)))) mX6_row lkX4_50 ho1 (by decide) rfl rfl rfl rfl rfl (Nat.le_of_ble_eq_true rfl) eX4_look_52 (qX6_row (d + 1) o1 x2 σ ho1 ) ?_
    exact Run.callV (d := (d + 2)) (As := [.int (((aG (gr o1 3) x2 σ)))]) mX8_join lkX4_54 kd_9 (by decide) rfl rfl rfl rfl rfl (Nat.le_of_ble_eq_true rfl) eX4_look_55 (k2 h1)

set_option maxRecDepth 20000 in
theorem bX4_look_58 {d : Nat} {Q : Option Value → St → Prop} (o1 : Nat) (x2 : Int32) (σ : St) (ho1 : kd o1 = 5) 
    (k1 : Ct yX4_lookAtCells MX4_lookAtCells (d + 2) [.ref 8, .int (σ.1 o1 0)] σ (fun v σ1 => Run MX4_look (d + 3) 66 [some (.ref 8), some (.ref o1), some (.int x2)] (v.toList ++ []) σ1 Q))
    : Run MX4_look (d + 3) 58 [some (.ref 8), some (.ref o1), some (.int x2)] [] σ Q := by
  refine (go_aload_n 0 eX4_look_58 rfl rfl).run ?_
  refine (go_aload_n 1 eX4_look_59 rfl rfl).run ?_
  refine (go_geti flX4_38 rf_5_0 ho1 eX4_look_60).run ?_
  exact Run.callV (d := (d + 2)) (As := [.int (σ.1 o1 0)]) mX4_lookAtCells lkX4_57 kd_8 (by decide) rfl rfl rfl rfl rfl (Nat.le_of_ble_eq_true rfl) eX4_look_63 k1

set_option maxRecDepth 20000 in
theorem bX4_look_66 {d : Nat} {Q : Option Value → St → Prop} (o1 : Nat) (x2 : Int32) (σ : St) (ho1 : kd o1 = 5) 
    (k1 : Ct yX4_lookAtTracks MX4_lookAtTracks (d + 2) [.ref 8] σ (fun v σ1 => Run MX4_look (d + 3) 70 [some (.ref 8), some (.ref o1), some (.int x2)] (v.toList ++ []) σ1 Q))
    : Run MX4_look (d + 3) 66 [some (.ref 8), some (.ref o1), some (.int x2)] [] σ Q := by
  refine (go_aload_n 0 eX4_look_66 rfl rfl).run ?_
  exact Run.callV (d := (d + 2)) (As := []) mX4_lookAtTracks lkX4_60 kd_8 (by decide) rfl rfl rfl rfl rfl (Nat.le_of_ble_eq_true rfl) eX4_look_67 k1

set_option maxRecDepth 20000 in
theorem bX4_look_70 {d : Nat} {Q : Option Value → St → Prop} (o1 : Nat) (x2 : Int32) (σ : St) (ho1 : kd o1 = 5) 
    (k1 : Run MX4_look (d + 3) 38 [some (.ref 8), some (.ref o1), some (.int (x2 + 1))] [] σ Q)
    : Run MX4_look (d + 3) 70 [some (.ref 8), some (.ref o1), some (.int x2)] [] σ Q := by
  refine (go_iinc 2 (v := (x2 + 1)) (L' := [some (.ref 8), some (.ref o1), some (.int (x2 + 1))]) eX4_look_70 rfl rfl (Nat.le_of_ble_eq_true rfl) rfl).run ?_
  refine (go_goto 38 eX4_look_73 rfl).run ?_
  exact k1

/-! CarryNets$Laws.hasCell -/
theorem eX5_hasCell_0 : decode MX5_hasCell.2.1 0 = .ok (.iconst 1, 1) := by decide +kernel
theorem eX5_hasCell_1 : decode MX5_hasCell.2.1 1 = .ok (.iload_n 1, 1) := by decide +kernel
theorem eX5_hasCell_2 : decode MX5_hasCell.2.1 2 = .ok (.ishl, 1) := by decide +kernel
theorem eX5_hasCell_3 : decode MX5_hasCell.2.1 3 = .ok (.istore_n 3, 1) := by decide +kernel
theorem eX5_hasCell_4 : decode MX5_hasCell.2.1 4 = .ok (.iload_n 0, 1) := by decide +kernel
theorem eX5_hasCell_5 : decode MX5_hasCell.2.1 5 = .ok (.tableswitch 137 0 5 #[39, 52, 64, 75, 93, 119], 39) := by decide +kernel
theorem eX5_hasCell_44 : decode MX5_hasCell.2.1 44 = .ok (.iload_n 2, 1) := by decide +kernel
theorem eX5_hasCell_45 : decode MX5_hasCell.2.1 45 = .ok (.iload_n 1, 1) := by decide +kernel
theorem eX5_hasCell_46 : decode MX5_hasCell.2.1 46 = .ok (.iconst 1, 1) := by decide +kernel
theorem eX5_hasCell_47 : decode MX5_hasCell.2.1 47 = .ok (.iadd, 1) := by decide +kernel
theorem eX5_hasCell_48 : decode MX5_hasCell.2.1 48 = .ok (.if_icmp .ne 7, 3) := by decide +kernel
theorem eX5_hasCell_51 : decode MX5_hasCell.2.1 51 = .ok (.iconst 1, 1) := by decide +kernel
theorem eX5_hasCell_52 : decode MX5_hasCell.2.1 52 = .ok (.goto 4, 3) := by decide +kernel
theorem eX5_hasCell_55 : decode MX5_hasCell.2.1 55 = .ok (.iconst 0, 1) := by decide +kernel
theorem eX5_hasCell_56 : decode MX5_hasCell.2.1 56 = .ok (.ireturn, 1) := by decide +kernel
theorem eX5_hasCell_57 : decode MX5_hasCell.2.1 57 = .ok (.iload_n 2, 1) := by decide +kernel
theorem eX5_hasCell_58 : decode MX5_hasCell.2.1 58 = .ok (.iload_n 3, 1) := by decide +kernel
theorem eX5_hasCell_59 : decode MX5_hasCell.2.1 59 = .ok (.iand, 1) := by decide +kernel
theorem eX5_hasCell_60 : decode MX5_hasCell.2.1 60 = .ok (.ifCond .eq 7, 3) := by decide +kernel
theorem eX5_hasCell_63 : decode MX5_hasCell.2.1 63 = .ok (.iconst 1, 1) := by decide +kernel
theorem eX5_hasCell_64 : decode MX5_hasCell.2.1 64 = .ok (.goto 4, 3) := by decide +kernel
theorem eX5_hasCell_67 : decode MX5_hasCell.2.1 67 = .ok (.iconst 0, 1) := by decide +kernel
theorem eX5_hasCell_68 : decode MX5_hasCell.2.1 68 = .ok (.ireturn, 1) := by decide +kernel
theorem eX5_hasCell_69 : decode MX5_hasCell.2.1 69 = .ok (.iload_n 2, 1) := by decide +kernel
theorem eX5_hasCell_70 : decode MX5_hasCell.2.1 70 = .ok (.iload_n 3, 1) := by decide +kernel
theorem eX5_hasCell_71 : decode MX5_hasCell.2.1 71 = .ok (.if_icmp .lt 7, 3) := by decide +kernel
theorem eX5_hasCell_74 : decode MX5_hasCell.2.1 74 = .ok (.iconst 1, 1) := by decide +kernel
theorem eX5_hasCell_75 : decode MX5_hasCell.2.1 75 = .ok (.goto 4, 3) := by decide +kernel
theorem eX5_hasCell_78 : decode MX5_hasCell.2.1 78 = .ok (.iconst 0, 1) := by decide +kernel
theorem eX5_hasCell_79 : decode MX5_hasCell.2.1 79 = .ok (.ireturn, 1) := by decide +kernel
theorem eX5_hasCell_80 : decode MX5_hasCell.2.1 80 = .ok (.iload_n 2, 1) := by decide +kernel
theorem eX5_hasCell_81 : decode MX5_hasCell.2.1 81 = .ok (.iconst 1, 1) := by decide +kernel
theorem eX5_hasCell_82 : decode MX5_hasCell.2.1 82 = .ok (.iadd, 1) := by decide +kernel
theorem eX5_hasCell_83 : decode MX5_hasCell.2.1 83 = .ok (.iconst 2, 1) := by decide +kernel
theorem eX5_hasCell_84 : decode MX5_hasCell.2.1 84 = .ok (.iload_n 3, 1) := by decide +kernel
theorem eX5_hasCell_85 : decode MX5_hasCell.2.1 85 = .ok (.imul, 1) := by decide +kernel
theorem eX5_hasCell_86 : decode MX5_hasCell.2.1 86 = .ok (.iconst 1, 1) := by decide +kernel
theorem eX5_hasCell_87 : decode MX5_hasCell.2.1 87 = .ok (.isub, 1) := by decide +kernel
theorem eX5_hasCell_88 : decode MX5_hasCell.2.1 88 = .ok (.iand, 1) := by decide +kernel
theorem eX5_hasCell_89 : decode MX5_hasCell.2.1 89 = .ok (.ifCond .ne 7, 3) := by decide +kernel
theorem eX5_hasCell_92 : decode MX5_hasCell.2.1 92 = .ok (.iconst 1, 1) := by decide +kernel
theorem eX5_hasCell_93 : decode MX5_hasCell.2.1 93 = .ok (.goto 4, 3) := by decide +kernel
theorem eX5_hasCell_96 : decode MX5_hasCell.2.1 96 = .ok (.iconst 0, 1) := by decide +kernel
theorem eX5_hasCell_97 : decode MX5_hasCell.2.1 97 = .ok (.ireturn, 1) := by decide +kernel
theorem eX5_hasCell_98 : decode MX5_hasCell.2.1 98 = .ok (.iload_n 2, 1) := by decide +kernel
theorem eX5_hasCell_99 : decode MX5_hasCell.2.1 99 = .ok (.iconst 1, 1) := by decide +kernel
theorem eX5_hasCell_100 : decode MX5_hasCell.2.1 100 = .ok (.iadd, 1) := by decide +kernel
theorem eX5_hasCell_101 : decode MX5_hasCell.2.1 101 = .ok (.iconst 2, 1) := by decide +kernel
theorem eX5_hasCell_102 : decode MX5_hasCell.2.1 102 = .ok (.iload_n 3, 1) := by decide +kernel
theorem eX5_hasCell_103 : decode MX5_hasCell.2.1 103 = .ok (.imul, 1) := by decide +kernel
theorem eX5_hasCell_104 : decode MX5_hasCell.2.1 104 = .ok (.iconst 1, 1) := by decide +kernel
theorem eX5_hasCell_105 : decode MX5_hasCell.2.1 105 = .ok (.isub, 1) := by decide +kernel
theorem eX5_hasCell_106 : decode MX5_hasCell.2.1 106 = .ok (.iand, 1) := by decide +kernel
theorem eX5_hasCell_107 : decode MX5_hasCell.2.1 107 = .ok (.iload_n 3, 1) := by decide +kernel
theorem eX5_hasCell_108 : decode MX5_hasCell.2.1 108 = .ok (.if_icmp .ne 14, 3) := by decide +kernel
theorem eX5_hasCell_111 : decode MX5_hasCell.2.1 111 = .ok (.iload_n 2, 1) := by decide +kernel
theorem eX5_hasCell_112 : decode MX5_hasCell.2.1 112 = .ok (.iconst 2, 1) := by decide +kernel
theorem eX5_hasCell_113 : decode MX5_hasCell.2.1 113 = .ok (.iload_n 3, 1) := by decide +kernel
theorem eX5_hasCell_114 : decode MX5_hasCell.2.1 114 = .ok (.imul, 1) := by decide +kernel
theorem eX5_hasCell_115 : decode MX5_hasCell.2.1 115 = .ok (.if_icmp .lt 7, 3) := by decide +kernel
theorem eX5_hasCell_118 : decode MX5_hasCell.2.1 118 = .ok (.iconst 1, 1) := by decide +kernel
theorem eX5_hasCell_119 : decode MX5_hasCell.2.1 119 = .ok (.goto 4, 3) := by decide +kernel
theorem eX5_hasCell_122 : decode MX5_hasCell.2.1 122 = .ok (.iconst 0, 1) := by decide +kernel
theorem eX5_hasCell_123 : decode MX5_hasCell.2.1 123 = .ok (.ireturn, 1) := by decide +kernel
theorem eX5_hasCell_124 : decode MX5_hasCell.2.1 124 = .ok (.iload_n 2, 1) := by decide +kernel
theorem eX5_hasCell_125 : decode MX5_hasCell.2.1 125 = .ok (.iconst 1, 1) := by decide +kernel
theorem eX5_hasCell_126 : decode MX5_hasCell.2.1 126 = .ok (.iand, 1) := by decide +kernel
theorem eX5_hasCell_127 : decode MX5_hasCell.2.1 127 = .ok (.iconst 1, 1) := by decide +kernel
theorem eX5_hasCell_128 : decode MX5_hasCell.2.1 128 = .ok (.if_icmp .ne 12, 3) := by decide +kernel
theorem eX5_hasCell_131 : decode MX5_hasCell.2.1 131 = .ok (.iload_n 2, 1) := by decide +kernel
theorem eX5_hasCell_132 : decode MX5_hasCell.2.1 132 = .ok (.iload_n 3, 1) := by decide +kernel
theorem eX5_hasCell_133 : decode MX5_hasCell.2.1 133 = .ok (.if_icmp .lt 7, 3) := by decide +kernel
theorem eX5_hasCell_136 : decode MX5_hasCell.2.1 136 = .ok (.iconst 1, 1) := by decide +kernel
theorem eX5_hasCell_137 : decode MX5_hasCell.2.1 137 = .ok (.goto 4, 3) := by decide +kernel
theorem eX5_hasCell_140 : decode MX5_hasCell.2.1 140 = .ok (.iconst 0, 1) := by decide +kernel
theorem eX5_hasCell_141 : decode MX5_hasCell.2.1 141 = .ok (.ireturn, 1) := by decide +kernel
theorem eX5_hasCell_142 : decode MX5_hasCell.2.1 142 = .ok (.iload_n 2, 1) := by decide +kernel
theorem eX5_hasCell_143 : decode MX5_hasCell.2.1 143 = .ok (.iconst 1, 1) := by decide +kernel
theorem eX5_hasCell_144 : decode MX5_hasCell.2.1 144 = .ok (.iand, 1) := by decide +kernel
theorem eX5_hasCell_145 : decode MX5_hasCell.2.1 145 = .ok (.ifCond .ne 12, 3) := by decide +kernel
theorem eX5_hasCell_148 : decode MX5_hasCell.2.1 148 = .ok (.iload_n 2, 1) := by decide +kernel
theorem eX5_hasCell_149 : decode MX5_hasCell.2.1 149 = .ok (.iconst 2, 1) := by decide +kernel
theorem eX5_hasCell_150 : decode MX5_hasCell.2.1 150 = .ok (.if_icmp .lt 7, 3) := by decide +kernel
theorem eX5_hasCell_153 : decode MX5_hasCell.2.1 153 = .ok (.iconst 1, 1) := by decide +kernel
theorem eX5_hasCell_154 : decode MX5_hasCell.2.1 154 = .ok (.goto 4, 3) := by decide +kernel
theorem eX5_hasCell_157 : decode MX5_hasCell.2.1 157 = .ok (.iconst 0, 1) := by decide +kernel
theorem eX5_hasCell_158 : decode MX5_hasCell.2.1 158 = .ok (.ireturn, 1) := by decide +kernel
set_option maxRecDepth 20000 in
theorem bX5_hasCell_0 {d : Nat} {Q : Option Value → St → Prop} (x0 : Int32) (x1 : Int32) (x2 : Int32) (σ : St) 
    (k1 : x0 = 0 → Q (some (.int (bI (x2 = (x1 + 1))))) σ)
    (k2 : x0 = 1 → Q (some (.int (bI (¬ (x2 &&& ((1 : Int32) <<< (x1 &&& 31))) = 0)))) σ)
    (k3 : x0 = 2 → Q (some (.int (bI (((1 : Int32) <<< (x1 &&& 31)) ≤ x2)))) σ)
    (k4 : x0 = 3 → Q (some (.int (bI (((x2 + 1) &&& (((2 : Int32) * ((1 : Int32) <<< (x1 &&& 31))) - 1)) = 0)))) σ)
    (k5 : x0 = 4 → Q (some (.int (bI (((x2 + 1) &&& (((2 : Int32) * ((1 : Int32) <<< (x1 &&& 31))) - 1)) = ((1 : Int32) <<< (x1 &&& 31)) ∧ ((2 : Int32) * ((1 : Int32) <<< (x1 &&& 31))) ≤ x2)))) σ)
    (k6 : x0 = 5 → Q (some (.int (bI ((x2 &&& 1) = 1 ∧ ((1 : Int32) <<< (x1 &&& 31)) ≤ x2)))) σ)
    (k7 : (x0.toInt < 0 ∨ 5 < x0.toInt) → Q (some (.int (bI ((x2 &&& 1) = 0 ∧ (2 : Int32) ≤ x2)))) σ)
    : Run MX5_hasCell d 0 [some (.int x0), some (.int x1), some (.int x2), none] [] σ Q := by
  refine (go_iconst (v := 1) eX5_hasCell_0 rfl).run ?_
  refine (go_iload_n 1 eX5_hasCell_1 rfl rfl).run ?_
  refine (go_ishl eX5_hasCell_2).run ?_
  refine (go_istore_n 3 (L' := [some (.int x0), some (.int x1), some (.int x2), some (.int ((1 : Int32) <<< (x1 &&& 31)))]) eX5_hasCell_3 rfl (Nat.le_of_ble_eq_true rfl) rfl).run ?_
  refine (go_iload_n 0 eX5_hasCell_4 rfl rfl).run ?_
  by_cases h1 : x0 = 0
  · refine (go_tableIn 44 eX5_hasCell_5 (by rw [h1]; decide) (by rw [h1]; decide) (by rw [h1]; rfl) rfl).run ?_
    refine (go_iload_n 2 eX5_hasCell_44 rfl rfl).run ?_
    refine (go_iload_n 1 eX5_hasCell_45 rfl rfl).run ?_
    refine (go_iconst (v := 1) eX5_hasCell_46 rfl).run ?_
    refine (go_iadd eX5_hasCell_47).run ?_
    have hJh2 : Run MX5_hasCell d 56 [none, none, none, none] [.int (bI (x2 = (x1 + 1)))] σ Q := by
      exact Run.ret (v := some (.int (bI (x2 = (x1 + 1))))) (k1 h1) ⟨Or.inr ⟨rfl, bI_01⟩, eX5_hasCell_56⟩ rfl
    refine (bi_ne 55 eX5_hasCell_48 rfl).run (fun h2 => ?_) (fun h2 => ?_)
    · refine (go_iconst (v := 0) eX5_hasCell_55 rfl).run ?_
      refine (go_sub (L' := [none, none, none, none]) (lsub_drop (lsub_drop (lsub_drop (lsub_drop lsub_nil))))).run ?_
      first | exact hJh2 | (simp only [if_neg (h2)] at hJh2; exact hJh2) | (simp only [eq_false h2, not_false_eq_true, true_and, and_true, false_and, and_false, true_or, or_true, false_or, or_false, not_true_eq_false, not_false_eq_true] at hJh2; exact hJh2) | exact Run.eq (by simp [eq_false h2, not_false_eq_true, bI]) (by simp [eq_false h2, not_false_eq_true, bI]) rfl hJh2
    · refine (go_iconst (v := 1) eX5_hasCell_51 rfl).run ?_
      refine (go_goto 56 eX5_hasCell_52 rfl).run ?_
      refine (go_sub (L' := [none, none, none, none]) (lsub_drop (lsub_drop (lsub_drop (lsub_drop lsub_nil))))).run ?_
      first | exact hJh2 | (simp only [if_pos h2] at hJh2; exact hJh2) | (simp only [eq_true h2, not_true_eq_false, true_and, and_true, false_and, and_false, true_or, or_true, false_or, or_false, not_true_eq_false, not_false_eq_true] at hJh2; exact hJh2) | exact Run.eq (by simp [eq_true h2, not_true_eq_false, bI]) (by simp [eq_true h2, not_true_eq_false, bI]) rfl hJh2
  have nh1_0 := h1
  clear h1
  by_cases h1 : x0 = 1
  · refine (go_tableIn 57 eX5_hasCell_5 (by rw [h1]; decide) (by rw [h1]; decide) (by rw [h1]; rfl) rfl).run ?_
    refine (go_iload_n 2 eX5_hasCell_57 rfl rfl).run ?_
    refine (go_iload_n 3 eX5_hasCell_58 rfl rfl).run ?_
    refine (go_iand eX5_hasCell_59).run ?_
    have hJh3 : Run MX5_hasCell d 68 [none, none, none, none] [.int (bI (¬ (x2 &&& ((1 : Int32) <<< (x1 &&& 31))) = 0))] σ Q := by
      exact Run.ret (v := some (.int (bI (¬ (x2 &&& ((1 : Int32) <<< (x1 &&& 31))) = 0)))) (k2 h1) ⟨Or.inr ⟨rfl, bI_01⟩, eX5_hasCell_68⟩ rfl
    refine (bz_eq 67 eX5_hasCell_60 rfl).run (fun h3 => ?_) (fun h3 => ?_)
    · refine (go_iconst (v := 0) eX5_hasCell_67 rfl).run ?_
      refine (go_sub (L' := [none, none, none, none]) (lsub_drop (lsub_drop (lsub_drop (lsub_drop lsub_nil))))).run ?_
      first | exact hJh3 | (simp only [if_pos h3] at hJh3; exact hJh3) | (simp only [eq_true h3, not_true_eq_false, true_and, and_true, false_and, and_false, true_or, or_true, false_or, or_false, not_true_eq_false, not_false_eq_true] at hJh3; exact hJh3) | exact Run.eq (by simp [eq_true h3, not_true_eq_false, bI]) (by simp [eq_true h3, not_true_eq_false, bI]) rfl hJh3
    · refine (go_iconst (v := 1) eX5_hasCell_63 rfl).run ?_
      refine (go_goto 68 eX5_hasCell_64 rfl).run ?_
      refine (go_sub (L' := [none, none, none, none]) (lsub_drop (lsub_drop (lsub_drop (lsub_drop lsub_nil))))).run ?_
      first | exact hJh3 | (simp only [if_neg (h3)] at hJh3; exact hJh3) | (simp only [eq_false h3, not_false_eq_true, true_and, and_true, false_and, and_false, true_or, or_true, false_or, or_false, not_true_eq_false, not_false_eq_true] at hJh3; exact hJh3) | exact Run.eq (by simp [eq_false h3, not_false_eq_true, bI]) (by simp [eq_false h3, not_false_eq_true, bI]) rfl hJh3
  have nh1_1 := h1
  clear h1
  by_cases h1 : x0 = 2
  · refine (go_tableIn 69 eX5_hasCell_5 (by rw [h1]; decide) (by rw [h1]; decide) (by rw [h1]; rfl) rfl).run ?_
    refine (go_iload_n 2 eX5_hasCell_69 rfl rfl).run ?_
    refine (go_iload_n 3 eX5_hasCell_70 rfl rfl).run ?_
    have hJh4 : Run MX5_hasCell d 79 [none, none, none, none] [.int (bI (((1 : Int32) <<< (x1 &&& 31)) ≤ x2))] σ Q := by
      exact Run.ret (v := some (.int (bI (((1 : Int32) <<< (x1 &&& 31)) ≤ x2)))) (k3 h1) ⟨Or.inr ⟨rfl, bI_01⟩, eX5_hasCell_79⟩ rfl
    refine (bi_lt 78 eX5_hasCell_71 rfl).run (fun h4 => ?_) (fun h4 => ?_)
    · refine (go_iconst (v := 0) eX5_hasCell_78 rfl).run ?_
      refine (go_sub (L' := [none, none, none, none]) (lsub_drop (lsub_drop (lsub_drop (lsub_drop lsub_nil))))).run ?_
      first | exact hJh4 | (simp only [if_pos h4] at hJh4; exact hJh4) | (simp only [eq_true h4, eq_false (i32_nle.mpr h4), true_and, and_true, false_and, and_false, true_or, or_true, false_or, or_false, not_true_eq_false, not_false_eq_true] at hJh4; exact hJh4) | exact Run.eq (by simp [eq_true h4, eq_false (i32_nle.mpr h4), bI]) (by simp [eq_true h4, eq_false (i32_nle.mpr h4), bI]) rfl hJh4
    · refine (go_iconst (v := 1) eX5_hasCell_74 rfl).run ?_
      refine (go_goto 79 eX5_hasCell_75 rfl).run ?_
      refine (go_sub (L' := [none, none, none, none]) (lsub_drop (lsub_drop (lsub_drop (lsub_drop lsub_nil))))).run ?_
      first | exact hJh4 | (simp only [if_neg (i32_nlt.mpr h4)] at hJh4; exact hJh4) | (simp only [eq_true h4, eq_false (i32_nlt.mpr h4), true_and, and_true, false_and, and_false, true_or, or_true, false_or, or_false, not_true_eq_false, not_false_eq_true] at hJh4; exact hJh4) | exact Run.eq (by simp [eq_true h4, eq_false (i32_nlt.mpr h4), bI]) (by simp [eq_true h4, eq_false (i32_nlt.mpr h4), bI]) rfl hJh4
  have nh1_2 := h1
  clear h1
  by_cases h1 : x0 = 3
  · refine (go_tableIn 80 eX5_hasCell_5 (by rw [h1]; decide) (by rw [h1]; decide) (by rw [h1]; rfl) rfl).run ?_
    refine (go_iload_n 2 eX5_hasCell_80 rfl rfl).run ?_
    refine (go_iconst (v := 1) eX5_hasCell_81 rfl).run ?_
    refine (go_iadd eX5_hasCell_82).run ?_
    refine (go_iconst (v := 2) eX5_hasCell_83 rfl).run ?_
    refine (go_iload_n 3 eX5_hasCell_84 rfl rfl).run ?_
    refine (go_imul eX5_hasCell_85).run ?_
    refine (go_iconst (v := 1) eX5_hasCell_86 rfl).run ?_
    refine (go_isub eX5_hasCell_87).run ?_
    refine (go_iand eX5_hasCell_88).run ?_
    have hJh5 : Run MX5_hasCell d 97 [none, none, none, none] [.int (bI (((x2 + 1) &&& (((2 : Int32) * ((1 : Int32) <<< (x1 &&& 31))) - 1)) = 0))] σ Q := by
      exact Run.ret (v := some (.int (bI (((x2 + 1) &&& (((2 : Int32) * ((1 : Int32) <<< (x1 &&& 31))) - 1)) = 0)))) (k4 h1) ⟨Or.inr ⟨rfl, bI_01⟩, eX5_hasCell_97⟩ rfl
    refine (bz_ne 96 eX5_hasCell_89 rfl).run (fun h5 => ?_) (fun h5 => ?_)
    · refine (go_iconst (v := 0) eX5_hasCell_96 rfl).run ?_
      refine (go_sub (L' := [none, none, none, none]) (lsub_drop (lsub_drop (lsub_drop (lsub_drop lsub_nil))))).run ?_
      first | exact hJh5 | (simp only [if_neg (h5)] at hJh5; exact hJh5) | (simp only [eq_false h5, not_false_eq_true, true_and, and_true, false_and, and_false, true_or, or_true, false_or, or_false, not_true_eq_false, not_false_eq_true] at hJh5; exact hJh5) | exact Run.eq (by simp [eq_false h5, not_false_eq_true, bI]) (by simp [eq_false h5, not_false_eq_true, bI]) rfl hJh5
    · refine (go_iconst (v := 1) eX5_hasCell_92 rfl).run ?_
      refine (go_goto 97 eX5_hasCell_93 rfl).run ?_
      refine (go_sub (L' := [none, none, none, none]) (lsub_drop (lsub_drop (lsub_drop (lsub_drop lsub_nil))))).run ?_
      first | exact hJh5 | (simp only [if_pos h5] at hJh5; exact hJh5) | (simp only [eq_true h5, not_true_eq_false, true_and, and_true, false_and, and_false, true_or, or_true, false_or, or_false, not_true_eq_false, not_false_eq_true] at hJh5; exact hJh5) | exact Run.eq (by simp [eq_true h5, not_true_eq_false, bI]) (by simp [eq_true h5, not_true_eq_false, bI]) rfl hJh5
  have nh1_3 := h1
  clear h1
  by_cases h1 : x0 = 4
  · refine (go_tableIn 98 eX5_hasCell_5 (by rw [h1]; decide) (by rw [h1]; decide) (by rw [h1]; rfl) rfl).run ?_
    refine (go_iload_n 2 eX5_hasCell_98 rfl rfl).run ?_
    refine (go_iconst (v := 1) eX5_hasCell_99 rfl).run ?_
    refine (go_iadd eX5_hasCell_100).run ?_
    refine (go_iconst (v := 2) eX5_hasCell_101 rfl).run ?_
    refine (go_iload_n 3 eX5_hasCell_102 rfl rfl).run ?_
    refine (go_imul eX5_hasCell_103).run ?_
    refine (go_iconst (v := 1) eX5_hasCell_104 rfl).run ?_
    refine (go_isub eX5_hasCell_105).run ?_
    refine (go_iand eX5_hasCell_106).run ?_
    refine (go_iload_n 3 eX5_hasCell_107 rfl rfl).run ?_
    have hJh6 : Run MX5_hasCell d 123 [none, none, none, none] [.int (bI (((x2 + 1) &&& (((2 : Int32) * ((1 : Int32) <<< (x1 &&& 31))) - 1)) = ((1 : Int32) <<< (x1 &&& 31)) ∧ ((2 : Int32) * ((1 : Int32) <<< (x1 &&& 31))) ≤ x2))] σ Q := by
      exact Run.ret (v := some (.int (bI (((x2 + 1) &&& (((2 : Int32) * ((1 : Int32) <<< (x1 &&& 31))) - 1)) = ((1 : Int32) <<< (x1 &&& 31)) ∧ ((2 : Int32) * ((1 : Int32) <<< (x1 &&& 31))) ≤ x2)))) (k5 h1) ⟨Or.inr ⟨rfl, bI_01⟩, eX5_hasCell_123⟩ rfl
    refine (bi_ne 122 eX5_hasCell_108 rfl).run (fun h6 => ?_) (fun h6 => ?_)
    · refine (go_iconst (v := 0) eX5_hasCell_122 rfl).run ?_
      refine (go_sub (L' := [none, none, none, none]) (lsub_drop (lsub_drop (lsub_drop (lsub_drop lsub_nil))))).run ?_
      first | exact hJh6 | (simp only [if_neg (h6)] at hJh6; exact hJh6) | (simp only [eq_false h6, not_false_eq_true, true_and, and_true, false_and, and_false, true_or, or_true, false_or, or_false, not_true_eq_false, not_false_eq_true] at hJh6; exact hJh6) | exact Run.eq (by simp [eq_false h6, not_false_eq_true, bI]) (by simp [eq_false h6, not_false_eq_true, bI]) rfl hJh6
    · refine (go_iload_n 2 eX5_hasCell_111 rfl rfl).run ?_
      refine (go_iconst (v := 2) eX5_hasCell_112 rfl).run ?_
      refine (go_iload_n 3 eX5_hasCell_113 rfl rfl).run ?_
      refine (go_imul eX5_hasCell_114).run ?_
      have hJh7 : Run MX5_hasCell d 123 [none, none, none, none] [.int (bI (((2 : Int32) * ((1 : Int32) <<< (x1 &&& 31))) ≤ x2))] σ Q := by
        first | exact hJh6 | (simp only [if_pos h6] at hJh6; exact hJh6) | (simp only [eq_true h6, not_true_eq_false, true_and, and_true, false_and, and_false, true_or, or_true, false_or, or_false, not_true_eq_false, not_false_eq_true] at hJh6; exact hJh6) | exact Run.eq (by simp [eq_true h6, not_true_eq_false, bI]) (by simp [eq_true h6, not_true_eq_false, bI]) rfl hJh6
      refine (bi_lt 122 eX5_hasCell_115 rfl).run (fun h7 => ?_) (fun h7 => ?_)
      · refine (go_iconst (v := 0) eX5_hasCell_122 rfl).run ?_
        refine (go_sub (L' := [none, none, none, none]) (lsub_drop (lsub_drop (lsub_drop (lsub_drop lsub_nil))))).run ?_
        first | exact hJh7 | (simp only [if_pos h7] at hJh7; exact hJh7) | (simp only [eq_true h7, eq_false (i32_nle.mpr h7), true_and, and_true, false_and, and_false, true_or, or_true, false_or, or_false, not_true_eq_false, not_false_eq_true] at hJh7; exact hJh7) | exact Run.eq (by simp [eq_true h7, eq_false (i32_nle.mpr h7), bI]) (by simp [eq_true h7, eq_false (i32_nle.mpr h7), bI]) rfl hJh7
      · refine (go_iconst (v := 1) eX5_hasCell_118 rfl).run ?_
        refine (go_goto 123 eX5_hasCell_119 rfl).run ?_
        refine (go_sub (L' := [none, none, none, none]) (lsub_drop (lsub_drop (lsub_drop (lsub_drop lsub_nil))))).run ?_
        first | exact hJh7 | (simp only [if_neg (i32_nlt.mpr h7)] at hJh7; exact hJh7) | (simp only [eq_true h7, eq_false (i32_nlt.mpr h7), true_and, and_true, false_and, and_false, true_or, or_true, false_or, or_false, not_true_eq_false, not_false_eq_true] at hJh7; exact hJh7) | exact Run.eq (by simp [eq_true h7, eq_false (i32_nlt.mpr h7), bI]) (by simp [eq_true h7, eq_false (i32_nlt.mpr h7), bI]) rfl hJh7
  have nh1_4 := h1
  clear h1
  by_cases h1 : x0 = 5
  · refine (go_tableIn 124 eX5_hasCell_5 (by rw [h1]; decide) (by rw [h1]; decide) (by rw [h1]; rfl) rfl).run ?_
    refine (go_iload_n 2 eX5_hasCell_124 rfl rfl).run ?_
    refine (go_iconst (v := 1) eX5_hasCell_125 rfl).run ?_
    refine (go_iand eX5_hasCell_126).run ?_
    refine (go_iconst (v := 1) eX5_hasCell_127 rfl).run ?_
    have hJh8 : Run MX5_hasCell d 141 [none, none, none, none] [.int (bI ((x2 &&& 1) = 1 ∧ ((1 : Int32) <<< (x1 &&& 31)) ≤ x2))] σ Q := by
      exact Run.ret (v := some (.int (bI ((x2 &&& 1) = 1 ∧ ((1 : Int32) <<< (x1 &&& 31)) ≤ x2)))) (k6 h1) ⟨Or.inr ⟨rfl, bI_01⟩, eX5_hasCell_141⟩ rfl
    refine (bi_ne 140 eX5_hasCell_128 rfl).run (fun h8 => ?_) (fun h8 => ?_)
    · refine (go_iconst (v := 0) eX5_hasCell_140 rfl).run ?_
      refine (go_sub (L' := [none, none, none, none]) (lsub_drop (lsub_drop (lsub_drop (lsub_drop lsub_nil))))).run ?_
      first | exact hJh8 | (simp only [if_neg (h8)] at hJh8; exact hJh8) | (simp only [eq_false h8, not_false_eq_true, true_and, and_true, false_and, and_false, true_or, or_true, false_or, or_false, not_true_eq_false, not_false_eq_true] at hJh8; exact hJh8) | exact Run.eq (by simp [eq_false h8, not_false_eq_true, bI]) (by simp [eq_false h8, not_false_eq_true, bI]) rfl hJh8
    · refine (go_iload_n 2 eX5_hasCell_131 rfl rfl).run ?_
      refine (go_iload_n 3 eX5_hasCell_132 rfl rfl).run ?_
      have hJh9 : Run MX5_hasCell d 141 [none, none, none, none] [.int (bI (((1 : Int32) <<< (x1 &&& 31)) ≤ x2))] σ Q := by
        first | exact hJh8 | (simp only [if_pos h8] at hJh8; exact hJh8) | (simp only [eq_true h8, not_true_eq_false, true_and, and_true, false_and, and_false, true_or, or_true, false_or, or_false, not_true_eq_false, not_false_eq_true] at hJh8; exact hJh8) | exact Run.eq (by simp [eq_true h8, not_true_eq_false, bI]) (by simp [eq_true h8, not_true_eq_false, bI]) rfl hJh8
      refine (bi_lt 140 eX5_hasCell_133 rfl).run (fun h9 => ?_) (fun h9 => ?_)
      · refine (go_iconst (v := 0) eX5_hasCell_140 rfl).run ?_
        refine (go_sub (L' := [none, none, none, none]) (lsub_drop (lsub_drop (lsub_drop (lsub_drop lsub_nil))))).run ?_
        first | exact hJh9 | (simp only [if_pos h9] at hJh9; exact hJh9) | (simp only [eq_true h9, eq_false (i32_nle.mpr h9), true_and, and_true, false_and, and_false, true_or, or_true, false_or, or_false, not_true_eq_false, not_false_eq_true] at hJh9; exact hJh9) | exact Run.eq (by simp [eq_true h9, eq_false (i32_nle.mpr h9), bI]) (by simp [eq_true h9, eq_false (i32_nle.mpr h9), bI]) rfl hJh9
      · refine (go_iconst (v := 1) eX5_hasCell_136 rfl).run ?_
        refine (go_goto 141 eX5_hasCell_137 rfl).run ?_
        refine (go_sub (L' := [none, none, none, none]) (lsub_drop (lsub_drop (lsub_drop (lsub_drop lsub_nil))))).run ?_
        first | exact hJh9 | (simp only [if_neg (i32_nlt.mpr h9)] at hJh9; exact hJh9) | (simp only [eq_true h9, eq_false (i32_nlt.mpr h9), true_and, and_true, false_and, and_false, true_or, or_true, false_or, or_false, not_true_eq_false, not_false_eq_true] at hJh9; exact hJh9) | exact Run.eq (by simp [eq_true h9, eq_false (i32_nlt.mpr h9), bI]) (by simp [eq_true h9, eq_false (i32_nlt.mpr h9), bI]) rfl hJh9
  have nh1_5 := h1
  clear h1
  have h1 : x0.toInt < 0 ∨ 5 < x0.toInt := by simp only [← Int32.toInt_inj] at nh1_0 nh1_1 nh1_2 nh1_3 nh1_4 nh1_5; simp at nh1_0 nh1_1 nh1_2 nh1_3 nh1_4 nh1_5; omega
  refine (go_tableOut 142 eX5_hasCell_5 h1 rfl).run ?_
  refine (go_iload_n 2 eX5_hasCell_142 rfl rfl).run ?_
  refine (go_iconst (v := 1) eX5_hasCell_143 rfl).run ?_
  refine (go_iand eX5_hasCell_144).run ?_
  have hJh10 : Run MX5_hasCell d 158 [none, none, none, none] [.int (bI ((x2 &&& 1) = 0 ∧ (2 : Int32) ≤ x2))] σ Q := by
    exact Run.ret (v := some (.int (bI ((x2 &&& 1) = 0 ∧ (2 : Int32) ≤ x2)))) (k7 h1) ⟨Or.inr ⟨rfl, bI_01⟩, eX5_hasCell_158⟩ rfl
  refine (bz_ne 157 eX5_hasCell_145 rfl).run (fun h10 => ?_) (fun h10 => ?_)
  · refine (go_iconst (v := 0) eX5_hasCell_157 rfl).run ?_
    refine (go_sub (L' := [none, none, none, none]) (lsub_drop (lsub_drop (lsub_drop (lsub_drop lsub_nil))))).run ?_
    first | exact hJh10 | (simp only [if_neg (h10)] at hJh10; exact hJh10) | (simp only [eq_false h10, not_false_eq_true, true_and, and_true, false_and, and_false, true_or, or_true, false_or, or_false, not_true_eq_false, not_false_eq_true] at hJh10; exact hJh10) | exact Run.eq (by simp [eq_false h10, not_false_eq_true, bI]) (by simp [eq_false h10, not_false_eq_true, bI]) rfl hJh10
  · refine (go_iload_n 2 eX5_hasCell_148 rfl rfl).run ?_
    refine (go_iconst (v := 2) eX5_hasCell_149 rfl).run ?_
    have hJh11 : Run MX5_hasCell d 158 [none, none, none, none] [.int (bI ((2 : Int32) ≤ x2))] σ Q := by
      first | exact hJh10 | (simp only [if_pos h10] at hJh10; exact hJh10) | (simp only [eq_true h10, not_true_eq_false, true_and, and_true, false_and, and_false, true_or, or_true, false_or, or_false, not_true_eq_false, not_false_eq_true] at hJh10; exact hJh10) | exact Run.eq (by simp [eq_true h10, not_true_eq_false, bI]) (by simp [eq_true h10, not_true_eq_false, bI]) rfl hJh10
    refine (bi_lt 157 eX5_hasCell_150 rfl).run (fun h11 => ?_) (fun h11 => ?_)
    · refine (go_iconst (v := 0) eX5_hasCell_157 rfl).run ?_
      refine (go_sub (L' := [none, none, none, none]) (lsub_drop (lsub_drop (lsub_drop (lsub_drop lsub_nil))))).run ?_
      first | exact hJh11 | (simp only [if_pos h11] at hJh11; exact hJh11) | (simp only [eq_true h11, eq_false (i32_nle.mpr h11), true_and, and_true, false_and, and_false, true_or, or_true, false_or, or_false, not_true_eq_false, not_false_eq_true] at hJh11; exact hJh11) | exact Run.eq (by simp [eq_true h11, eq_false (i32_nle.mpr h11), bI]) (by simp [eq_true h11, eq_false (i32_nle.mpr h11), bI]) rfl hJh11
    · refine (go_iconst (v := 1) eX5_hasCell_153 rfl).run ?_
      refine (go_goto 158 eX5_hasCell_154 rfl).run ?_
      refine (go_sub (L' := [none, none, none, none]) (lsub_drop (lsub_drop (lsub_drop (lsub_drop lsub_nil))))).run ?_
      first | exact hJh11 | (simp only [if_neg (i32_nlt.mpr h11)] at hJh11; exact hJh11) | (simp only [eq_true h11, eq_false (i32_nlt.mpr h11), true_and, and_true, false_and, and_false, true_or, or_true, false_or, or_false, not_true_eq_false, not_false_eq_true] at hJh11; exact hJh11) | exact Run.eq (by simp [eq_true h11, eq_false (i32_nlt.mpr h11), bI]) (by simp [eq_true h11, eq_false (i32_nlt.mpr h11), bI]) rfl hJh11

/-! CarryNets$Laws.addRow -/
theorem eX5_addRow_0 : decode MX5_addRow.2.1 0 = .ok (.iconst 0, 1) := by decide +kernel
theorem eX5_addRow_1 : decode MX5_addRow.2.1 1 = .ok (.istore_n 3, 1) := by decide +kernel
theorem eX5_addRow_2 : decode MX5_addRow.2.1 2 = .ok (.iconst 0, 1) := by decide +kernel
theorem eX5_addRow_3 : decode MX5_addRow.2.1 3 = .ok (.istore 4, 2) := by decide +kernel
theorem eX5_addRow_5 : decode MX5_addRow.2.1 5 = .ok (.iload 4, 2) := by decide +kernel
theorem eX5_addRow_7 : decode MX5_addRow.2.1 7 = .ok (.aload_n 0, 1) := by decide +kernel
theorem eX5_addRow_8 : decode MX5_addRow.2.1 8 = .ok (.getfield 32, 3) := by decide +kernel
theorem eX5_addRow_11 : decode MX5_addRow.2.1 11 = .ok (.if_icmp .ge 26, 3) := by decide +kernel
theorem eX5_addRow_14 : decode MX5_addRow.2.1 14 = .ok (.iload_n 1, 1) := by decide +kernel
theorem eX5_addRow_15 : decode MX5_addRow.2.1 15 = .ok (.iload_n 2, 1) := by decide +kernel
theorem eX5_addRow_16 : decode MX5_addRow.2.1 16 = .ok (.iload 4, 2) := by decide +kernel
theorem eX5_addRow_18 : decode MX5_addRow.2.1 18 = .ok (.invokestatic 36, 3) := by decide +kernel
theorem eX5_addRow_21 : decode MX5_addRow.2.1 21 = .ok (.ifCond .eq 10, 3) := by decide +kernel
theorem eX5_addRow_24 : decode MX5_addRow.2.1 24 = .ok (.iload_n 3, 1) := by decide +kernel
theorem eX5_addRow_25 : decode MX5_addRow.2.1 25 = .ok (.iconst 1, 1) := by decide +kernel
theorem eX5_addRow_26 : decode MX5_addRow.2.1 26 = .ok (.iload 4, 2) := by decide +kernel
theorem eX5_addRow_28 : decode MX5_addRow.2.1 28 = .ok (.ishl, 1) := by decide +kernel
theorem eX5_addRow_29 : decode MX5_addRow.2.1 29 = .ok (.ior, 1) := by decide +kernel
theorem eX5_addRow_30 : decode MX5_addRow.2.1 30 = .ok (.istore_n 3, 1) := by decide +kernel
theorem eX5_addRow_31 : decode MX5_addRow.2.1 31 = .ok (.iinc 4 1, 3) := by decide +kernel
theorem eX5_addRow_34 : decode MX5_addRow.2.1 34 = .ok (.goto (-29), 3) := by decide +kernel
theorem eX5_addRow_37 : decode MX5_addRow.2.1 37 = .ok (.aload_n 0, 1) := by decide +kernel
theorem eX5_addRow_38 : decode MX5_addRow.2.1 38 = .ok (.iload_n 3, 1) := by decide +kernel
theorem eX5_addRow_39 : decode MX5_addRow.2.1 39 = .ok (.invokevirtual 40, 3) := by decide +kernel
theorem eX5_addRow_42 : decode MX5_addRow.2.1 42 = .ok (.return_, 1) := by decide +kernel
set_option maxRecDepth 20000 in
theorem bX5_addRow_0 {d : Nat} {Q : Option Value → St → Prop} (o0 : Nat) (x1 : Int32) (x2 : Int32) (σ : St) (ho0 : kd o0 = 5) 
    (k1 : Run MX5_addRow (d + 3) 5 [some (.ref o0), some (.int x1), some (.int x2), some (.int 0), some (.int 0)] [] σ Q)
    : Run MX5_addRow (d + 3) 0 [some (.ref o0), some (.int x1), some (.int x2), none, none] [] σ Q := by
  refine (go_iconst (v := 0) eX5_addRow_0 rfl).run ?_
  refine (go_istore_n 3 (L' := [some (.ref o0), some (.int x1), some (.int x2), some (.int 0), none]) eX5_addRow_1 rfl (Nat.le_of_ble_eq_true rfl) rfl).run ?_
  refine (go_iconst (v := 0) eX5_addRow_2 rfl).run ?_
  refine (go_istore 4 (L' := [some (.ref o0), some (.int x1), some (.int x2), some (.int 0), some (.int 0)]) eX5_addRow_3 (Nat.le_of_ble_eq_true rfl) rfl).run ?_
  exact k1

set_option maxRecDepth 20000 in
theorem bX5_addRow_5 {d : Nat} {Q : Option Value → St → Prop} (o0 : Nat) (x1 : Int32) (x2 : Int32) (x3 : Int32) (x4 : Int32) (σ : St) (ho0 : kd o0 = 5) 
    (k1 : (σ.1 o0 0) ≤ x4 → Ct yX6_addRow MX6_addRow (d + 2) [.ref o0, .int x3] σ (fun v σ1 => Run MX5_addRow (d + 3) 42 [none, none, none, none, none] (v.toList ++ []) σ1 Q))
    (k2 : x4 < (σ.1 o0 0) → Ct yX5_hasCell MX5_hasCell (d + 2) [.int x1, .int x2, .int x4] σ (fun v σ1 => Run MX5_addRow (d + 3) 21 [some (.ref o0), some (.int x1), some (.int x2), some (.int x3), some (.int x4)] (v.toList ++ []) σ1 Q))
    : Run MX5_addRow (d + 3) 5 [some (.ref o0), some (.int x1), some (.int x2), some (.int x3), some (.int x4)] [] σ Q := by
  refine (go_iload 4 eX5_addRow_5 rfl).run ?_
  refine (go_aload_n 0 eX5_addRow_7 rfl rfl).run ?_
  refine (go_geti flX5_32 rf_5_0 ho0 eX5_addRow_8).run ?_
  refine (bi_ge 37 eX5_addRow_11 rfl).run (fun h1 => ?_) (fun h1 => ?_)
  · refine (go_aload_n 0 eX5_addRow_37 rfl rfl).run ?_
    refine (go_iload_n 3 eX5_addRow_38 rfl rfl).run ?_
    refine (go_sub (L' := [none, none, none, none, none]) (lsub_drop (lsub_drop (lsub_drop (lsub_drop (lsub_drop lsub_nil)))))).run ?_
    exact Run.callV (d := (d + 2)) (As := [.int x3]) mX6_addRow lkX5_40 ho0 (by decide) rfl rfl rfl rfl rfl (Nat.le_of_ble_eq_true rfl) eX5_addRow_39 (k1 h1)
  · refine (go_iload_n 1 eX5_addRow_14 rfl rfl).run ?_
    refine (go_iload_n 2 eX5_addRow_15 rfl rfl).run ?_
    refine (go_iload 4 eX5_addRow_16 rfl).run ?_
    exact Run.callS (d := (d + 2)) (As := [.int x1, .int x2, .int x4]) mX5_hasCell lkX5_36 rfl rfl rfl (Nat.le_of_ble_eq_true rfl) eX5_addRow_18 (k2 h1)

set_option maxRecDepth 20000 in
theorem bX5_addRow_42 {d : Nat} {Q : Option Value → St → Prop} (σ : St) 
    (k1 : Q (none) σ)
    : Run MX5_addRow (d + 3) 42 [none, none, none, none, none] [] σ Q := by
  exact Run.ret (v := none) k1 ⟨rfl, eX5_addRow_42⟩ rfl

set_option maxRecDepth 20000 in
theorem bX5_addRow_21 {d : Nat} {Q : Option Value → St → Prop} (o0 : Nat) (x1 : Int32) (x2 : Int32) (x3 : Int32) (x4 : Int32) (s0 : Int32) (σ : St) (ho0 : kd o0 = 5) 
    (k1 : Run MX5_addRow (d + 3) 5 [some (.ref o0), some (.int x1), some (.int x2), some (.int (if s0 = 0 then x3 else (x3 ||| ((1 : Int32) <<< (x4 &&& 31))))), some (.int (x4 + 1))] [] σ Q)
    : Run MX5_addRow (d + 3) 21 [some (.ref o0), some (.int x1), some (.int x2), some (.int x3), some (.int x4)] [.int s0] σ Q := by
  have hJh1 : Run MX5_addRow (d + 3) 31 [some (.ref o0), some (.int x1), some (.int x2), some (.int (if s0 = 0 then x3 else (x3 ||| ((1 : Int32) <<< (x4 &&& 31))))), some (.int x4)] [] σ Q := by
    refine (go_iinc 4 (v := (x4 + 1)) (L' := [some (.ref o0), some (.int x1), some (.int x2), some (.int (if s0 = 0 then x3 else (x3 ||| ((1 : Int32) <<< (x4 &&& 31))))), some (.int (x4 + 1))]) eX5_addRow_31 rfl rfl (Nat.le_of_ble_eq_true rfl) rfl).run ?_
    refine (go_goto 5 eX5_addRow_34 rfl).run ?_
    exact k1
  refine (bz_eq 31 eX5_addRow_21 rfl).run (fun h1 => ?_) (fun h1 => ?_)
  · first | exact hJh1 | (simp only [if_pos h1] at hJh1; exact hJh1) | (simp only [eq_true h1, not_true_eq_false, true_and, and_true, false_and, and_false, true_or, or_true, false_or, or_false, not_true_eq_false, not_false_eq_true] at hJh1; exact hJh1) | exact Run.eq (by simp [eq_true h1, not_true_eq_false, bI]) (by simp [eq_true h1, not_true_eq_false, bI]) rfl hJh1
  · refine (go_iload_n 3 eX5_addRow_24 rfl rfl).run ?_
    refine (go_iconst (v := 1) eX5_addRow_25 rfl).run ?_
    refine (go_iload 4 eX5_addRow_26 rfl).run ?_
    refine (go_ishl eX5_addRow_28).run ?_
    refine (go_ior eX5_addRow_29).run ?_
    refine (go_istore_n 3 (L' := [some (.ref o0), some (.int x1), some (.int x2), some (.int (x3 ||| ((1 : Int32) <<< (x4 &&& 31)))), some (.int x4)]) eX5_addRow_30 rfl (Nat.le_of_ble_eq_true rfl) rfl).run ?_
    first | exact hJh1 | (simp only [if_neg (h1)] at hJh1; exact hJh1) | (simp only [eq_false h1, not_false_eq_true, true_and, and_true, false_and, and_false, true_or, or_true, false_or, or_false, not_true_eq_false, not_false_eq_true] at hJh1; exact hJh1) | exact Run.eq (by simp [eq_false h1, not_false_eq_true, bI]) (by simp [eq_false h1, not_false_eq_true, bI]) rfl hJh1

/-! CarryNets$Laws.oneByOne -/
theorem eX5_oneByOne_0 : decode MX5_oneByOne.2.1 0 = .ok (.iconst 0, 1) := by decide +kernel
theorem eX5_oneByOne_1 : decode MX5_oneByOne.2.1 1 = .ok (.istore_n 1, 1) := by decide +kernel
theorem eX5_oneByOne_2 : decode MX5_oneByOne.2.1 2 = .ok (.iload_n 1, 1) := by decide +kernel
theorem eX5_oneByOne_3 : decode MX5_oneByOne.2.1 3 = .ok (.iconst 1, 1) := by decide +kernel
theorem eX5_oneByOne_4 : decode MX5_oneByOne.2.1 4 = .ok (.iadd, 1) := by decide +kernel
theorem eX5_oneByOne_5 : decode MX5_oneByOne.2.1 5 = .ok (.aload_n 0, 1) := by decide +kernel
theorem eX5_oneByOne_6 : decode MX5_oneByOne.2.1 6 = .ok (.getfield 32, 3) := by decide +kernel
theorem eX5_oneByOne_9 : decode MX5_oneByOne.2.1 9 = .ok (.if_icmp .ge 15, 3) := by decide +kernel
theorem eX5_oneByOne_12 : decode MX5_oneByOne.2.1 12 = .ok (.aload_n 0, 1) := by decide +kernel
theorem eX5_oneByOne_13 : decode MX5_oneByOne.2.1 13 = .ok (.iconst 0, 1) := by decide +kernel
theorem eX5_oneByOne_14 : decode MX5_oneByOne.2.1 14 = .ok (.iload_n 1, 1) := by decide +kernel
theorem eX5_oneByOne_15 : decode MX5_oneByOne.2.1 15 = .ok (.invokestatic 28, 3) := by decide +kernel
theorem eX5_oneByOne_18 : decode MX5_oneByOne.2.1 18 = .ok (.iinc 1 1, 3) := by decide +kernel
theorem eX5_oneByOne_21 : decode MX5_oneByOne.2.1 21 = .ok (.goto (-19), 3) := by decide +kernel
theorem eX5_oneByOne_24 : decode MX5_oneByOne.2.1 24 = .ok (.return_, 1) := by decide +kernel
set_option maxRecDepth 20000 in
theorem bX5_oneByOne_0 {d : Nat} {Q : Option Value → St → Prop} (o0 : Nat) (σ : St) (ho0 : kd o0 = 5) 
    (k1 : Run MX5_oneByOne (d + 4) 2 [some (.ref o0), some (.int 0)] [] σ Q)
    : Run MX5_oneByOne (d + 4) 0 [some (.ref o0), none] [] σ Q := by
  refine (go_iconst (v := 0) eX5_oneByOne_0 rfl).run ?_
  refine (go_istore_n 1 (L' := [some (.ref o0), some (.int 0)]) eX5_oneByOne_1 rfl (Nat.le_of_ble_eq_true rfl) rfl).run ?_
  exact k1

set_option maxRecDepth 20000 in
theorem bX5_oneByOne_2 {d : Nat} {Q : Option Value → St → Prop} (o0 : Nat) (x1 : Int32) (σ : St) (ho0 : kd o0 = 5) 
    (k1 : (σ.1 o0 0) ≤ (x1 + 1) → Q (none) σ)
    (k2 : (x1 + 1) < (σ.1 o0 0) → Ct yX5_addRow MX5_addRow (d + 3) [.ref o0, .int 0, .int x1] σ (fun v σ1 => Run MX5_oneByOne (d + 4) 18 [some (.ref o0), some (.int x1)] (v.toList ++ []) σ1 Q))
    : Run MX5_oneByOne (d + 4) 2 [some (.ref o0), some (.int x1)] [] σ Q := by
  refine (go_iload_n 1 eX5_oneByOne_2 rfl rfl).run ?_
  refine (go_iconst (v := 1) eX5_oneByOne_3 rfl).run ?_
  refine (go_iadd eX5_oneByOne_4).run ?_
  refine (go_aload_n 0 eX5_oneByOne_5 rfl rfl).run ?_
  refine (go_geti flX5_32 rf_5_0 ho0 eX5_oneByOne_6).run ?_
  refine (bi_ge 24 eX5_oneByOne_9 rfl).run (fun h1 => ?_) (fun h1 => ?_)
  · exact Run.ret (v := none) (k1 h1) ⟨rfl, eX5_oneByOne_24⟩ rfl
  · refine (go_aload_n 0 eX5_oneByOne_12 rfl rfl).run ?_
    refine (go_iconst (v := 0) eX5_oneByOne_13 rfl).run ?_
    refine (go_iload_n 1 eX5_oneByOne_14 rfl rfl).run ?_
    exact Run.callS (d := (d + 3)) (As := [.ref o0, .int 0, .int x1]) mX5_addRow lkX5_28 rfl rfl rfl (Nat.le_of_ble_eq_true rfl) eX5_oneByOne_15 (k2 h1)

set_option maxRecDepth 20000 in
theorem bX5_oneByOne_18 {d : Nat} {Q : Option Value → St → Prop} (o0 : Nat) (x1 : Int32) (σ : St) (ho0 : kd o0 = 5) 
    (k1 : Run MX5_oneByOne (d + 4) 2 [some (.ref o0), some (.int (x1 + 1))] [] σ Q)
    : Run MX5_oneByOne (d + 4) 18 [some (.ref o0), some (.int x1)] [] σ Q := by
  refine (go_iinc 1 (v := (x1 + 1)) (L' := [some (.ref o0), some (.int (x1 + 1))]) eX5_oneByOne_18 rfl rfl (Nat.le_of_ble_eq_true rfl) rfl).run ?_
  refine (go_goto 2 eX5_oneByOne_21 rfl).run ?_
  exact k1

/-! CarryNets$Laws.doubling -/
theorem eX5_doubling_0 : decode MX5_doubling.2.1 0 = .ok (.iconst 0, 1) := by decide +kernel
theorem eX5_doubling_1 : decode MX5_doubling.2.1 1 = .ok (.istore_n 2, 1) := by decide +kernel
theorem eX5_doubling_2 : decode MX5_doubling.2.1 2 = .ok (.iload_n 2, 1) := by decide +kernel
theorem eX5_doubling_3 : decode MX5_doubling.2.1 3 = .ok (.iconst 5, 1) := by decide +kernel
theorem eX5_doubling_4 : decode MX5_doubling.2.1 4 = .ok (.if_icmp .ge 25, 3) := by decide +kernel
theorem eX5_doubling_7 : decode MX5_doubling.2.1 7 = .ok (.iconst 1, 1) := by decide +kernel
theorem eX5_doubling_8 : decode MX5_doubling.2.1 8 = .ok (.iload_n 2, 1) := by decide +kernel
theorem eX5_doubling_9 : decode MX5_doubling.2.1 9 = .ok (.ishl, 1) := by decide +kernel
theorem eX5_doubling_10 : decode MX5_doubling.2.1 10 = .ok (.aload_n 0, 1) := by decide +kernel
theorem eX5_doubling_11 : decode MX5_doubling.2.1 11 = .ok (.getfield 32, 3) := by decide +kernel
theorem eX5_doubling_14 : decode MX5_doubling.2.1 14 = .ok (.if_icmp .ge 15, 3) := by decide +kernel
theorem eX5_doubling_17 : decode MX5_doubling.2.1 17 = .ok (.aload_n 0, 1) := by decide +kernel
theorem eX5_doubling_18 : decode MX5_doubling.2.1 18 = .ok (.iload_n 1, 1) := by decide +kernel
theorem eX5_doubling_19 : decode MX5_doubling.2.1 19 = .ok (.iload_n 2, 1) := by decide +kernel
theorem eX5_doubling_20 : decode MX5_doubling.2.1 20 = .ok (.invokestatic 28, 3) := by decide +kernel
theorem eX5_doubling_23 : decode MX5_doubling.2.1 23 = .ok (.iinc 2 1, 3) := by decide +kernel
theorem eX5_doubling_26 : decode MX5_doubling.2.1 26 = .ok (.goto (-24), 3) := by decide +kernel
theorem eX5_doubling_29 : decode MX5_doubling.2.1 29 = .ok (.return_, 1) := by decide +kernel
set_option maxRecDepth 20000 in
theorem bX5_doubling_0 {d : Nat} {Q : Option Value → St → Prop} (o0 : Nat) (x1 : Int32) (σ : St) (ho0 : kd o0 = 5) 
    (k1 : Run MX5_doubling (d + 4) 2 [some (.ref o0), some (.int x1), some (.int 0)] [] σ Q)
    : Run MX5_doubling (d + 4) 0 [some (.ref o0), some (.int x1), none] [] σ Q := by
  refine (go_iconst (v := 0) eX5_doubling_0 rfl).run ?_
  refine (go_istore_n 2 (L' := [some (.ref o0), some (.int x1), some (.int 0)]) eX5_doubling_1 rfl (Nat.le_of_ble_eq_true rfl) rfl).run ?_
  exact k1

set_option maxRecDepth 20000 in
theorem bX5_doubling_2 {d : Nat} {Q : Option Value → St → Prop} (o0 : Nat) (x1 : Int32) (x2 : Int32) (σ : St) (ho0 : kd o0 = 5) 
    (k1 : (5 : Int32) ≤ x2 → Q (none) σ)
    (k2 : x2 < 5 → (σ.1 o0 0) ≤ ((1 : Int32) <<< (x2 &&& 31)) → Q (none) σ)
    (k3 : x2 < 5 → ((1 : Int32) <<< (x2 &&& 31)) < (σ.1 o0 0) → Ct yX5_addRow MX5_addRow (d + 3) [.ref o0, .int x1, .int x2] σ (fun v σ1 => Run MX5_doubling (d + 4) 23 [some (.ref o0), some (.int x1), some (.int x2)] (v.toList ++ []) σ1 Q))
    : Run MX5_doubling (d + 4) 2 [some (.ref o0), some (.int x1), some (.int x2)] [] σ Q := by
  refine (go_iload_n 2 eX5_doubling_2 rfl rfl).run ?_
  refine (go_iconst (v := 5) eX5_doubling_3 rfl).run ?_
  refine (bi_ge 29 eX5_doubling_4 rfl).run (fun h1 => ?_) (fun h1 => ?_)
  · exact Run.ret (v := none) (k1 h1) ⟨rfl, eX5_doubling_29⟩ rfl
  · refine (go_iconst (v := 1) eX5_doubling_7 rfl).run ?_
    refine (go_iload_n 2 eX5_doubling_8 rfl rfl).run ?_
    refine (go_ishl eX5_doubling_9).run ?_
    refine (go_aload_n 0 eX5_doubling_10 rfl rfl).run ?_
    refine (go_geti flX5_32 rf_5_0 ho0 eX5_doubling_11).run ?_
    refine (bi_ge 29 eX5_doubling_14 rfl).run (fun h2 => ?_) (fun h2 => ?_)
    · exact Run.ret (v := none) (k2 h1 h2) ⟨rfl, eX5_doubling_29⟩ rfl
    · refine (go_aload_n 0 eX5_doubling_17 rfl rfl).run ?_
      refine (go_iload_n 1 eX5_doubling_18 rfl rfl).run ?_
      refine (go_iload_n 2 eX5_doubling_19 rfl rfl).run ?_
      exact Run.callS (d := (d + 3)) (As := [.ref o0, .int x1, .int x2]) mX5_addRow lkX5_28 rfl rfl rfl (Nat.le_of_ble_eq_true rfl) eX5_doubling_20 (k3 h1 h2)

set_option maxRecDepth 20000 in
theorem bX5_doubling_23 {d : Nat} {Q : Option Value → St → Prop} (o0 : Nat) (x1 : Int32) (x2 : Int32) (σ : St) (ho0 : kd o0 = 5) 
    (k1 : Run MX5_doubling (d + 4) 2 [some (.ref o0), some (.int x1), some (.int (x2 + 1))] [] σ Q)
    : Run MX5_doubling (d + 4) 23 [some (.ref o0), some (.int x1), some (.int x2)] [] σ Q := by
  refine (go_iinc 2 (v := (x2 + 1)) (L' := [some (.ref o0), some (.int x1), some (.int (x2 + 1))]) eX5_doubling_23 rfl rfl (Nat.le_of_ble_eq_true rfl) rfl).run ?_
  refine (go_goto 2 eX5_doubling_26 rfl).run ?_
  exact k1

/-! CarryNets$Laws.upAndDown -/
theorem eX5_upAndDown_0 : decode MX5_upAndDown.2.1 0 = .ok (.iconst 0, 1) := by decide +kernel
theorem eX5_upAndDown_1 : decode MX5_upAndDown.2.1 1 = .ok (.istore_n 1, 1) := by decide +kernel
theorem eX5_upAndDown_2 : decode MX5_upAndDown.2.1 2 = .ok (.iconst 0, 1) := by decide +kernel
theorem eX5_upAndDown_3 : decode MX5_upAndDown.2.1 3 = .ok (.istore_n 2, 1) := by decide +kernel
theorem eX5_upAndDown_4 : decode MX5_upAndDown.2.1 4 = .ok (.iload_n 2, 1) := by decide +kernel
theorem eX5_upAndDown_5 : decode MX5_upAndDown.2.1 5 = .ok (.iconst 5, 1) := by decide +kernel
theorem eX5_upAndDown_6 : decode MX5_upAndDown.2.1 6 = .ok (.if_icmp .ge 28, 3) := by decide +kernel
theorem eX5_upAndDown_9 : decode MX5_upAndDown.2.1 9 = .ok (.iconst 2, 1) := by decide +kernel
theorem eX5_upAndDown_10 : decode MX5_upAndDown.2.1 10 = .ok (.iload_n 2, 1) := by decide +kernel
theorem eX5_upAndDown_11 : decode MX5_upAndDown.2.1 11 = .ok (.ishl, 1) := by decide +kernel
theorem eX5_upAndDown_12 : decode MX5_upAndDown.2.1 12 = .ok (.aload_n 0, 1) := by decide +kernel
theorem eX5_upAndDown_13 : decode MX5_upAndDown.2.1 13 = .ok (.getfield 32, 3) := by decide +kernel
theorem eX5_upAndDown_16 : decode MX5_upAndDown.2.1 16 = .ok (.if_icmp .gt 18, 3) := by decide +kernel
theorem eX5_upAndDown_19 : decode MX5_upAndDown.2.1 19 = .ok (.aload_n 0, 1) := by decide +kernel
theorem eX5_upAndDown_20 : decode MX5_upAndDown.2.1 20 = .ok (.iconst 3, 1) := by decide +kernel
theorem eX5_upAndDown_21 : decode MX5_upAndDown.2.1 21 = .ok (.iload_n 2, 1) := by decide +kernel
theorem eX5_upAndDown_22 : decode MX5_upAndDown.2.1 22 = .ok (.invokestatic 28, 3) := by decide +kernel
theorem eX5_upAndDown_25 : decode MX5_upAndDown.2.1 25 = .ok (.iinc 1 1, 3) := by decide +kernel
theorem eX5_upAndDown_28 : decode MX5_upAndDown.2.1 28 = .ok (.iinc 2 1, 3) := by decide +kernel
theorem eX5_upAndDown_31 : decode MX5_upAndDown.2.1 31 = .ok (.goto (-27), 3) := by decide +kernel
theorem eX5_upAndDown_34 : decode MX5_upAndDown.2.1 34 = .ok (.iload_n 1, 1) := by decide +kernel
theorem eX5_upAndDown_35 : decode MX5_upAndDown.2.1 35 = .ok (.iconst 1, 1) := by decide +kernel
theorem eX5_upAndDown_36 : decode MX5_upAndDown.2.1 36 = .ok (.isub, 1) := by decide +kernel
theorem eX5_upAndDown_37 : decode MX5_upAndDown.2.1 37 = .ok (.istore_n 2, 1) := by decide +kernel
theorem eX5_upAndDown_38 : decode MX5_upAndDown.2.1 38 = .ok (.iload_n 2, 1) := by decide +kernel
theorem eX5_upAndDown_39 : decode MX5_upAndDown.2.1 39 = .ok (.ifCond .lt 15, 3) := by decide +kernel
theorem eX5_upAndDown_42 : decode MX5_upAndDown.2.1 42 = .ok (.aload_n 0, 1) := by decide +kernel
theorem eX5_upAndDown_43 : decode MX5_upAndDown.2.1 43 = .ok (.iconst 4, 1) := by decide +kernel
theorem eX5_upAndDown_44 : decode MX5_upAndDown.2.1 44 = .ok (.iload_n 2, 1) := by decide +kernel
theorem eX5_upAndDown_45 : decode MX5_upAndDown.2.1 45 = .ok (.invokestatic 28, 3) := by decide +kernel
theorem eX5_upAndDown_48 : decode MX5_upAndDown.2.1 48 = .ok (.iinc 2 (-1), 3) := by decide +kernel
theorem eX5_upAndDown_51 : decode MX5_upAndDown.2.1 51 = .ok (.goto (-13), 3) := by decide +kernel
theorem eX5_upAndDown_54 : decode MX5_upAndDown.2.1 54 = .ok (.return_, 1) := by decide +kernel
set_option maxRecDepth 20000 in
theorem bX5_upAndDown_0 {d : Nat} {Q : Option Value → St → Prop} (o0 : Nat) (σ : St) (ho0 : kd o0 = 5) 
    (k1 : Run MX5_upAndDown (d + 4) 4 [some (.ref o0), some (.int 0), some (.int 0)] [] σ Q)
    : Run MX5_upAndDown (d + 4) 0 [some (.ref o0), none, none] [] σ Q := by
  refine (go_iconst (v := 0) eX5_upAndDown_0 rfl).run ?_
  refine (go_istore_n 1 (L' := [some (.ref o0), some (.int 0), none]) eX5_upAndDown_1 rfl (Nat.le_of_ble_eq_true rfl) rfl).run ?_
  refine (go_iconst (v := 0) eX5_upAndDown_2 rfl).run ?_
  refine (go_istore_n 2 (L' := [some (.ref o0), some (.int 0), some (.int 0)]) eX5_upAndDown_3 rfl (Nat.le_of_ble_eq_true rfl) rfl).run ?_
  exact k1

set_option maxRecDepth 20000 in
theorem bX5_upAndDown_4 {d : Nat} {Q : Option Value → St → Prop} (o0 : Nat) (x1 : Int32) (x2 : Int32) (σ : St) (ho0 : kd o0 = 5) 
    (k1 : (5 : Int32) ≤ x2 → Run MX5_upAndDown (d + 4) 38 [some (.ref o0), none, some (.int (x1 - 1))] [] σ Q)
    (k2 : x2 < 5 → (σ.1 o0 0) < ((2 : Int32) <<< (x2 &&& 31)) → Run MX5_upAndDown (d + 4) 38 [some (.ref o0), none, some (.int (x1 - 1))] [] σ Q)
    (k3 : x2 < 5 → ((2 : Int32) <<< (x2 &&& 31)) ≤ (σ.1 o0 0) → Ct yX5_addRow MX5_addRow (d + 3) [.ref o0, .int 3, .int x2] σ (fun v σ1 => Run MX5_upAndDown (d + 4) 25 [some (.ref o0), some (.int x1), some (.int x2)] (v.toList ++ []) σ1 Q))
    : Run MX5_upAndDown (d + 4) 4 [some (.ref o0), some (.int x1), some (.int x2)] [] σ Q := by
  refine (go_iload_n 2 eX5_upAndDown_4 rfl rfl).run ?_
  refine (go_iconst (v := 5) eX5_upAndDown_5 rfl).run ?_
  refine (bi_ge 34 eX5_upAndDown_6 rfl).run (fun h1 => ?_) (fun h1 => ?_)
  · refine (go_iload_n 1 eX5_upAndDown_34 rfl rfl).run ?_
    refine (go_iconst (v := 1) eX5_upAndDown_35 rfl).run ?_
    refine (go_isub eX5_upAndDown_36).run ?_
    refine (go_istore_n 2 (L' := [some (.ref o0), some (.int x1), some (.int (x1 - 1))]) eX5_upAndDown_37 rfl (Nat.le_of_ble_eq_true rfl) rfl).run ?_
    refine (go_sub (L' := [some (.ref o0), none, some (.int (x1 - 1))]) (lsub_keep (lsub_drop (lsub_keep lsub_nil)))).run ?_
    exact (k1 h1)
  · refine (go_iconst (v := 2) eX5_upAndDown_9 rfl).run ?_
    refine (go_iload_n 2 eX5_upAndDown_10 rfl rfl).run ?_
    refine (go_ishl eX5_upAndDown_11).run ?_
    refine (go_aload_n 0 eX5_upAndDown_12 rfl rfl).run ?_
    refine (go_geti flX5_32 rf_5_0 ho0 eX5_upAndDown_13).run ?_
    refine (bi_gt 34 eX5_upAndDown_16 rfl).run (fun h2 => ?_) (fun h2 => ?_)
    · refine (go_iload_n 1 eX5_upAndDown_34 rfl rfl).run ?_
      refine (go_iconst (v := 1) eX5_upAndDown_35 rfl).run ?_
      refine (go_isub eX5_upAndDown_36).run ?_
      refine (go_istore_n 2 (L' := [some (.ref o0), some (.int x1), some (.int (x1 - 1))]) eX5_upAndDown_37 rfl (Nat.le_of_ble_eq_true rfl) rfl).run ?_
      refine (go_sub (L' := [some (.ref o0), none, some (.int (x1 - 1))]) (lsub_keep (lsub_drop (lsub_keep lsub_nil)))).run ?_
      exact (k2 h1 h2)
    · refine (go_aload_n 0 eX5_upAndDown_19 rfl rfl).run ?_
      refine (go_iconst (v := 3) eX5_upAndDown_20 rfl).run ?_
      refine (go_iload_n 2 eX5_upAndDown_21 rfl rfl).run ?_
      exact Run.callS (d := (d + 3)) (As := [.ref o0, .int 3, .int x2]) mX5_addRow lkX5_28 rfl rfl rfl (Nat.le_of_ble_eq_true rfl) eX5_upAndDown_22 (k3 h1 h2)

set_option maxRecDepth 20000 in
theorem bX5_upAndDown_38 {d : Nat} {Q : Option Value → St → Prop} (o0 : Nat) (x2 : Int32) (σ : St) (ho0 : kd o0 = 5) 
    (k1 : x2 < 0 → Q (none) σ)
    (k2 : (0 : Int32) ≤ x2 → Ct yX5_addRow MX5_addRow (d + 3) [.ref o0, .int 4, .int x2] σ (fun v σ1 => Run MX5_upAndDown (d + 4) 48 [some (.ref o0), none, some (.int x2)] (v.toList ++ []) σ1 Q))
    : Run MX5_upAndDown (d + 4) 38 [some (.ref o0), none, some (.int x2)] [] σ Q := by
  refine (go_iload_n 2 eX5_upAndDown_38 rfl rfl).run ?_
  refine (bz_lt 54 eX5_upAndDown_39 rfl).run (fun h1 => ?_) (fun h1 => ?_)
  · exact Run.ret (v := none) (k1 h1) ⟨rfl, eX5_upAndDown_54⟩ rfl
  · refine (go_aload_n 0 eX5_upAndDown_42 rfl rfl).run ?_
    refine (go_iconst (v := 4) eX5_upAndDown_43 rfl).run ?_
    refine (go_iload_n 2 eX5_upAndDown_44 rfl rfl).run ?_
    exact Run.callS (d := (d + 3)) (As := [.ref o0, .int 4, .int x2]) mX5_addRow lkX5_28 rfl rfl rfl (Nat.le_of_ble_eq_true rfl) eX5_upAndDown_45 (k2 h1)

set_option maxRecDepth 20000 in
theorem bX5_upAndDown_25 {d : Nat} {Q : Option Value → St → Prop} (o0 : Nat) (x1 : Int32) (x2 : Int32) (σ : St) (ho0 : kd o0 = 5) 
    (k1 : Run MX5_upAndDown (d + 4) 4 [some (.ref o0), some (.int (x1 + 1)), some (.int (x2 + 1))] [] σ Q)
    : Run MX5_upAndDown (d + 4) 25 [some (.ref o0), some (.int x1), some (.int x2)] [] σ Q := by
  refine (go_iinc 1 (v := (x1 + 1)) (L' := [some (.ref o0), some (.int (x1 + 1)), some (.int x2)]) eX5_upAndDown_25 rfl rfl (Nat.le_of_ble_eq_true rfl) rfl).run ?_
  refine (go_iinc 2 (v := (x2 + 1)) (L' := [some (.ref o0), some (.int (x1 + 1)), some (.int (x2 + 1))]) eX5_upAndDown_28 rfl rfl (Nat.le_of_ble_eq_true rfl) rfl).run ?_
  refine (go_goto 4 eX5_upAndDown_31 rfl).run ?_
  exact k1

set_option maxRecDepth 20000 in
theorem bX5_upAndDown_48 {d : Nat} {Q : Option Value → St → Prop} (o0 : Nat) (x2 : Int32) (σ : St) (ho0 : kd o0 = 5) 
    (k1 : Run MX5_upAndDown (d + 4) 38 [some (.ref o0), none, some (.int (x2 + (-1)))] [] σ Q)
    : Run MX5_upAndDown (d + 4) 48 [some (.ref o0), none, some (.int x2)] [] σ Q := by
  refine (go_iinc 2 (v := (x2 + (-1))) (L' := [some (.ref o0), none, some (.int (x2 + (-1)))]) eX5_upAndDown_48 rfl rfl (Nat.le_of_ble_eq_true rfl) rfl).run ?_
  refine (go_goto 38 eX5_upAndDown_51 rfl).run ?_
  exact k1

/-! CarryNets$Laws.fill -/
theorem eX5_fill_0 : decode MX5_fill.2.1 0 = .ok (.aload_n 0, 1) := by decide +kernel
theorem eX5_fill_1 : decode MX5_fill.2.1 1 = .ok (.iload_n 1, 1) := by decide +kernel
theorem eX5_fill_2 : decode MX5_fill.2.1 2 = .ok (.invokevirtual 9, 3) := by decide +kernel
theorem eX5_fill_5 : decode MX5_fill.2.1 5 = .ok (.iload_n 2, 1) := by decide +kernel
theorem eX5_fill_6 : decode MX5_fill.2.1 6 = .ok (.tableswitch 60 0 3 #[30, 37, 45, 53], 30) := by decide +kernel
theorem eX5_fill_36 : decode MX5_fill.2.1 36 = .ok (.aload_n 0, 1) := by decide +kernel
theorem eX5_fill_37 : decode MX5_fill.2.1 37 = .ok (.invokestatic 15, 3) := by decide +kernel
theorem eX5_fill_40 : decode MX5_fill.2.1 40 = .ok (.goto 38, 3) := by decide +kernel
theorem eX5_fill_43 : decode MX5_fill.2.1 43 = .ok (.aload_n 0, 1) := by decide +kernel
theorem eX5_fill_44 : decode MX5_fill.2.1 44 = .ok (.iconst 1, 1) := by decide +kernel
theorem eX5_fill_45 : decode MX5_fill.2.1 45 = .ok (.invokestatic 21, 3) := by decide +kernel
theorem eX5_fill_48 : decode MX5_fill.2.1 48 = .ok (.goto 30, 3) := by decide +kernel
theorem eX5_fill_51 : decode MX5_fill.2.1 51 = .ok (.aload_n 0, 1) := by decide +kernel
theorem eX5_fill_52 : decode MX5_fill.2.1 52 = .ok (.iconst 2, 1) := by decide +kernel
theorem eX5_fill_53 : decode MX5_fill.2.1 53 = .ok (.invokestatic 21, 3) := by decide +kernel
theorem eX5_fill_56 : decode MX5_fill.2.1 56 = .ok (.goto 22, 3) := by decide +kernel
theorem eX5_fill_59 : decode MX5_fill.2.1 59 = .ok (.aload_n 0, 1) := by decide +kernel
theorem eX5_fill_60 : decode MX5_fill.2.1 60 = .ok (.invokestatic 25, 3) := by decide +kernel
theorem eX5_fill_63 : decode MX5_fill.2.1 63 = .ok (.goto 15, 3) := by decide +kernel
theorem eX5_fill_66 : decode MX5_fill.2.1 66 = .ok (.aload_n 0, 1) := by decide +kernel
theorem eX5_fill_67 : decode MX5_fill.2.1 67 = .ok (.iconst 5, 1) := by decide +kernel
theorem eX5_fill_68 : decode MX5_fill.2.1 68 = .ok (.invokestatic 21, 3) := by decide +kernel
theorem eX5_fill_71 : decode MX5_fill.2.1 71 = .ok (.aload_n 0, 1) := by decide +kernel
theorem eX5_fill_72 : decode MX5_fill.2.1 72 = .ok (.bipush 6, 2) := by decide +kernel
theorem eX5_fill_74 : decode MX5_fill.2.1 74 = .ok (.iconst 0, 1) := by decide +kernel
theorem eX5_fill_75 : decode MX5_fill.2.1 75 = .ok (.invokestatic 28, 3) := by decide +kernel
theorem eX5_fill_78 : decode MX5_fill.2.1 78 = .ok (.return_, 1) := by decide +kernel
set_option maxRecDepth 20000 in
theorem bX5_fill_0 {d : Nat} {Q : Option Value → St → Prop} (o0 : Nat) (x1 : Int32) (x2 : Int32) (σ : St) (ho0 : kd o0 = 5) 
    (k1 : Ct yX6_begin MX6_begin (d + 4) [.ref o0, .int x1] σ (fun v σ1 => Run MX5_fill (d + 5) 5 [some (.ref o0), none, some (.int x2)] (v.toList ++ []) σ1 Q))
    : Run MX5_fill (d + 5) 0 [some (.ref o0), some (.int x1), some (.int x2)] [] σ Q := by
  refine (go_aload_n 0 eX5_fill_0 rfl rfl).run ?_
  refine (go_iload_n 1 eX5_fill_1 rfl rfl).run ?_
  refine (go_sub (L' := [some (.ref o0), none, some (.int x2)]) (lsub_keep (lsub_drop (lsub_keep lsub_nil)))).run ?_
  exact Run.callV (d := (d + 4)) (As := [.int x1]) mX6_begin lkX5_9 ho0 (by decide) rfl rfl rfl rfl rfl (Nat.le_of_ble_eq_true rfl) eX5_fill_2 k1

set_option maxRecDepth 20000 in
theorem bX5_fill_5 {d : Nat} {Q : Option Value → St → Prop} (o0 : Nat) (x2 : Int32) (σ : St) (ho0 : kd o0 = 5) 
    (k1 : x2 = 0 → Ct yX5_oneByOne MX5_oneByOne (d + 4) [.ref o0] σ (fun v σ1 => Run MX5_fill (d + 5) 40 [none, none, none] (v.toList ++ []) σ1 Q))
    (k2 : x2 = 1 → Ct yX5_doubling MX5_doubling (d + 4) [.ref o0, .int 1] σ (fun v σ1 => Run MX5_fill (d + 5) 48 [none, none, none] (v.toList ++ []) σ1 Q))
    (k3 : x2 = 2 → Ct yX5_doubling MX5_doubling (d + 4) [.ref o0, .int 2] σ (fun v σ1 => Run MX5_fill (d + 5) 56 [none, none, none] (v.toList ++ []) σ1 Q))
    (k4 : x2 = 3 → Ct yX5_upAndDown MX5_upAndDown (d + 4) [.ref o0] σ (fun v σ1 => Run MX5_fill (d + 5) 63 [none, none, none] (v.toList ++ []) σ1 Q))
    (k5 : (x2.toInt < 0 ∨ 3 < x2.toInt) → Ct yX5_doubling MX5_doubling (d + 4) [.ref o0, .int 5] σ (fun v σ1 => Run MX5_fill (d + 5) 71 [some (.ref o0), none, none] (v.toList ++ []) σ1 Q))
    : Run MX5_fill (d + 5) 5 [some (.ref o0), none, some (.int x2)] [] σ Q := by
  refine (go_iload_n 2 eX5_fill_5 rfl rfl).run ?_
  by_cases h1 : x2 = 0
  · refine (go_tableIn 36 eX5_fill_6 (by rw [h1]; decide) (by rw [h1]; decide) (by rw [h1]; rfl) rfl).run ?_
    refine (go_aload_n 0 eX5_fill_36 rfl rfl).run ?_
    refine (go_sub (L' := [none, none, none]) (lsub_drop (lsub_keep (lsub_drop lsub_nil)))).run ?_
    exact Run.callS (d := (d + 4)) (As := [.ref o0]) mX5_oneByOne lkX5_15 rfl rfl rfl (Nat.le_of_ble_eq_true rfl) eX5_fill_37 (k1 h1)
  have nh1_0 := h1
  clear h1
  by_cases h1 : x2 = 1
  · refine (go_tableIn 43 eX5_fill_6 (by rw [h1]; decide) (by rw [h1]; decide) (by rw [h1]; rfl) rfl).run ?_
    refine (go_aload_n 0 eX5_fill_43 rfl rfl).run ?_
    refine (go_iconst (v := 1) eX5_fill_44 rfl).run ?_
    refine (go_sub (L' := [none, none, none]) (lsub_drop (lsub_keep (lsub_drop lsub_nil)))).run ?_
    exact Run.callS (d := (d + 4)) (As := [.ref o0, .int 1]) mX5_doubling lkX5_21 rfl rfl rfl (Nat.le_of_ble_eq_true rfl) eX5_fill_45 (k2 h1)
  have nh1_1 := h1
  clear h1
  by_cases h1 : x2 = 2
  · refine (go_tableIn 51 eX5_fill_6 (by rw [h1]; decide) (by rw [h1]; decide) (by rw [h1]; rfl) rfl).run ?_
    refine (go_aload_n 0 eX5_fill_51 rfl rfl).run ?_
    refine (go_iconst (v := 2) eX5_fill_52 rfl).run ?_
    refine (go_sub (L' := [none, none, none]) (lsub_drop (lsub_keep (lsub_drop lsub_nil)))).run ?_
    exact Run.callS (d := (d + 4)) (As := [.ref o0, .int 2]) mX5_doubling lkX5_21 rfl rfl rfl (Nat.le_of_ble_eq_true rfl) eX5_fill_53 (k3 h1)
  have nh1_2 := h1
  clear h1
  by_cases h1 : x2 = 3
  · refine (go_tableIn 59 eX5_fill_6 (by rw [h1]; decide) (by rw [h1]; decide) (by rw [h1]; rfl) rfl).run ?_
    refine (go_aload_n 0 eX5_fill_59 rfl rfl).run ?_
    refine (go_sub (L' := [none, none, none]) (lsub_drop (lsub_keep (lsub_drop lsub_nil)))).run ?_
    exact Run.callS (d := (d + 4)) (As := [.ref o0]) mX5_upAndDown lkX5_25 rfl rfl rfl (Nat.le_of_ble_eq_true rfl) eX5_fill_60 (k4 h1)
  have nh1_3 := h1
  clear h1
  have h1 : x2.toInt < 0 ∨ 3 < x2.toInt := by simp only [← Int32.toInt_inj] at nh1_0 nh1_1 nh1_2 nh1_3; simp at nh1_0 nh1_1 nh1_2 nh1_3; omega
  refine (go_tableOut 66 eX5_fill_6 h1 rfl).run ?_
  refine (go_aload_n 0 eX5_fill_66 rfl rfl).run ?_
  refine (go_iconst (v := 5) eX5_fill_67 rfl).run ?_
  refine (go_sub (L' := [some (.ref o0), none, none]) (lsub_keep (lsub_keep (lsub_drop lsub_nil)))).run ?_
  exact Run.callS (d := (d + 4)) (As := [.ref o0, .int 5]) mX5_doubling lkX5_21 rfl rfl rfl (Nat.le_of_ble_eq_true rfl) eX5_fill_68 (k5 h1)

set_option maxRecDepth 20000 in
theorem bX5_fill_40 {d : Nat} {Q : Option Value → St → Prop} (σ : St) 
    (k1 : Q (none) σ)
    : Run MX5_fill (d + 5) 40 [none, none, none] [] σ Q := by
  refine (go_goto 78 eX5_fill_40 rfl).run ?_
  exact Run.ret (v := none) k1 ⟨rfl, eX5_fill_78⟩ rfl

set_option maxRecDepth 20000 in
theorem bX5_fill_48 {d : Nat} {Q : Option Value → St → Prop} (σ : St) 
    (k1 : Q (none) σ)
    : Run MX5_fill (d + 5) 48 [none, none, none] [] σ Q := by
  refine (go_goto 78 eX5_fill_48 rfl).run ?_
  exact Run.ret (v := none) k1 ⟨rfl, eX5_fill_78⟩ rfl

set_option maxRecDepth 20000 in
theorem bX5_fill_56 {d : Nat} {Q : Option Value → St → Prop} (σ : St) 
    (k1 : Q (none) σ)
    : Run MX5_fill (d + 5) 56 [none, none, none] [] σ Q := by
  refine (go_goto 78 eX5_fill_56 rfl).run ?_
  exact Run.ret (v := none) k1 ⟨rfl, eX5_fill_78⟩ rfl

set_option maxRecDepth 20000 in
theorem bX5_fill_63 {d : Nat} {Q : Option Value → St → Prop} (σ : St) 
    (k1 : Q (none) σ)
    : Run MX5_fill (d + 5) 63 [none, none, none] [] σ Q := by
  refine (go_goto 78 eX5_fill_63 rfl).run ?_
  exact Run.ret (v := none) k1 ⟨rfl, eX5_fill_78⟩ rfl

set_option maxRecDepth 20000 in
theorem bX5_fill_71 {d : Nat} {Q : Option Value → St → Prop} (o0 : Nat) (σ : St) (ho0 : kd o0 = 5) 
    (k1 : Ct yX5_addRow MX5_addRow (d + 4) [.ref o0, .int 6, .int 0] σ (fun v σ1 => Run MX5_fill (d + 5) 78 [none, none, none] (v.toList ++ []) σ1 Q))
    : Run MX5_fill (d + 5) 71 [some (.ref o0), none, none] [] σ Q := by
  refine (go_aload_n 0 eX5_fill_71 rfl rfl).run ?_
  refine (go_bipush (v := 6) eX5_fill_72 rfl).run ?_
  refine (go_iconst (v := 0) eX5_fill_74 rfl).run ?_
  refine (go_sub (L' := [none, none, none]) (lsub_drop (lsub_keep (lsub_keep lsub_nil)))).run ?_
  exact Run.callS (d := (d + 4)) (As := [.ref o0, .int 6, .int 0]) mX5_addRow lkX5_28 rfl rfl rfl (Nat.le_of_ble_eq_true rfl) eX5_fill_75 k1

set_option maxRecDepth 20000 in
theorem bX5_fill_78 {d : Nat} {Q : Option Value → St → Prop} (σ : St) 
    (k1 : Q (none) σ)
    : Run MX5_fill (d + 5) 78 [none, none, none] [] σ Q := by
  exact Run.ret (v := none) k1 ⟨rfl, eX5_fill_78⟩ rfl

/-! CarryNets$Sheet.renew -/
theorem eX7_renew_0 : decode MX7_renew.2.1 0 = .ok (.aload_n 0, 1) := by decide +kernel
theorem eX7_renew_1 : decode MX7_renew.2.1 1 = .ok (.iload_n 1, 1) := by decide +kernel
theorem eX7_renew_2 : decode MX7_renew.2.1 2 = .ok (.putfield 9, 3) := by decide +kernel
theorem eX7_renew_5 : decode MX7_renew.2.1 5 = .ok (.aload_n 0, 1) := by decide +kernel
theorem eX7_renew_6 : decode MX7_renew.2.1 6 = .ok (.iload_n 2, 1) := by decide +kernel
theorem eX7_renew_7 : decode MX7_renew.2.1 7 = .ok (.putfield 19, 3) := by decide +kernel
theorem eX7_renew_10 : decode MX7_renew.2.1 10 = .ok (.iconst 0, 1) := by decide +kernel
theorem eX7_renew_11 : decode MX7_renew.2.1 11 = .ok (.istore_n 3, 1) := by decide +kernel
theorem eX7_renew_12 : decode MX7_renew.2.1 12 = .ok (.iload_n 3, 1) := by decide +kernel
theorem eX7_renew_13 : decode MX7_renew.2.1 13 = .ok (.aload_n 0, 1) := by decide +kernel
theorem eX7_renew_14 : decode MX7_renew.2.1 14 = .ok (.getfield 15, 3) := by decide +kernel
theorem eX7_renew_17 : decode MX7_renew.2.1 17 = .ok (.arraylength, 1) := by decide +kernel
theorem eX7_renew_18 : decode MX7_renew.2.1 18 = .ok (.if_icmp .ge 16, 3) := by decide +kernel
theorem eX7_renew_21 : decode MX7_renew.2.1 21 = .ok (.aload_n 0, 1) := by decide +kernel
theorem eX7_renew_22 : decode MX7_renew.2.1 22 = .ok (.getfield 15, 3) := by decide +kernel
theorem eX7_renew_25 : decode MX7_renew.2.1 25 = .ok (.iload_n 3, 1) := by decide +kernel
theorem eX7_renew_26 : decode MX7_renew.2.1 26 = .ok (.iconst 0, 1) := by decide +kernel
theorem eX7_renew_27 : decode MX7_renew.2.1 27 = .ok (.iastore, 1) := by decide +kernel
theorem eX7_renew_28 : decode MX7_renew.2.1 28 = .ok (.iinc 3 1, 3) := by decide +kernel
theorem eX7_renew_31 : decode MX7_renew.2.1 31 = .ok (.goto (-19), 3) := by decide +kernel
theorem eX7_renew_34 : decode MX7_renew.2.1 34 = .ok (.return_, 1) := by decide +kernel
set_option maxRecDepth 20000 in
theorem bX7_renew_0 {d : Nat} {Q : Option Value → St → Prop} (o : Nat) (x1 : Int32) (x2 : Int32) (σ : St) (ho : kd o = 6) 
    (k1 : Run MX7_renew d 12 [some (.ref o), none, none, some (.int 0)] [] (sA (sA σ o (upd (σ.1 o) 1 x1)) o (upd ((sA σ o (upd (σ.1 o) 1 x1)).1 o) 0 x2)) Q)
    : Run MX7_renew d 0 [some (.ref o), some (.int x1), some (.int x2), none] [] σ Q := by
  refine (go_aload_n 0 eX7_renew_0 rfl rfl).run ?_
  refine (go_iload_n 1 eX7_renew_1 rfl rfl).run ?_
  refine (go_puti flX7_9 rf_6_1 rfl pf_6_1 rfl rfl ho eX7_renew_2).run ?_
  refine (go_aload_n 0 eX7_renew_5 rfl rfl).run ?_
  refine (go_iload_n 2 eX7_renew_6 rfl rfl).run ?_
  refine (go_puti flX7_19 rf_6_0 rfl pf_6_0 rfl rfl ho eX7_renew_7).run ?_
  refine (go_iconst (v := 0) eX7_renew_10 rfl).run ?_
  refine (go_istore_n 3 (L' := [some (.ref o), some (.int x1), some (.int x2), some (.int 0)]) eX7_renew_11 rfl (Nat.le_of_ble_eq_true rfl) rfl).run ?_
  refine (go_sub (L' := [some (.ref o), none, none, some (.int 0)]) (lsub_keep (lsub_drop (lsub_drop (lsub_keep lsub_nil))))).run ?_
  exact k1

set_option maxRecDepth 20000 in
theorem bX7_renew_12 {d : Nat} {Q : Option Value → St → Prop} (o : Nat) (x3 : Int32) (σ : St) (ho : kd o = 6) 
    (g1 : x3 < 60 → vp_in x3 60)
    (k1 : (60 : Int32) ≤ x3 → Q (none) σ)
    (k2 : x3 < 60 → Run MX7_renew d 12 [some (.ref o), none, none, some (.int (x3 + 1))] [] (sA σ ((gr o 2)) (upd (σ.1 ((gr o 2))) x3.toNatClampNeg 0)) Q)
    : Run MX7_renew d 12 [some (.ref o), none, none, some (.int x3)] [] σ Q := by
  refine (go_iload_n 3 eX7_renew_12 rfl rfl).run ?_
  refine (go_aload_n 0 eX7_renew_13 rfl rfl).run ?_
  refine (go_getr (r := gr o 2) flX7_15 rf_6_2 ho rfl eX7_renew_14).run ?_
  refine (go_alen100 (v := 60) (kf_6_2 ho).1 (kf_6_2 ho).2 rfl eX7_renew_17).run ?_
  refine (bi_ge 34 eX7_renew_18 rfl).run (fun h1 => ?_) (fun h1 => ?_)
  · exact Run.ret (v := none) (k1 h1) ⟨rfl, eX7_renew_34⟩ rfl
  · refine (go_aload_n 0 eX7_renew_21 rfl rfl).run ?_
    refine (go_getr (r := gr o 2) flX7_15 rf_6_2 ho rfl eX7_renew_22).run ?_
    refine (go_iload_n 3 eX7_renew_25 rfl rfl).run ?_
    refine (go_iconst (v := 0) eX7_renew_26 rfl).run ?_
    refine (go_iast (kf_6_2 ho).1 (kf_6_2 ho).2 (g1 h1) eX7_renew_27).run ?_
    refine (go_iinc 3 (v := (x3 + 1)) (L' := [some (.ref o), none, none, some (.int (x3 + 1))]) eX7_renew_28 rfl rfl (Nat.le_of_ble_eq_true rfl) rfl).run ?_
    refine (go_goto 12 eX7_renew_31 rfl).run ?_
    exact (k2 h1)

/-! CarryNets$Sheet.isNothing -/
theorem eX7_isNothing_0 : decode MX7_isNothing.2.1 0 = .ok (.aload_n 0, 1) := by decide +kernel
theorem eX7_isNothing_1 : decode MX7_isNothing.2.1 1 = .ok (.getfield 9, 3) := by decide +kernel
theorem eX7_isNothing_4 : decode MX7_isNothing.2.1 4 = .ok (.bipush (-4), 2) := by decide +kernel
theorem eX7_isNothing_6 : decode MX7_isNothing.2.1 6 = .ok (.if_icmp .ne 7, 3) := by decide +kernel
theorem eX7_isNothing_9 : decode MX7_isNothing.2.1 9 = .ok (.iconst 1, 1) := by decide +kernel
theorem eX7_isNothing_10 : decode MX7_isNothing.2.1 10 = .ok (.goto 4, 3) := by decide +kernel
theorem eX7_isNothing_13 : decode MX7_isNothing.2.1 13 = .ok (.iconst 0, 1) := by decide +kernel
theorem eX7_isNothing_14 : decode MX7_isNothing.2.1 14 = .ok (.ireturn, 1) := by decide +kernel
set_option maxRecDepth 20000 in
theorem bX7_isNothing_0 {d : Nat} {Q : Option Value → St → Prop} (o : Nat) (σ : St) (ho : kd o = 6) 
    (k1 : Q (some (.int (bI ((σ.1 o 1) = (-4))))) σ)
    : Run MX7_isNothing d 0 [some (.ref o)] [] σ Q := by
  refine (go_aload_n 0 eX7_isNothing_0 rfl rfl).run ?_
  refine (go_geti flX7_9 rf_6_1 ho eX7_isNothing_1).run ?_
  refine (go_bipush (v := -4) eX7_isNothing_4 rfl).run ?_
  have hJh1 : Run MX7_isNothing d 14 [none] [.int (bI ((σ.1 o 1) = (-4)))] σ Q := by
    exact Run.ret (v := some (.int (bI ((σ.1 o 1) = (-4))))) k1 ⟨Or.inr ⟨rfl, bI_01⟩, eX7_isNothing_14⟩ rfl
  refine (bi_ne 13 eX7_isNothing_6 rfl).run (fun h1 => ?_) (fun h1 => ?_)
  · refine (go_iconst (v := 0) eX7_isNothing_13 rfl).run ?_
    refine (go_sub (L' := [none]) (lsub_drop lsub_nil)).run ?_
    first | exact hJh1 | (simp only [if_neg (h1)] at hJh1; exact hJh1) | (simp only [eq_false h1, not_false_eq_true, true_and, and_true, false_and, and_false, true_or, or_true, false_or, or_false, not_true_eq_false, not_false_eq_true] at hJh1; exact hJh1) | exact Run.eq (by simp [eq_false h1, not_false_eq_true, bI]) (by simp [eq_false h1, not_false_eq_true, bI]) rfl hJh1
  · refine (go_iconst (v := 1) eX7_isNothing_9 rfl).run ?_
    refine (go_goto 14 eX7_isNothing_10 rfl).run ?_
    refine (go_sub (L' := [none]) (lsub_drop lsub_nil)).run ?_
    first | exact hJh1 | (simp only [if_pos h1] at hJh1; exact hJh1) | (simp only [eq_true h1, not_true_eq_false, true_and, and_true, false_and, and_false, true_or, or_true, false_or, or_false, not_true_eq_false, not_false_eq_true] at hJh1; exact hJh1) | exact Run.eq (by simp [eq_true h1, not_true_eq_false, bI]) (by simp [eq_true h1, not_true_eq_false, bI]) rfl hJh1

theorem qX7_isNothing (d : Nat) (o : Nat) (σ : St) (ho : kd o = 6) : Ct yX7_isNothing MX7_isNothing d [.ref o] σ (fun v σ1 => v = some (.int (bI ((σ.1 o 1) = (-4)))) ∧ σ1 = σ) :=
  Ct.of mX7_isNothing.1 (Nat.le_of_ble_eq_true rfl) (bX7_isNothing_0 o σ ho  (⟨by first | rfl | (simp only [bI, true_and, and_true, false_and, and_false, true_or, or_true, false_or, or_false, not_true_eq_false, not_false_eq_true, if_true, if_false]; done) | (simp [bI]; done), by first | rfl | (simp only [bI, true_and, and_true, false_and, and_false, true_or, or_true, false_or, or_false, not_true_eq_false, not_false_eq_true, if_true, if_false]; done) | (simp [bI]; done)⟩))

/-! CarryNets$Sheet.hasCell -/
theorem eX7_hasCell_0 : decode MX7_hasCell.2.1 0 = .ok (.iload_n 1, 1) := by decide +kernel
theorem eX7_hasCell_1 : decode MX7_hasCell.2.1 1 = .ok (.ifCond .lt 15, 3) := by decide +kernel
theorem eX7_hasCell_4 : decode MX7_hasCell.2.1 4 = .ok (.iload_n 1, 1) := by decide +kernel
theorem eX7_hasCell_5 : decode MX7_hasCell.2.1 5 = .ok (.aload_n 0, 1) := by decide +kernel
theorem eX7_hasCell_6 : decode MX7_hasCell.2.1 6 = .ok (.getfield 19, 3) := by decide +kernel
theorem eX7_hasCell_9 : decode MX7_hasCell.2.1 9 = .ok (.if_icmp .ge 7, 3) := by decide +kernel
theorem eX7_hasCell_12 : decode MX7_hasCell.2.1 12 = .ok (.iconst 1, 1) := by decide +kernel
theorem eX7_hasCell_13 : decode MX7_hasCell.2.1 13 = .ok (.goto 4, 3) := by decide +kernel
theorem eX7_hasCell_16 : decode MX7_hasCell.2.1 16 = .ok (.iconst 0, 1) := by decide +kernel
theorem eX7_hasCell_17 : decode MX7_hasCell.2.1 17 = .ok (.ireturn, 1) := by decide +kernel
set_option maxRecDepth 20000 in
theorem bX7_hasCell_0 {d : Nat} {Q : Option Value → St → Prop} (o : Nat) (x1 : Int32) (σ : St) (ho : kd o = 6) 
    (k1 : Q (some (.int (bI ((0 : Int32) ≤ x1 ∧ x1 < (σ.1 o 0))))) σ)
    : Run MX7_hasCell d 0 [some (.ref o), some (.int x1)] [] σ Q := by
  refine (go_iload_n 1 eX7_hasCell_0 rfl rfl).run ?_
  have hJh1 : Run MX7_hasCell d 17 [none, none] [.int (bI ((0 : Int32) ≤ x1 ∧ x1 < (σ.1 o 0)))] σ Q := by
    exact Run.ret (v := some (.int (bI ((0 : Int32) ≤ x1 ∧ x1 < (σ.1 o 0))))) k1 ⟨Or.inr ⟨rfl, bI_01⟩, eX7_hasCell_17⟩ rfl
  refine (bz_lt 16 eX7_hasCell_1 rfl).run (fun h1 => ?_) (fun h1 => ?_)
  · refine (go_iconst (v := 0) eX7_hasCell_16 rfl).run ?_
    refine (go_sub (L' := [none, none]) (lsub_drop (lsub_drop lsub_nil))).run ?_
    first | exact hJh1 | (simp only [if_pos h1] at hJh1; exact hJh1) | (simp only [eq_true h1, eq_false (i32_nle.mpr h1), true_and, and_true, false_and, and_false, true_or, or_true, false_or, or_false, not_true_eq_false, not_false_eq_true] at hJh1; exact hJh1) | exact Run.eq (by simp [eq_true h1, eq_false (i32_nle.mpr h1), bI]) (by simp [eq_true h1, eq_false (i32_nle.mpr h1), bI]) rfl hJh1
  · refine (go_iload_n 1 eX7_hasCell_4 rfl rfl).run ?_
    refine (go_aload_n 0 eX7_hasCell_5 rfl rfl).run ?_
    refine (go_geti flX7_19 rf_6_0 ho eX7_hasCell_6).run ?_
    have hJh2 : Run MX7_hasCell d 17 [none, none] [.int (bI (x1 < (σ.1 o 0)))] σ Q := by
      first | exact hJh1 | (simp only [if_neg (i32_nlt.mpr h1)] at hJh1; exact hJh1) | (simp only [eq_true h1, eq_false (i32_nlt.mpr h1), true_and, and_true, false_and, and_false, true_or, or_true, false_or, or_false, not_true_eq_false, not_false_eq_true] at hJh1; exact hJh1) | exact Run.eq (by simp [eq_true h1, eq_false (i32_nlt.mpr h1), bI]) (by simp [eq_true h1, eq_false (i32_nlt.mpr h1), bI]) rfl hJh1
    refine (bi_ge 16 eX7_hasCell_9 rfl).run (fun h2 => ?_) (fun h2 => ?_)
    · refine (go_iconst (v := 0) eX7_hasCell_16 rfl).run ?_
      refine (go_sub (L' := [none, none]) (lsub_drop (lsub_drop lsub_nil))).run ?_
      first | exact hJh2 | (simp only [if_pos h2] at hJh2; exact hJh2) | (simp only [eq_true h2, eq_false (i32_nlt.mpr h2), true_and, and_true, false_and, and_false, true_or, or_true, false_or, or_false, not_true_eq_false, not_false_eq_true] at hJh2; exact hJh2) | exact Run.eq (by simp [eq_true h2, eq_false (i32_nlt.mpr h2), bI]) (by simp [eq_true h2, eq_false (i32_nlt.mpr h2), bI]) rfl hJh2
    · refine (go_iconst (v := 1) eX7_hasCell_12 rfl).run ?_
      refine (go_goto 17 eX7_hasCell_13 rfl).run ?_
      refine (go_sub (L' := [none, none]) (lsub_drop (lsub_drop lsub_nil))).run ?_
      first | exact hJh2 | (simp only [if_neg (i32_nle.mpr h2)] at hJh2; exact hJh2) | (simp only [eq_true h2, eq_false (i32_nle.mpr h2), true_and, and_true, false_and, and_false, true_or, or_true, false_or, or_false, not_true_eq_false, not_false_eq_true] at hJh2; exact hJh2) | exact Run.eq (by simp [eq_true h2, eq_false (i32_nle.mpr h2), bI]) (by simp [eq_true h2, eq_false (i32_nle.mpr h2), bI]) rfl hJh2

theorem qX7_hasCell (d : Nat) (o : Nat) (x1 : Int32) (σ : St) (ho : kd o = 6) : Ct yX7_hasCell MX7_hasCell d [.ref o, .int x1] σ (fun v σ1 => v = some (.int (bI ((0 : Int32) ≤ x1 ∧ x1 < (σ.1 o 0)))) ∧ σ1 = σ) :=
  Ct.of mX7_hasCell.1 (Nat.le_of_ble_eq_true rfl) (bX7_hasCell_0 o x1 σ ho  (⟨by first | rfl | (simp only [bI, true_and, and_true, false_and, and_false, true_or, or_true, false_or, or_false, not_true_eq_false, not_false_eq_true, if_true, if_false]; done) | (simp [bI]; done), by first | rfl | (simp only [bI, true_and, and_true, false_and, and_false, true_or, or_true, false_or, or_false, not_true_eq_false, not_false_eq_true, if_true, if_false]; done) | (simp [bI]; done)⟩))

/-! CarryNets$Sheet.read -/
theorem eX7_read_0 : decode MX7_read.2.1 0 = .ok (.aload_n 0, 1) := by decide +kernel
theorem eX7_read_1 : decode MX7_read.2.1 1 = .ok (.getfield 15, 3) := by decide +kernel
theorem eX7_read_4 : decode MX7_read.2.1 4 = .ok (.iload_n 1, 1) := by decide +kernel
theorem eX7_read_5 : decode MX7_read.2.1 5 = .ok (.invokestatic 22, 3) := by decide +kernel
theorem eX7_read_8 : decode MX7_read.2.1 8 = .ok (.ireturn, 1) := by decide +kernel
set_option maxRecDepth 20000 in
theorem bX7_read_0 {d : Nat} {Q : Option Value → St → Prop} (o : Nat) (x1 : Int32) (σ : St) (ho : kd o = 6) 
    (k1 : Q (some (.int ((aG (gr o 2) x1 σ)))) σ)
    : Run MX7_read (d + 1) 0 [some (.ref o), some (.int x1)] [] σ Q := by
  refine (go_aload_n 0 eX7_read_0 rfl rfl).run ?_
  refine (go_getr (r := gr o 2) flX7_15 rf_6_2 ho rfl eX7_read_1).run ?_
  refine (go_iload_n 1 eX7_read_4 rfl rfl).run ?_
  refine Run.callS1 (d := d) (As := [.ref (gr o 2), .int x1]) (r := .int ((aG (gr o 2) x1 σ))) mX10_at lkX7_22 rfl rfl rfl (Nat.le_of_ble_eq_true rfl) eX7_read_5 (qX10_at d (gr o 2) x1 σ (kf_6_2 ho).1 ) ?_
  exact Run.ret (v := some (.int ((aG (gr o 2) x1 σ)))) k1 ⟨Or.inl rfl, eX7_read_8⟩ rfl

theorem qX7_read (d : Nat) (o : Nat) (x1 : Int32) (σ : St) (ho : kd o = 6) : Ct yX7_read MX7_read (d + 1) [.ref o, .int x1] σ (fun v σ1 => v = some (.int ((aG (gr o 2) x1 σ))) ∧ σ1 = σ) :=
  Ct.of mX7_read.1 (Nat.le_of_ble_eq_true rfl) (bX7_read_0 o x1 σ ho  (⟨by first | rfl | (simp only [true_and, and_true, false_and, and_false, true_or, or_true, false_or, or_false, not_true_eq_false, not_false_eq_true, if_true, if_false]; done) | (simp [bI]; done), by first | rfl | (simp only [true_and, and_true, false_and, and_false, true_or, or_true, false_or, or_false, not_true_eq_false, not_false_eq_true, if_true, if_false]; done) | (simp [bI]; done)⟩))

/-! CarryNets$Sheet.write -/
theorem eX7_write_0 : decode MX7_write.2.1 0 = .ok (.aload_n 0, 1) := by decide +kernel
theorem eX7_write_1 : decode MX7_write.2.1 1 = .ok (.getfield 15, 3) := by decide +kernel
theorem eX7_write_4 : decode MX7_write.2.1 4 = .ok (.iload_n 1, 1) := by decide +kernel
theorem eX7_write_5 : decode MX7_write.2.1 5 = .ok (.aload_n 0, 1) := by decide +kernel
theorem eX7_write_6 : decode MX7_write.2.1 6 = .ok (.getfield 9, 3) := by decide +kernel
theorem eX7_write_9 : decode MX7_write.2.1 9 = .ok (.ifCond .ne 8, 3) := by decide +kernel
theorem eX7_write_12 : decode MX7_write.2.1 12 = .ok (.iload_n 2, 1) := by decide +kernel
theorem eX7_write_13 : decode MX7_write.2.1 13 = .ok (.i2b, 1) := by decide +kernel
theorem eX7_write_14 : decode MX7_write.2.1 14 = .ok (.goto 17, 3) := by decide +kernel
theorem eX7_write_17 : decode MX7_write.2.1 17 = .ok (.aload_n 0, 1) := by decide +kernel
theorem eX7_write_18 : decode MX7_write.2.1 18 = .ok (.getfield 9, 3) := by decide +kernel
theorem eX7_write_21 : decode MX7_write.2.1 21 = .ok (.iconst 1, 1) := by decide +kernel
theorem eX7_write_22 : decode MX7_write.2.1 22 = .ok (.if_icmp .ne 8, 3) := by decide +kernel
theorem eX7_write_25 : decode MX7_write.2.1 25 = .ok (.iload_n 2, 1) := by decide +kernel
theorem eX7_write_26 : decode MX7_write.2.1 26 = .ok (.i2s, 1) := by decide +kernel
theorem eX7_write_27 : decode MX7_write.2.1 27 = .ok (.goto 4, 3) := by decide +kernel
theorem eX7_write_30 : decode MX7_write.2.1 30 = .ok (.iload_n 2, 1) := by decide +kernel
theorem eX7_write_31 : decode MX7_write.2.1 31 = .ok (.invokestatic 26, 3) := by decide +kernel
theorem eX7_write_34 : decode MX7_write.2.1 34 = .ok (.return_, 1) := by decide +kernel
set_option maxRecDepth 20000 in
theorem bX7_write_0 {d : Nat} {Q : Option Value → St → Prop} (o : Nat) (x1 : Int32) (x2 : Int32) (σ : St) (ho : kd o = 6) 
    (k1 : Q (none) (aP (gr o 2) x1 (if (σ.1 o 1) = 0 then x2.toInt8.toInt32 else (if (σ.1 o 1) = 1 then x2.toInt16.toInt32 else x2)) σ))
    : Run MX7_write (d + 1) 0 [some (.ref o), some (.int x1), some (.int x2)] [] σ Q := by
  refine (go_aload_n 0 eX7_write_0 rfl rfl).run ?_
  refine (go_getr (r := gr o 2) flX7_15 rf_6_2 ho rfl eX7_write_1).run ?_
  refine (go_iload_n 1 eX7_write_4 rfl rfl).run ?_
  refine (go_aload_n 0 eX7_write_5 rfl rfl).run ?_
  refine (go_geti flX7_9 rf_6_1 ho eX7_write_6).run ?_
  have hJh1 : Run MX7_write (d + 1) 31 [none, none, none] [.int (if (σ.1 o 1) = 0 then x2.toInt8.toInt32 else (if (σ.1 o 1) = 1 then x2.toInt16.toInt32 else x2)), .int x1, .ref (gr o 2)] σ Q := by
    refine Run.callS0 (d := d) (As := [.ref (gr o 2), .int x1, .int (if (σ.1 o 1) = 0 then x2.toInt8.toInt32 else (if (σ.1 o 1) = 1 then x2.toInt16.toInt32 else x2))]) mX10_put lkX7_26 rfl rfl rfl (Nat.le_of_ble_eq_true rfl) eX7_write_31 (qX10_put d (gr o 2) x1 (if (σ.1 o 1) = 0 then x2.toInt8.toInt32 else (if (σ.1 o 1) = 1 then x2.toInt16.toInt32 else x2)) σ (kf_6_2 ho).1 ) ?_
    exact Run.ret (v := none) k1 ⟨rfl, eX7_write_34⟩ rfl
  refine (bz_ne 17 eX7_write_9 rfl).run (fun h1 => ?_) (fun h1 => ?_)
  · refine (go_aload_n 0 eX7_write_17 rfl rfl).run ?_
    refine (go_geti flX7_9 rf_6_1 ho eX7_write_18).run ?_
    refine (go_iconst (v := 1) eX7_write_21 rfl).run ?_
    have hJh2 : Run MX7_write (d + 1) 31 [none, none, none] [.int (if (σ.1 o 1) = 1 then x2.toInt16.toInt32 else x2), .int x1, .ref (gr o 2)] σ Q := by
      first | exact hJh1 | (simp only [if_neg (h1)] at hJh1; exact hJh1) | (simp only [eq_false h1, not_false_eq_true, true_and, and_true, false_and, and_false, true_or, or_true, false_or, or_false, not_true_eq_false, not_false_eq_true] at hJh1; exact hJh1) | exact Run.eq (by simp [eq_false h1, not_false_eq_true, bI]) (by simp [eq_false h1, not_false_eq_true, bI]) rfl hJh1
    refine (bi_ne 30 eX7_write_22 rfl).run (fun h2 => ?_) (fun h2 => ?_)
    · refine (go_iload_n 2 eX7_write_30 rfl rfl).run ?_
      refine (go_sub (L' := [none, none, none]) (lsub_drop (lsub_drop (lsub_drop lsub_nil)))).run ?_
      first | exact hJh2 | (simp only [if_neg (h2)] at hJh2; exact hJh2) | (simp only [eq_false h2, not_false_eq_true, true_and, and_true, false_and, and_false, true_or, or_true, false_or, or_false, not_true_eq_false, not_false_eq_true] at hJh2; exact hJh2) | exact Run.eq (by simp [eq_false h2, not_false_eq_true, bI]) (by simp [eq_false h2, not_false_eq_true, bI]) rfl hJh2
    · refine (go_iload_n 2 eX7_write_25 rfl rfl).run ?_
      refine (go_i2s eX7_write_26).run ?_
      refine (go_goto 31 eX7_write_27 rfl).run ?_
      refine (go_sub (L' := [none, none, none]) (lsub_drop (lsub_drop (lsub_drop lsub_nil)))).run ?_
      first | exact hJh2 | (simp only [if_pos h2] at hJh2; exact hJh2) | (simp only [eq_true h2, not_true_eq_false, true_and, and_true, false_and, and_false, true_or, or_true, false_or, or_false, not_true_eq_false, not_false_eq_true] at hJh2; exact hJh2) | exact Run.eq (by simp [eq_true h2, not_true_eq_false, bI]) (by simp [eq_true h2, not_true_eq_false, bI]) rfl hJh2
  · refine (go_iload_n 2 eX7_write_12 rfl rfl).run ?_
    refine (go_i2b eX7_write_13).run ?_
    refine (go_goto 31 eX7_write_14 rfl).run ?_
    refine (go_sub (L' := [none, none, none]) (lsub_drop (lsub_drop (lsub_drop lsub_nil)))).run ?_
    first | exact hJh1 | (simp only [if_pos h1] at hJh1; exact hJh1) | (simp only [eq_true h1, not_true_eq_false, true_and, and_true, false_and, and_false, true_or, or_true, false_or, or_false, not_true_eq_false, not_false_eq_true] at hJh1; exact hJh1) | exact Run.eq (by simp [eq_true h1, not_true_eq_false, bI]) (by simp [eq_true h1, not_true_eq_false, bI]) rfl hJh1

def sX7_write (o : Nat) (x1 : Int32) (x2 : Int32) (σ : St) : St := aP (gr o 2) x1 (if (σ.1 o 1) = 0 then x2.toInt8.toInt32 else (if (σ.1 o 1) = 1 then x2.toInt16.toInt32 else x2)) σ
theorem qX7_write (d : Nat) (o : Nat) (x1 : Int32) (x2 : Int32) (σ : St) (ho : kd o = 6) : Ct yX7_write MX7_write (d + 1) [.ref o, .int x1, .int x2] σ (fun v σ1 => v = none ∧ σ1 = sX7_write o x1 x2 σ) :=
  Ct.of mX7_write.1 (Nat.le_of_ble_eq_true rfl) (bX7_write_0 o x1 x2 σ ho  (⟨by first | rfl | (simp only [sX7_write, true_and, and_true, false_and, and_false, true_or, or_true, false_or, or_false, not_true_eq_false, not_false_eq_true, if_true, if_false]; done) | (simp [sX7_write, bI]; done), by first | rfl | (simp only [sX7_write, true_and, and_true, false_and, and_false, true_or, or_true, false_or, or_false, not_true_eq_false, not_false_eq_true, if_true, if_false]; done) | (simp [sX7_write, bI]; done)⟩))

/-! CarryNets$Sheet.refusal -/
theorem eX7_refusal_0 : decode MX7_refusal.2.1 0 = .ok (.aload_n 0, 1) := by decide +kernel
theorem eX7_refusal_1 : decode MX7_refusal.2.1 1 = .ok (.invokevirtual 30, 3) := by decide +kernel
theorem eX7_refusal_4 : decode MX7_refusal.2.1 4 = .ok (.ifCond .eq 6, 3) := by decide +kernel
theorem eX7_refusal_7 : decode MX7_refusal.2.1 7 = .ok (.bipush (-11), 2) := by decide +kernel
theorem eX7_refusal_9 : decode MX7_refusal.2.1 9 = .ok (.ireturn, 1) := by decide +kernel
theorem eX7_refusal_10 : decode MX7_refusal.2.1 10 = .ok (.aload_n 0, 1) := by decide +kernel
theorem eX7_refusal_11 : decode MX7_refusal.2.1 11 = .ok (.getfield 9, 3) := by decide +kernel
theorem eX7_refusal_14 : decode MX7_refusal.2.1 14 = .ok (.iload_n 1, 1) := by decide +kernel
theorem eX7_refusal_15 : decode MX7_refusal.2.1 15 = .ok (.if_icmp .eq 6, 3) := by decide +kernel
theorem eX7_refusal_18 : decode MX7_refusal.2.1 18 = .ok (.bipush (-13), 2) := by decide +kernel
theorem eX7_refusal_20 : decode MX7_refusal.2.1 20 = .ok (.ireturn, 1) := by decide +kernel
theorem eX7_refusal_21 : decode MX7_refusal.2.1 21 = .ok (.iconst 0, 1) := by decide +kernel
theorem eX7_refusal_22 : decode MX7_refusal.2.1 22 = .ok (.istore 4, 2) := by decide +kernel
theorem eX7_refusal_24 : decode MX7_refusal.2.1 24 = .ok (.iload 4, 2) := by decide +kernel
theorem eX7_refusal_26 : decode MX7_refusal.2.1 26 = .ok (.iload_n 3, 1) := by decide +kernel
theorem eX7_refusal_27 : decode MX7_refusal.2.1 27 = .ok (.if_icmp .ge 53, 3) := by decide +kernel
theorem eX7_refusal_30 : decode MX7_refusal.2.1 30 = .ok (.aload_n 0, 1) := by decide +kernel
theorem eX7_refusal_31 : decode MX7_refusal.2.1 31 = .ok (.iload_n 2, 1) := by decide +kernel
theorem eX7_refusal_32 : decode MX7_refusal.2.1 32 = .ok (.iload 4, 2) := by decide +kernel
theorem eX7_refusal_34 : decode MX7_refusal.2.1 34 = .ok (.iadd, 1) := by decide +kernel
theorem eX7_refusal_35 : decode MX7_refusal.2.1 35 = .ok (.invokevirtual 34, 3) := by decide +kernel
theorem eX7_refusal_38 : decode MX7_refusal.2.1 38 = .ok (.ifCond .ne 6, 3) := by decide +kernel
theorem eX7_refusal_41 : decode MX7_refusal.2.1 41 = .ok (.bipush (-12), 2) := by decide +kernel
theorem eX7_refusal_43 : decode MX7_refusal.2.1 43 = .ok (.ireturn, 1) := by decide +kernel
theorem eX7_refusal_44 : decode MX7_refusal.2.1 44 = .ok (.aload_n 0, 1) := by decide +kernel
theorem eX7_refusal_45 : decode MX7_refusal.2.1 45 = .ok (.iload_n 2, 1) := by decide +kernel
theorem eX7_refusal_46 : decode MX7_refusal.2.1 46 = .ok (.iload 4, 2) := by decide +kernel
theorem eX7_refusal_48 : decode MX7_refusal.2.1 48 = .ok (.iadd, 1) := by decide +kernel
theorem eX7_refusal_49 : decode MX7_refusal.2.1 49 = .ok (.invokevirtual 38, 3) := by decide +kernel
theorem eX7_refusal_52 : decode MX7_refusal.2.1 52 = .ok (.ifCond .lt 16, 3) := by decide +kernel
theorem eX7_refusal_55 : decode MX7_refusal.2.1 55 = .ok (.aload_n 0, 1) := by decide +kernel
theorem eX7_refusal_56 : decode MX7_refusal.2.1 56 = .ok (.iload_n 2, 1) := by decide +kernel
theorem eX7_refusal_57 : decode MX7_refusal.2.1 57 = .ok (.iload 4, 2) := by decide +kernel
theorem eX7_refusal_59 : decode MX7_refusal.2.1 59 = .ok (.iadd, 1) := by decide +kernel
theorem eX7_refusal_60 : decode MX7_refusal.2.1 60 = .ok (.invokevirtual 38, 3) := by decide +kernel
theorem eX7_refusal_63 : decode MX7_refusal.2.1 63 = .ok (.bipush 12, 2) := by decide +kernel
theorem eX7_refusal_65 : decode MX7_refusal.2.1 65 = .ok (.if_icmp .le 9, 3) := by decide +kernel
theorem eX7_refusal_68 : decode MX7_refusal.2.1 68 = .ok (.bipush (-20), 2) := by decide +kernel
theorem eX7_refusal_70 : decode MX7_refusal.2.1 70 = .ok (.iload 4, 2) := by decide +kernel
theorem eX7_refusal_72 : decode MX7_refusal.2.1 72 = .ok (.isub, 1) := by decide +kernel
theorem eX7_refusal_73 : decode MX7_refusal.2.1 73 = .ok (.ireturn, 1) := by decide +kernel
theorem eX7_refusal_74 : decode MX7_refusal.2.1 74 = .ok (.iinc 4 1, 3) := by decide +kernel
theorem eX7_refusal_77 : decode MX7_refusal.2.1 77 = .ok (.goto (-53), 3) := by decide +kernel
theorem eX7_refusal_80 : decode MX7_refusal.2.1 80 = .ok (.iconst 0, 1) := by decide +kernel
theorem eX7_refusal_81 : decode MX7_refusal.2.1 81 = .ok (.ireturn, 1) := by decide +kernel
set_option maxRecDepth 20000 in
theorem bX7_refusal_0 {d : Nat} {Q : Option Value → St → Prop} (o : Nat) (x1 : Int32) (x2 : Int32) (x3 : Int32) (σ : St) (ho : kd o = 6) 
    (k1 : ¬ ((σ.1 o 1) = (-4)) → (σ.1 o 1) = x1 → Run MX7_refusal (d + 2) 24 [some (.ref o), none, some (.int x2), some (.int x3), some (.int 0)] [] σ Q)
    (k2 : ¬ ((σ.1 o 1) = (-4)) → ¬ (σ.1 o 1) = x1 → Q (some (.int (-13))) σ)
    (k3 : (σ.1 o 1) = (-4) → Q (some (.int (-11))) σ)
    : Run MX7_refusal (d + 2) 0 [some (.ref o), some (.int x1), some (.int x2), some (.int x3), none] [] σ Q := by
  refine (go_aload_n 0 eX7_refusal_0 rfl rfl).run ?_
  refine Run.callV1 (d := (d + 1)) (As := []) (r := .int (bI ((σ.1 o 1) = (-4)))) mX7_isNothing lkX7_30 ho (by decide) rfl rfl rfl rfl rfl (Nat.le_of_ble_eq_true rfl) eX7_refusal_1 (qX7_isNothing (d + 1) o σ ho ) ?_
  refine (br_ifeq_b 10 eX7_refusal_4 rfl).run (fun h1 => ?_) (fun h1 => ?_)
  · refine (go_aload_n 0 eX7_refusal_10 rfl rfl).run ?_
    refine (go_geti flX7_9 rf_6_1 ho eX7_refusal_11).run ?_
    refine (go_iload_n 1 eX7_refusal_14 rfl rfl).run ?_
    refine (bi_eq 21 eX7_refusal_15 rfl).run (fun h2 => ?_) (fun h2 => ?_)
    · refine (go_iconst (v := 0) eX7_refusal_21 rfl).run ?_
      refine (go_istore 4 (L' := [some (.ref o), some (.int x1), some (.int x2), some (.int x3), some (.int 0)]) eX7_refusal_22 (Nat.le_of_ble_eq_true rfl) rfl).run ?_
      refine (go_sub (L' := [some (.ref o), none, some (.int x2), some (.int x3), some (.int 0)]) (lsub_keep (lsub_drop (lsub_keep (lsub_keep (lsub_keep lsub_nil)))))).run ?_
      exact (k1 h1 h2)
    · refine (go_bipush (v := -13) eX7_refusal_18 rfl).run ?_
      exact Run.ret (v := some (.int (-13))) (k2 h1 h2) ⟨Or.inl rfl, eX7_refusal_20⟩ rfl
  · refine (go_bipush (v := -11) eX7_refusal_7 rfl).run ?_
    exact Run.ret (v := some (.int (-11))) (k3 h1) ⟨Or.inl rfl, eX7_refusal_9⟩ rfl

set_option maxRecDepth 20000 in
theorem bX7_refusal_24 {d : Nat} {Q : Option Value → St → Prop} (o : Nat) (x2 : Int32) (x3 : Int32) (x4 : Int32) (σ : St) (ho : kd o = 6) 
    (k1 : x3 ≤ x4 → Q (some (.int 0)) σ)
    (k2 : x4 < x3 → ((0 : Int32) ≤ (x2 + x4) ∧ (x2 + x4) < (σ.1 o 0)) → (((aG (gr o 2) (x2 + x4) σ))) < 0 → Q (some (.int ((-20 : Int32) - x4))) σ)
    (k3 : x4 < x3 → ((0 : Int32) ≤ (x2 + x4) ∧ (x2 + x4) < (σ.1 o 0)) → (0 : Int32) ≤ (((aG (gr o 2) (x2 + x4) σ))) → (((aG (gr o 2) (x2 + x4) σ))) ≤ 12 → Run MX7_refusal (d + 2) 24 [some (.ref o), none, some (.int x2), some (.int x3), some (.int (x4 + 1))] [] σ Q)
    (k4 : x4 < x3 → ((0 : Int32) ≤ (x2 + x4) ∧ (x2 + x4) < (σ.1 o 0)) → (0 : Int32) ≤ (((aG (gr o 2) (x2 + x4) σ))) → (12 : Int32) < (((aG (gr o 2) (x2 + x4) σ))) → Q (some (.int ((-20 : Int32) - x4))) σ)
    (k5 : x4 < x3 → (¬ ((0 : Int32) ≤ (x2 + x4) ∧ (x2 + x4) < (σ.1 o 0))) → Q (some (.int (-12))) σ)
    : Run MX7_refusal (d + 2) 24 [some (.ref o), none, some (.int x2), some (.int x3), some (.int x4)] [] σ Q := by
  refine (go_iload 4 eX7_refusal_24 rfl).run ?_
  refine (go_iload_n 3 eX7_refusal_26 rfl rfl).run ?_
  refine (bi_ge 80 eX7_refusal_27 rfl).run (fun h1 => ?_) (fun h1 => ?_)
  · refine (go_iconst (v := 0) eX7_refusal_80 rfl).run ?_
    exact Run.ret (v := some (.int 0)) (k1 h1) ⟨Or.inl rfl, eX7_refusal_81⟩ rfl
  · refine (go_aload_n 0 eX7_refusal_30 rfl rfl).run ?_
    refine (go_iload_n 2 eX7_refusal_31 rfl rfl).run ?_
    refine (go_iload 4 eX7_refusal_32 rfl).run ?_
    refine (go_iadd eX7_refusal_34).run ?_
    refine Run.callV1 (d := (d + 1)) (As := [.int (x2 + x4)]) (r := .int (bI ((0 : Int32) ≤ (x2 + x4) ∧ (x2 + x4) < (σ.1 o 0)))) mX7_hasCell lkX7_34 ho (by decide) rfl rfl rfl rfl rfl (Nat.le_of_ble_eq_true rfl) eX7_refusal_35 (qX7_hasCell (d + 1) o (x2 + x4) σ ho ) ?_
    refine (br_ifne_b 44 eX7_refusal_38 rfl).run (fun h2 => ?_) (fun h2 => ?_)
    · refine (go_aload_n 0 eX7_refusal_44 rfl rfl).run ?_
      refine (go_iload_n 2 eX7_refusal_45 rfl rfl).run ?_
      refine (go_iload 4 eX7_refusal_46 rfl).run ?_
      refine (go_iadd eX7_refusal_48).run ?_
      refine Run.callV1 (d := (d + 1)) (As := [.int (x2 + x4)]) (r := .int (((aG (gr o 2) (x2 + x4) σ)))) mX7_read lkX7_38 ho (by decide) rfl rfl rfl rfl rfl (Nat.le_of_ble_eq_true rfl) eX7_refusal_49 (qX7_read d o (x2 + x4) σ ho ) ?_
      refine (bz_lt 68 eX7_refusal_52 rfl).run (fun h3 => ?_) (fun h3 => ?_)
      · refine (go_bipush (v := -20) eX7_refusal_68 rfl).run ?_
        refine (go_iload 4 eX7_refusal_70 rfl).run ?_
        refine (go_isub eX7_refusal_72).run ?_
        exact Run.ret (v := some (.int ((-20 : Int32) - x4))) (k2 h1 h2 h3) ⟨Or.inl rfl, eX7_refusal_73⟩ rfl
      · refine (go_aload_n 0 eX7_refusal_55 rfl rfl).run ?_
        refine (go_iload_n 2 eX7_refusal_56 rfl rfl).run ?_
        refine (go_iload 4 eX7_refusal_57 rfl).run ?_
        refine (go_iadd eX7_refusal_59).run ?_
        refine Run.callV1 (d := (d + 1)) (As := [.int (x2 + x4)]) (r := .int (((aG (gr o 2) (x2 + x4) σ)))) mX7_read lkX7_38 ho (by decide) rfl rfl rfl rfl rfl (Nat.le_of_ble_eq_true rfl) eX7_refusal_60 (qX7_read d o (x2 + x4) σ ho ) ?_
        refine (go_bipush (v := 12) eX7_refusal_63 rfl).run ?_
        refine (bi_le 74 eX7_refusal_65 rfl).run (fun h4 => ?_) (fun h4 => ?_)
        · refine (go_iinc 4 (v := (x4 + 1)) (L' := [some (.ref o), none, some (.int x2), some (.int x3), some (.int (x4 + 1))]) eX7_refusal_74 rfl rfl (Nat.le_of_ble_eq_true rfl) rfl).run ?_
          refine (go_goto 24 eX7_refusal_77 rfl).run ?_
          exact (k3 h1 h2 h3 h4)
        · refine (go_bipush (v := -20) eX7_refusal_68 rfl).run ?_
          refine (go_iload 4 eX7_refusal_70 rfl).run ?_
          refine (go_isub eX7_refusal_72).run ?_
          exact Run.ret (v := some (.int ((-20 : Int32) - x4))) (k4 h1 h2 h3 h4) ⟨Or.inl rfl, eX7_refusal_73⟩ rfl
    · refine (go_bipush (v := -12) eX7_refusal_41 rfl).run ?_
      exact Run.ret (v := some (.int (-12))) (k5 h1 h2) ⟨Or.inl rfl, eX7_refusal_43⟩ rfl

/-! CarryNets$Spans.whole -/
theorem eX8_whole_0 : decode MX8_whole.2.1 0 = .ok (.aload_n 0, 1) := by decide +kernel
theorem eX8_whole_1 : decode MX8_whole.2.1 1 = .ok (.invokevirtual 33, 3) := by decide +kernel
theorem eX8_whole_4 : decode MX8_whole.2.1 4 = .ok (.ifCond .ne 7, 3) := by decide +kernel
theorem eX8_whole_7 : decode MX8_whole.2.1 7 = .ok (.iconst 1, 1) := by decide +kernel
theorem eX8_whole_8 : decode MX8_whole.2.1 8 = .ok (.goto 4, 3) := by decide +kernel
theorem eX8_whole_11 : decode MX8_whole.2.1 11 = .ok (.iconst 0, 1) := by decide +kernel
theorem eX8_whole_12 : decode MX8_whole.2.1 12 = .ok (.ireturn, 1) := by decide +kernel
set_option maxRecDepth 20000 in
theorem bX8_whole_0 {d : Nat} {Q : Option Value → St → Prop} (o : Nat) (σ : St) (ho : kd o = 7) 
    (k1 : Ct yX8_openPlaces MX8_openPlaces (d + 1) [.ref o] σ (fun v σ1 => Run MX8_whole (d + 2) 4 [none] (v.toList ++ []) σ1 Q))
    : Run MX8_whole (d + 2) 0 [some (.ref o)] [] σ Q := by
  refine (go_aload_n 0 eX8_whole_0 rfl rfl).run ?_
  refine (go_sub (L' := [none]) (lsub_drop lsub_nil)).run ?_
  exact Run.callV (d := (d + 1)) (As := []) mX8_openPlaces lkX8_33 ho (by decide) rfl rfl rfl rfl rfl (Nat.le_of_ble_eq_true rfl) eX8_whole_1 k1

set_option maxRecDepth 20000 in
theorem bX8_whole_4 {d : Nat} {Q : Option Value → St → Prop} (s0 : Int32) (σ : St) 
    (k1 : Q (some (.int (bI (s0 = 0)))) σ)
    : Run MX8_whole (d + 2) 4 [none] [.int s0] σ Q := by
  have hJh1 : Run MX8_whole (d + 2) 12 [none] [.int (bI (s0 = 0))] σ Q := by
    exact Run.ret (v := some (.int (bI (s0 = 0)))) k1 ⟨Or.inr ⟨rfl, bI_01⟩, eX8_whole_12⟩ rfl
  refine (bz_ne 11 eX8_whole_4 rfl).run (fun h1 => ?_) (fun h1 => ?_)
  · refine (go_iconst (v := 0) eX8_whole_11 rfl).run ?_
    first | exact hJh1 | (simp only [if_neg (h1)] at hJh1; exact hJh1) | (simp only [eq_false h1, not_false_eq_true, true_and, and_true, false_and, and_false, true_or, or_true, false_or, or_false, not_true_eq_false, not_false_eq_true] at hJh1; exact hJh1) | exact Run.eq (by simp [eq_false h1, not_false_eq_true, bI]) (by simp [eq_false h1, not_false_eq_true, bI]) rfl hJh1
  · refine (go_iconst (v := 1) eX8_whole_7 rfl).run ?_
    refine (go_goto 12 eX8_whole_8 rfl).run ?_
    first | exact hJh1 | (simp only [if_pos h1] at hJh1; exact hJh1) | (simp only [eq_true h1, not_true_eq_false, true_and, and_true, false_and, and_false, true_or, or_true, false_or, or_false, not_true_eq_false, not_false_eq_true] at hJh1; exact hJh1) | exact Run.eq (by simp [eq_true h1, not_true_eq_false, bI]) (by simp [eq_true h1, not_true_eq_false, bI]) rfl hJh1

/-! CarryNets$Spans.lowOf -/
theorem eX8_lowOf_0 : decode MX8_lowOf.2.1 0 = .ok (.aload_n 0, 1) := by decide +kernel
theorem eX8_lowOf_1 : decode MX8_lowOf.2.1 1 = .ok (.getfield 9, 3) := by decide +kernel
theorem eX8_lowOf_4 : decode MX8_lowOf.2.1 4 = .ok (.iload_n 1, 1) := by decide +kernel
theorem eX8_lowOf_5 : decode MX8_lowOf.2.1 5 = .ok (.invokestatic 29, 3) := by decide +kernel
theorem eX8_lowOf_8 : decode MX8_lowOf.2.1 8 = .ok (.ireturn, 1) := by decide +kernel
set_option maxRecDepth 20000 in
theorem bX8_lowOf_0 {d : Nat} {Q : Option Value → St → Prop} (o : Nat) (x1 : Int32) (σ : St) (ho : kd o = 7) 
    (k1 : Q (some (.int ((aG (gr o 1) x1 σ)))) σ)
    : Run MX8_lowOf (d + 1) 0 [some (.ref o), some (.int x1)] [] σ Q := by
  refine (go_aload_n 0 eX8_lowOf_0 rfl rfl).run ?_
  refine (go_getr (r := gr o 1) flX8_9 rf_7_1 ho rfl eX8_lowOf_1).run ?_
  refine (go_iload_n 1 eX8_lowOf_4 rfl rfl).run ?_
  refine Run.callS1 (d := d) (As := [.ref (gr o 1), .int x1]) (r := .int ((aG (gr o 1) x1 σ))) mX10_at lkX8_29 rfl rfl rfl (Nat.le_of_ble_eq_true rfl) eX8_lowOf_5 (qX10_at d (gr o 1) x1 σ (kf_7_1 ho).1 ) ?_
  exact Run.ret (v := some (.int ((aG (gr o 1) x1 σ)))) k1 ⟨Or.inl rfl, eX8_lowOf_8⟩ rfl

theorem qX8_lowOf (d : Nat) (o : Nat) (x1 : Int32) (σ : St) (ho : kd o = 7) : Ct yX8_lowOf MX8_lowOf (d + 1) [.ref o, .int x1] σ (fun v σ1 => v = some (.int ((aG (gr o 1) x1 σ))) ∧ σ1 = σ) :=
  Ct.of mX8_lowOf.1 (Nat.le_of_ble_eq_true rfl) (bX8_lowOf_0 o x1 σ ho  (⟨by first | rfl | (simp only [true_and, and_true, false_and, and_false, true_or, or_true, false_or, or_false, not_true_eq_false, not_false_eq_true, if_true, if_false]; done) | (simp [bI]; done), by first | rfl | (simp only [true_and, and_true, false_and, and_false, true_or, or_true, false_or, or_false, not_true_eq_false, not_false_eq_true, if_true, if_false]; done) | (simp [bI]; done)⟩))

/-! CarryNets$Tape.append -/
theorem eX9_append_0 : decode MX9_append.2.1 0 = .ok (.aload_n 0, 1) := by decide +kernel
theorem eX9_append_1 : decode MX9_append.2.1 1 = .ok (.getfield 15, 3) := by decide +kernel
theorem eX9_append_4 : decode MX9_append.2.1 4 = .ok (.ifCond .lt 18, 3) := by decide +kernel
theorem eX9_append_7 : decode MX9_append.2.1 7 = .ok (.aload_n 0, 1) := by decide +kernel
theorem eX9_append_8 : decode MX9_append.2.1 8 = .ok (.getfield 15, 3) := by decide +kernel
theorem eX9_append_11 : decode MX9_append.2.1 11 = .ok (.bipush 8, 2) := by decide +kernel
theorem eX9_append_13 : decode MX9_append.2.1 13 = .ok (.iadd, 1) := by decide +kernel
theorem eX9_append_14 : decode MX9_append.2.1 14 = .ok (.aload_n 0, 1) := by decide +kernel
theorem eX9_append_15 : decode MX9_append.2.1 15 = .ok (.getfield 9, 3) := by decide +kernel
theorem eX9_append_18 : decode MX9_append.2.1 18 = .ok (.arraylength, 1) := by decide +kernel
theorem eX9_append_19 : decode MX9_append.2.1 19 = .ok (.if_icmp .le 5, 3) := by decide +kernel
theorem eX9_append_22 : decode MX9_append.2.1 22 = .ok (.iconst 0, 1) := by decide +kernel
theorem eX9_append_23 : decode MX9_append.2.1 23 = .ok (.ireturn, 1) := by decide +kernel
theorem eX9_append_24 : decode MX9_append.2.1 24 = .ok (.iconst 0, 1) := by decide +kernel
theorem eX9_append_25 : decode MX9_append.2.1 25 = .ok (.istore_n 3, 1) := by decide +kernel
theorem eX9_append_26 : decode MX9_append.2.1 26 = .ok (.iload_n 3, 1) := by decide +kernel
theorem eX9_append_27 : decode MX9_append.2.1 27 = .ok (.bipush 8, 2) := by decide +kernel
theorem eX9_append_29 : decode MX9_append.2.1 29 = .ok (.if_icmp .ge 31, 3) := by decide +kernel
theorem eX9_append_32 : decode MX9_append.2.1 32 = .ok (.aload_n 0, 1) := by decide +kernel
theorem eX9_append_33 : decode MX9_append.2.1 33 = .ok (.getfield 9, 3) := by decide +kernel
theorem eX9_append_36 : decode MX9_append.2.1 36 = .ok (.aload_n 0, 1) := by decide +kernel
theorem eX9_append_37 : decode MX9_append.2.1 37 = .ok (.getfield 15, 3) := by decide +kernel
theorem eX9_append_40 : decode MX9_append.2.1 40 = .ok (.iload_n 3, 1) := by decide +kernel
theorem eX9_append_41 : decode MX9_append.2.1 41 = .ok (.iadd, 1) := by decide +kernel
theorem eX9_append_42 : decode MX9_append.2.1 42 = .ok (.lload_n 1, 1) := by decide +kernel
theorem eX9_append_43 : decode MX9_append.2.1 43 = .ok (.bipush 56, 2) := by decide +kernel
theorem eX9_append_45 : decode MX9_append.2.1 45 = .ok (.bipush 8, 2) := by decide +kernel
theorem eX9_append_47 : decode MX9_append.2.1 47 = .ok (.iload_n 3, 1) := by decide +kernel
theorem eX9_append_48 : decode MX9_append.2.1 48 = .ok (.imul, 1) := by decide +kernel
theorem eX9_append_49 : decode MX9_append.2.1 49 = .ok (.isub, 1) := by decide +kernel
theorem eX9_append_50 : decode MX9_append.2.1 50 = .ok (.lshr, 1) := by decide +kernel
theorem eX9_append_51 : decode MX9_append.2.1 51 = .ok (.l2i, 1) := by decide +kernel
theorem eX9_append_52 : decode MX9_append.2.1 52 = .ok (.i2b, 1) := by decide +kernel
theorem eX9_append_53 : decode MX9_append.2.1 53 = .ok (.bastore, 1) := by decide +kernel
theorem eX9_append_54 : decode MX9_append.2.1 54 = .ok (.iinc 3 1, 3) := by decide +kernel
theorem eX9_append_57 : decode MX9_append.2.1 57 = .ok (.goto (-31), 3) := by decide +kernel
theorem eX9_append_60 : decode MX9_append.2.1 60 = .ok (.aload_n 0, 1) := by decide +kernel
theorem eX9_append_61 : decode MX9_append.2.1 61 = .ok (.dup, 1) := by decide +kernel
theorem eX9_append_62 : decode MX9_append.2.1 62 = .ok (.getfield 15, 3) := by decide +kernel
theorem eX9_append_65 : decode MX9_append.2.1 65 = .ok (.bipush 8, 2) := by decide +kernel
theorem eX9_append_67 : decode MX9_append.2.1 67 = .ok (.iadd, 1) := by decide +kernel
theorem eX9_append_68 : decode MX9_append.2.1 68 = .ok (.putfield 15, 3) := by decide +kernel
theorem eX9_append_71 : decode MX9_append.2.1 71 = .ok (.iconst 1, 1) := by decide +kernel
theorem eX9_append_72 : decode MX9_append.2.1 72 = .ok (.ireturn, 1) := by decide +kernel
set_option maxRecDepth 20000 in
theorem bX9_append_0 {d : Nat} {Q : Option Value → St → Prop} (x1 : Int64) (σ : St) 
    (k1 : (σ.1 2 0) < 0 → Q (some (.int 0)) σ)
    (k2 : (0 : Int32) ≤ (σ.1 2 0) → ((σ.1 2 0) + 8) ≤ 240 → Run MX9_append d 26 [some (.ref 2), some (.long x1), none, some (.int 0)] [] σ Q)
    (k3 : (0 : Int32) ≤ (σ.1 2 0) → (240 : Int32) < ((σ.1 2 0) + 8) → Q (some (.int 0)) σ)
    : Run MX9_append d 0 [some (.ref 2), some (.long x1), none, none] [] σ Q := by
  refine (go_aload_n 0 eX9_append_0 rfl rfl).run ?_
  refine (go_geti flX9_15 rf_8_0 kd_2 eX9_append_1).run ?_
  refine (bz_lt 22 eX9_append_4 rfl).run (fun h1 => ?_) (fun h1 => ?_)
  · refine (go_iconst (v := 0) eX9_append_22 rfl).run ?_
    exact Run.ret (v := some (.int 0)) (k1 h1) ⟨Or.inr ⟨rfl, Or.inl rfl⟩, eX9_append_23⟩ rfl
  · refine (go_aload_n 0 eX9_append_7 rfl rfl).run ?_
    refine (go_geti flX9_15 rf_8_0 kd_2 eX9_append_8).run ?_
    refine (go_bipush (v := 8) eX9_append_11 rfl).run ?_
    refine (go_iadd eX9_append_13).run ?_
    refine (go_aload_n 0 eX9_append_14 rfl rfl).run ?_
    refine (go_getr flX9_9 rf_8_2 kd_2 gr_2_2 eX9_append_15).run ?_
    refine (go_alen102 (v := 240) kd_3 ln_3 rfl eX9_append_18).run ?_
    refine (bi_le 24 eX9_append_19 rfl).run (fun h2 => ?_) (fun h2 => ?_)
    · refine (go_iconst (v := 0) eX9_append_24 rfl).run ?_
      refine (go_istore_n 3 (L' := [some (.ref 2), some (.long x1), none, some (.int 0)]) eX9_append_25 rfl (Nat.le_of_ble_eq_true rfl) rfl).run ?_
      exact (k2 h1 h2)
    · refine (go_iconst (v := 0) eX9_append_22 rfl).run ?_
      exact Run.ret (v := some (.int 0)) (k3 h1 h2) ⟨Or.inr ⟨rfl, Or.inl rfl⟩, eX9_append_23⟩ rfl

set_option maxRecDepth 20000 in
theorem bX9_append_26 {d : Nat} {Q : Option Value → St → Prop} (x1 : Int64) (x3 : Int32) (σ : St) 
    (g1 : x3 < 8 → vp_in ((σ.1 2 0) + x3) 240)
    (k1 : (8 : Int32) ≤ x3 → Q (some (.int 1)) (sA σ 2 (upd (σ.1 2) 0 ((σ.1 2 0) + 8))))
    (k2 : x3 < 8 → Run MX9_append d 26 [some (.ref 2), some (.long x1), none, some (.int (x3 + 1))] [] (sA σ 3 (upd (σ.1 3) ((σ.1 2 0) + x3).toNatClampNeg ((((x1 >>> (((56 : Int32) - ((8 : Int32) * x3)).toInt64 &&& 63)).toInt32).toInt8.toInt32).toInt8.toInt32))) Q)
    : Run MX9_append d 26 [some (.ref 2), some (.long x1), none, some (.int x3)] [] σ Q := by
  refine (go_iload_n 3 eX9_append_26 rfl rfl).run ?_
  refine (go_bipush (v := 8) eX9_append_27 rfl).run ?_
  refine (bi_ge 60 eX9_append_29 rfl).run (fun h1 => ?_) (fun h1 => ?_)
  · refine (go_aload_n 0 eX9_append_60 rfl rfl).run ?_
    refine (go_dup eX9_append_61 rfl).run ?_
    refine (go_geti flX9_15 rf_8_0 kd_2 eX9_append_62).run ?_
    refine (go_bipush (v := 8) eX9_append_65 rfl).run ?_
    refine (go_iadd eX9_append_67).run ?_
    refine (go_puti flX9_15 rf_8_0 rfl pf_8_0 rfl rfl kd_2 eX9_append_68).run ?_
    refine (go_iconst (v := 1) eX9_append_71 rfl).run ?_
    exact Run.ret (v := some (.int 1)) (k1 h1) ⟨Or.inr ⟨rfl, Or.inr rfl⟩, eX9_append_72⟩ rfl
  · refine (go_aload_n 0 eX9_append_32 rfl rfl).run ?_
    refine (go_getr flX9_9 rf_8_2 kd_2 gr_2_2 eX9_append_33).run ?_
    refine (go_aload_n 0 eX9_append_36 rfl rfl).run ?_
    refine (go_geti flX9_15 rf_8_0 kd_2 eX9_append_37).run ?_
    refine (go_iload_n 3 eX9_append_40 rfl rfl).run ?_
    refine (go_iadd eX9_append_41).run ?_
    refine (go_lload_n 1 eX9_append_42 rfl rfl).run ?_
    refine (go_bipush (v := 56) eX9_append_43 rfl).run ?_
    refine (go_bipush (v := 8) eX9_append_45 rfl).run ?_
    refine (go_iload_n 3 eX9_append_47 rfl rfl).run ?_
    refine (go_imul eX9_append_48).run ?_
    refine (go_isub eX9_append_49).run ?_
    refine (go_lshr eX9_append_50).run ?_
    refine (go_l2i eX9_append_51).run ?_
    refine (go_i2b eX9_append_52).run ?_
    refine (go_bast kd_3 ln_3 (g1 h1) eX9_append_53).run ?_
    refine (go_iinc 3 (v := (x3 + 1)) (L' := [some (.ref 2), some (.long x1), none, some (.int (x3 + 1))]) eX9_append_54 rfl rfl (Nat.le_of_ble_eq_true rfl) rfl).run ?_
    refine (go_goto 26 eX9_append_57 rfl).run ?_
    exact (k2 h1)


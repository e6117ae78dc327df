/-! CarryNetsModel.run -/
theorem eX11_run_0 : decode MX11_run.2.1 0 = .ok (.iload_n 1, 1) := by decide +kernel
theorem eX11_run_1 : decode MX11_run.2.1 1 = .ok (.i2l, 1) := by decide +kernel
theorem eX11_run_2 : decode MX11_run.2.1 2 = .ok (.lconst 1, 1) := by decide +kernel
theorem eX11_run_3 : decode MX11_run.2.1 3 = .ok (.ldc2_w 201, 3) := by decide +kernel
theorem eX11_run_6 : decode MX11_run.2.1 6 = .ok (.invokestatic 109, 3) := by decide +kernel
theorem eX11_run_9 : decode MX11_run.2.1 9 = .ok (.ifCond .eq 31, 3) := by decide +kernel
theorem eX11_run_12 : decode MX11_run.2.1 12 = .ok (.iload_n 2, 1) := by decide +kernel
theorem eX11_run_13 : decode MX11_run.2.1 13 = .ok (.i2l, 1) := by decide +kernel
theorem eX11_run_14 : decode MX11_run.2.1 14 = .ok (.lconst 0, 1) := by decide +kernel
theorem eX11_run_15 : decode MX11_run.2.1 15 = .ok (.lconst 1, 1) := by decide +kernel
theorem eX11_run_16 : decode MX11_run.2.1 16 = .ok (.iload_n 1, 1) := by decide +kernel
theorem eX11_run_17 : decode MX11_run.2.1 17 = .ok (.lshl, 1) := by decide +kernel
theorem eX11_run_18 : decode MX11_run.2.1 18 = .ok (.lconst 1, 1) := by decide +kernel
theorem eX11_run_19 : decode MX11_run.2.1 19 = .ok (.lsub, 1) := by decide +kernel
theorem eX11_run_20 : decode MX11_run.2.1 20 = .ok (.invokestatic 109, 3) := by decide +kernel
theorem eX11_run_23 : decode MX11_run.2.1 23 = .ok (.ifCond .eq 17, 3) := by decide +kernel
theorem eX11_run_26 : decode MX11_run.2.1 26 = .ok (.iload_n 3, 1) := by decide +kernel
theorem eX11_run_27 : decode MX11_run.2.1 27 = .ok (.i2l, 1) := by decide +kernel
theorem eX11_run_28 : decode MX11_run.2.1 28 = .ok (.lconst 0, 1) := by decide +kernel
theorem eX11_run_29 : decode MX11_run.2.1 29 = .ok (.lconst 1, 1) := by decide +kernel
theorem eX11_run_30 : decode MX11_run.2.1 30 = .ok (.iload_n 1, 1) := by decide +kernel
theorem eX11_run_31 : decode MX11_run.2.1 31 = .ok (.lshl, 1) := by decide +kernel
theorem eX11_run_32 : decode MX11_run.2.1 32 = .ok (.lconst 1, 1) := by decide +kernel
theorem eX11_run_33 : decode MX11_run.2.1 33 = .ok (.lsub, 1) := by decide +kernel
theorem eX11_run_34 : decode MX11_run.2.1 34 = .ok (.invokestatic 109, 3) := by decide +kernel
theorem eX11_run_37 : decode MX11_run.2.1 37 = .ok (.ifCond .ne 5, 3) := by decide +kernel
theorem eX11_run_40 : decode MX11_run.2.1 40 = .ok (.iconst (-1), 1) := by decide +kernel
theorem eX11_run_41 : decode MX11_run.2.1 41 = .ok (.ireturn, 1) := by decide +kernel
theorem eX11_run_42 : decode MX11_run.2.1 42 = .ok (.iconst 0, 1) := by decide +kernel
theorem eX11_run_43 : decode MX11_run.2.1 43 = .ok (.istore 4, 2) := by decide +kernel
theorem eX11_run_45 : decode MX11_run.2.1 45 = .ok (.iconst 0, 1) := by decide +kernel
theorem eX11_run_46 : decode MX11_run.2.1 46 = .ok (.istore 5, 2) := by decide +kernel
theorem eX11_run_48 : decode MX11_run.2.1 48 = .ok (.iconst 0, 1) := by decide +kernel
theorem eX11_run_49 : decode MX11_run.2.1 49 = .ok (.istore 6, 2) := by decide +kernel
theorem eX11_run_51 : decode MX11_run.2.1 51 = .ok (.iload 6, 2) := by decide +kernel
theorem eX11_run_53 : decode MX11_run.2.1 53 = .ok (.iload_n 1, 1) := by decide +kernel
theorem eX11_run_54 : decode MX11_run.2.1 54 = .ok (.if_icmp .ge 71, 3) := by decide +kernel
theorem eX11_run_57 : decode MX11_run.2.1 57 = .ok (.iload_n 2, 1) := by decide +kernel
theorem eX11_run_58 : decode MX11_run.2.1 58 = .ok (.iload 6, 2) := by decide +kernel
theorem eX11_run_60 : decode MX11_run.2.1 60 = .ok (.ishr, 1) := by decide +kernel
theorem eX11_run_61 : decode MX11_run.2.1 61 = .ok (.iconst 1, 1) := by decide +kernel
theorem eX11_run_62 : decode MX11_run.2.1 62 = .ok (.iand, 1) := by decide +kernel
theorem eX11_run_63 : decode MX11_run.2.1 63 = .ok (.iload_n 3, 1) := by decide +kernel
theorem eX11_run_64 : decode MX11_run.2.1 64 = .ok (.iload 6, 2) := by decide +kernel
theorem eX11_run_66 : decode MX11_run.2.1 66 = .ok (.ishr, 1) := by decide +kernel
theorem eX11_run_67 : decode MX11_run.2.1 67 = .ok (.iconst 1, 1) := by decide +kernel
theorem eX11_run_68 : decode MX11_run.2.1 68 = .ok (.iand, 1) := by decide +kernel
theorem eX11_run_69 : decode MX11_run.2.1 69 = .ok (.iadd, 1) := by decide +kernel
theorem eX11_run_70 : decode MX11_run.2.1 70 = .ok (.istore 7, 2) := by decide +kernel
theorem eX11_run_72 : decode MX11_run.2.1 72 = .ok (.iload 7, 2) := by decide +kernel
theorem eX11_run_74 : decode MX11_run.2.1 74 = .ok (.iconst 2, 1) := by decide +kernel
theorem eX11_run_75 : decode MX11_run.2.1 75 = .ok (.if_icmp .ne 7, 3) := by decide +kernel
theorem eX11_run_78 : decode MX11_run.2.1 78 = .ok (.iconst 1, 1) := by decide +kernel
theorem eX11_run_79 : decode MX11_run.2.1 79 = .ok (.goto 22, 3) := by decide +kernel
theorem eX11_run_82 : decode MX11_run.2.1 82 = .ok (.iload 7, 2) := by decide +kernel
theorem eX11_run_84 : decode MX11_run.2.1 84 = .ok (.iconst 1, 1) := by decide +kernel
theorem eX11_run_85 : decode MX11_run.2.1 85 = .ok (.if_icmp .ne 15, 3) := by decide +kernel
theorem eX11_run_88 : decode MX11_run.2.1 88 = .ok (.iload 4, 2) := by decide +kernel
theorem eX11_run_90 : decode MX11_run.2.1 90 = .ok (.ifCond .le 10, 3) := by decide +kernel
theorem eX11_run_93 : decode MX11_run.2.1 93 = .ok (.iload 4, 2) := by decide +kernel
theorem eX11_run_95 : decode MX11_run.2.1 95 = .ok (.iconst 1, 1) := by decide +kernel
theorem eX11_run_96 : decode MX11_run.2.1 96 = .ok (.iadd, 1) := by decide +kernel
theorem eX11_run_97 : decode MX11_run.2.1 97 = .ok (.goto 4, 3) := by decide +kernel
theorem eX11_run_100 : decode MX11_run.2.1 100 = .ok (.iconst 0, 1) := by decide +kernel
theorem eX11_run_101 : decode MX11_run.2.1 101 = .ok (.istore 4, 2) := by decide +kernel
theorem eX11_run_103 : decode MX11_run.2.1 103 = .ok (.iload 4, 2) := by decide +kernel
theorem eX11_run_105 : decode MX11_run.2.1 105 = .ok (.iload 5, 2) := by decide +kernel
theorem eX11_run_107 : decode MX11_run.2.1 107 = .ok (.if_icmp .le 8, 3) := by decide +kernel
theorem eX11_run_110 : decode MX11_run.2.1 110 = .ok (.iload 4, 2) := by decide +kernel
theorem eX11_run_112 : decode MX11_run.2.1 112 = .ok (.goto 5, 3) := by decide +kernel
theorem eX11_run_115 : decode MX11_run.2.1 115 = .ok (.iload 5, 2) := by decide +kernel
theorem eX11_run_117 : decode MX11_run.2.1 117 = .ok (.istore 5, 2) := by decide +kernel
theorem eX11_run_119 : decode MX11_run.2.1 119 = .ok (.iinc 6 1, 3) := by decide +kernel
theorem eX11_run_122 : decode MX11_run.2.1 122 = .ok (.goto (-71), 3) := by decide +kernel
theorem eX11_run_125 : decode MX11_run.2.1 125 = .ok (.iload 5, 2) := by decide +kernel
theorem eX11_run_127 : decode MX11_run.2.1 127 = .ok (.ireturn, 1) := by decide +kernel
set_option maxRecDepth 20000 in
theorem bX11_run_0 {d : Nat} {Q : Option Value → St → Prop} (x1 : Int32) (x2 : Int32) (x3 : Int32) (σ : St) 
    (k1 : (¬ ((1 : Int64) ≤ x1.toInt64 ∧ x1.toInt64 ≤ (31 : Int64))) → Q (some (.int (-1))) σ)
    (k2 : ((1 : Int64) ≤ x1.toInt64 ∧ x1.toInt64 ≤ (31 : Int64)) → (¬ ((0 : Int64) ≤ x2.toInt64 ∧ x2.toInt64 ≤ (((1 : Int64) <<< (x1.toInt64 &&& 63)) - 1))) → Q (some (.int (-1))) σ)
    (k3 : ((1 : Int64) ≤ x1.toInt64 ∧ x1.toInt64 ≤ (31 : Int64)) → ((0 : Int64) ≤ x2.toInt64 ∧ x2.toInt64 ≤ (((1 : Int64) <<< (x1.toInt64 &&& 63)) - 1)) → ((0 : Int64) ≤ x3.toInt64 ∧ x3.toInt64 ≤ (((1 : Int64) <<< (x1.toInt64 &&& 63)) - 1)) → Run MX11_run (d + 1) 51 [none, some (.int x1), some (.int x2), some (.int x3), some (.int 0), some (.int 0), some (.int 0), none] [] σ Q)
    (k4 : ((1 : Int64) ≤ x1.toInt64 ∧ x1.toInt64 ≤ (31 : Int64)) → ((0 : Int64) ≤ x2.toInt64 ∧ x2.toInt64 ≤ (((1 : Int64) <<< (x1.toInt64 &&& 63)) - 1)) → (¬ ((0 : Int64) ≤ x3.toInt64 ∧ x3.toInt64 ≤ (((1 : Int64) <<< (x1.toInt64 &&& 63)) - 1))) → Q (some (.int (-1))) σ)
    : Run MX11_run (d + 1) 0 [some (.ref 88), some (.int x1), some (.int x2), some (.int x3), none, none, none, none] [] σ Q := by
  refine (go_iload_n 1 eX11_run_0 rfl rfl).run ?_
  refine (go_i2l eX11_run_1).run ?_
  refine (go_lconst (v := 1) eX11_run_2 rfl).run ?_
  refine (go_ldc2 csX11_201 eX11_run_3).run ?_
  refine Run.callS1 (d := d) (As := [.long x1.toInt64, .long 1, .long (31)]) (r := .int (bI ((1 : Int64) ≤ x1.toInt64 ∧ x1.toInt64 ≤ (31 : Int64)))) mX11_in lkX11_109 rfl rfl rfl (Nat.le_of_ble_eq_true rfl) eX11_run_6 (qX11_in d x1.toInt64 (1 : Int64) (31 : Int64) σ  ) ?_
  refine (br_ifeq_b 40 eX11_run_9 rfl).run (fun h1 => ?_) (fun h1 => ?_)
  · refine (go_iconst (v := -1) eX11_run_40 rfl).run ?_
    exact Run.ret (v := some (.int (-1))) (k1 h1) ⟨Or.inl rfl, eX11_run_41⟩ rfl
  · refine (go_iload_n 2 eX11_run_12 rfl rfl).run ?_
    refine (go_i2l eX11_run_13).run ?_
    refine (go_lconst (v := 0) eX11_run_14 rfl).run ?_
    refine (go_lconst (v := 1) eX11_run_15 rfl).run ?_
    refine (go_iload_n 1 eX11_run_16 rfl rfl).run ?_
    refine (go_lshl eX11_run_17).run ?_
    refine (go_lconst (v := 1) eX11_run_18 rfl).run ?_
    refine (go_lsub eX11_run_19).run ?_
    refine Run.callS1 (d := d) (As := [.long x2.toInt64, .long 0, .long (((1 : Int64) <<< (x1.toInt64 &&& 63)) - 1)]) (r := .int (bI ((0 : Int64) ≤ x2.toInt64 ∧ x2.toInt64 ≤ (((1 : Int64) <<< (x1.toInt64 &&& 63)) - 1)))) mX11_in lkX11_109 rfl rfl rfl (Nat.le_of_ble_eq_true rfl) eX11_run_20 (qX11_in d x2.toInt64 (0 : Int64) (((1 : Int64) <<< (x1.toInt64 &&& 63)) - 1) σ  ) ?_
    refine (br_ifeq_b 40 eX11_run_23 rfl).run (fun h2 => ?_) (fun h2 => ?_)
    · refine (go_iconst (v := -1) eX11_run_40 rfl).run ?_
      exact Run.ret (v := some (.int (-1))) (k2 h1 h2) ⟨Or.inl rfl, eX11_run_41⟩ rfl
    · refine (go_iload_n 3 eX11_run_26 rfl rfl).run ?_
      refine (go_i2l eX11_run_27).run ?_
      refine (go_lconst (v := 0) eX11_run_28 rfl).run ?_
      refine (go_lconst (v := 1) eX11_run_29 rfl).run ?_
      refine (go_iload_n 1 eX11_run_30 rfl rfl).run ?_
      refine (go_lshl eX11_run_31).run ?_
      refine (go_lconst (v := 1) eX11_run_32 rfl).run ?_
      refine (go_lsub eX11_run_33).run ?_
      refine Run.callS1 (d := d) (As := [.long x3.toInt64, .long 0, .long (((1 : Int64) <<< (x1.toInt64 &&& 63)) - 1)]) (r := .int (bI ((0 : Int64) ≤ x3.toInt64 ∧ x3.toInt64 ≤ (((1 : Int64) <<< (x1.toInt64 &&& 63)) - 1)))) mX11_in lkX11_109 rfl rfl rfl (Nat.le_of_ble_eq_true rfl) eX11_run_34 (qX11_in d x3.toInt64 (0 : Int64) (((1 : Int64) <<< (x1.toInt64 &&& 63)) - 1) σ  ) ?_
      refine (br_ifne_b 42 eX11_run_37 rfl).run (fun h3 => ?_) (fun h3 => ?_)
      · refine (go_iconst (v := 0) eX11_run_42 rfl).run ?_
        refine (go_istore 4 (L' := [some (.ref 88), some (.int x1), some (.int x2), some (.int x3), some (.int 0), none, none, none]) eX11_run_43 (Nat.le_of_ble_eq_true rfl) rfl).run ?_
        refine (go_iconst (v := 0) eX11_run_45 rfl).run ?_
        refine (go_istore 5 (L' := [some (.ref 88), some (.int x1), some (.int x2), some (.int x3), some (.int 0), some (.int 0), none, none]) eX11_run_46 (Nat.le_of_ble_eq_true rfl) rfl).run ?_
        refine (go_iconst (v := 0) eX11_run_48 rfl).run ?_
        refine (go_istore 6 (L' := [some (.ref 88), some (.int x1), some (.int x2), some (.int x3), some (.int 0), some (.int 0), some (.int 0), none]) eX11_run_49 (Nat.le_of_ble_eq_true rfl) rfl).run ?_
        refine (go_sub (L' := [none, some (.int x1), some (.int x2), some (.int x3), some (.int 0), some (.int 0), some (.int 0), none]) (lsub_drop (lsub_keep (lsub_keep (lsub_keep (lsub_keep (lsub_keep (lsub_keep (lsub_keep lsub_nil))))))))).run ?_
        exact (k3 h1 h2 h3)
      · refine (go_iconst (v := -1) eX11_run_40 rfl).run ?_
        exact Run.ret (v := some (.int (-1))) (k4 h1 h2 h3) ⟨Or.inl rfl, eX11_run_41⟩ rfl

set_option maxRecDepth 20000 in
theorem bX11_run_51 {d : Nat} {Q : Option Value → St → Prop} (x1 : Int32) (x2 : Int32) (x3 : Int32) (x4 : Int32) (x5 : Int32) (x6 : Int32) (σ : St) 
    (k1 : x1 ≤ x6 → Q (some (.int x5)) σ)
    (k2 : x6 < x1 → Run MX11_run (d + 1) 51 [none, some (.int x1), some (.int x2), some (.int x3), some (.int (if (((x2 >>> (x6 &&& 31)) &&& 1) + ((x3 >>> (x6 &&& 31)) &&& 1)) = 2 then (1 : Int32) else (if (((x2 >>> (x6 &&& 31)) &&& 1) + ((x3 >>> (x6 &&& 31)) &&& 1)) = 1 then (if x4 ≤ 0 then (0 : Int32) else (x4 + 1)) else 0))), some (.int (if (if (((x2 >>> (x6 &&& 31)) &&& 1) + ((x3 >>> (x6 &&& 31)) &&& 1)) = 2 then (1 : Int32) else (if (((x2 >>> (x6 &&& 31)) &&& 1) + ((x3 >>> (x6 &&& 31)) &&& 1)) = 1 then (if x4 ≤ 0 then (0 : Int32) else (x4 + 1)) else 0)) ≤ x5 then x5 else (if (((x2 >>> (x6 &&& 31)) &&& 1) + ((x3 >>> (x6 &&& 31)) &&& 1)) = 2 then (1 : Int32) else (if (((x2 >>> (x6 &&& 31)) &&& 1) + ((x3 >>> (x6 &&& 31)) &&& 1)) = 1 then (if x4 ≤ 0 then (0 : Int32) else (x4 + 1)) else 0)))), some (.int (x6 + 1)), none] [] σ Q)
    : Run MX11_run (d + 1) 51 [none, some (.int x1), some (.int x2), some (.int x3), some (.int x4), some (.int x5), some (.int x6), none] [] σ Q := by
  refine (go_iload 6 eX11_run_51 rfl).run ?_
  refine (go_iload_n 1 eX11_run_53 rfl rfl).run ?_
  refine (bi_ge 125 eX11_run_54 rfl).run (fun h1 => ?_) (fun h1 => ?_)
  · refine (go_iload 5 eX11_run_125 rfl).run ?_
    exact Run.ret (v := some (.int x5)) (k1 h1) ⟨Or.inl rfl, eX11_run_127⟩ rfl
  · refine (go_iload_n 2 eX11_run_57 rfl rfl).run ?_
    refine (go_iload 6 eX11_run_58 rfl).run ?_
    refine (go_ishr eX11_run_60).run ?_
    refine (go_iconst (v := 1) eX11_run_61 rfl).run ?_
    refine (go_iand eX11_run_62).run ?_
    refine (go_iload_n 3 eX11_run_63 rfl rfl).run ?_
    refine (go_iload 6 eX11_run_64 rfl).run ?_
    refine (go_ishr eX11_run_66).run ?_
    refine (go_iconst (v := 1) eX11_run_67 rfl).run ?_
    refine (go_iand eX11_run_68).run ?_
    refine (go_iadd eX11_run_69).run ?_
    refine (go_istore 7 (L' := [none, some (.int x1), some (.int x2), some (.int x3), some (.int x4), some (.int x5), some (.int x6), some (.int (((x2 >>> (x6 &&& 31)) &&& 1) + ((x3 >>> (x6 &&& 31)) &&& 1)))]) eX11_run_70 (Nat.le_of_ble_eq_true rfl) rfl).run ?_
    refine (go_iload 7 eX11_run_72 rfl).run ?_
    refine (go_iconst (v := 2) eX11_run_74 rfl).run ?_
    have hJh2 : Run MX11_run (d + 1) 101 [none, some (.int x1), some (.int x2), some (.int x3), none, some (.int x5), some (.int x6), none] [.int (if (((x2 >>> (x6 &&& 31)) &&& 1) + ((x3 >>> (x6 &&& 31)) &&& 1)) = 2 then (1 : Int32) else (if (((x2 >>> (x6 &&& 31)) &&& 1) + ((x3 >>> (x6 &&& 31)) &&& 1)) = 1 then (if x4 ≤ 0 then (0 : Int32) else (x4 + 1)) else 0))] σ Q := by
      refine (go_istore 4 (L' := [none, some (.int x1), some (.int x2), some (.int x3), some (.int (if (((x2 >>> (x6 &&& 31)) &&& 1) + ((x3 >>> (x6 &&& 31)) &&& 1)) = 2 then (1 : Int32) else (if (((x2 >>> (x6 &&& 31)) &&& 1) + ((x3 >>> (x6 &&& 31)) &&& 1)) = 1 then (if x4 ≤ 0 then (0 : Int32) else (x4 + 1)) else 0))), some (.int x5), some (.int x6), none]) eX11_run_101 (Nat.le_of_ble_eq_true rfl) rfl).run ?_
      refine (go_iload 4 eX11_run_103 rfl).run ?_
      refine (go_iload 5 eX11_run_105 rfl).run ?_
      have hJh5 : Run MX11_run (d + 1) 117 [none, some (.int x1), some (.int x2), some (.int x3), some (.int (if (((x2 >>> (x6 &&& 31)) &&& 1) + ((x3 >>> (x6 &&& 31)) &&& 1)) = 2 then (1 : Int32) else (if (((x2 >>> (x6 &&& 31)) &&& 1) + ((x3 >>> (x6 &&& 31)) &&& 1)) = 1 then (if x4 ≤ 0 then (0 : Int32) else (x4 + 1)) else 0))), none, some (.int x6), none] [.int (if (if (((x2 >>> (x6 &&& 31)) &&& 1) + ((x3 >>> (x6 &&& 31)) &&& 1)) = 2 then (1 : Int32) else (if (((x2 >>> (x6 &&& 31)) &&& 1) + ((x3 >>> (x6 &&& 31)) &&& 1)) = 1 then (if x4 ≤ 0 then (0 : Int32) else (x4 + 1)) else 0)) ≤ x5 then x5 else (if (((x2 >>> (x6 &&& 31)) &&& 1) + ((x3 >>> (x6 &&& 31)) &&& 1)) = 2 then (1 : Int32) else (if (((x2 >>> (x6 &&& 31)) &&& 1) + ((x3 >>> (x6 &&& 31)) &&& 1)) = 1 then (if x4 ≤ 0 then (0 : Int32) else (x4 + 1)) else 0)))] σ Q := by
        refine (go_istore 5 (L' := [none, some (.int x1), some (.int x2), some (.int x3), some (.int (if (((x2 >>> (x6 &&& 31)) &&& 1) + ((x3 >>> (x6 &&& 31)) &&& 1)) = 2 then (1 : Int32) else (if (((x2 >>> (x6 &&& 31)) &&& 1) + ((x3 >>> (x6 &&& 31)) &&& 1)) = 1 then (if x4 ≤ 0 then (0 : Int32) else (x4 + 1)) else 0))), some (.int (if (if (((x2 >>> (x6 &&& 31)) &&& 1) + ((x3 >>> (x6 &&& 31)) &&& 1)) = 2 then (1 : Int32) else (if (((x2 >>> (x6 &&& 31)) &&& 1) + ((x3 >>> (x6 &&& 31)) &&& 1)) = 1 then (if x4 ≤ 0 then (0 : Int32) else (x4 + 1)) else 0)) ≤ x5 then x5 else (if (((x2 >>> (x6 &&& 31)) &&& 1) + ((x3 >>> (x6 &&& 31)) &&& 1)) = 2 then (1 : Int32) else (if (((x2 >>> (x6 &&& 31)) &&& 1) + ((x3 >>> (x6 &&& 31)) &&& 1)) = 1 then (if x4 ≤ 0 then (0 : Int32) else (x4 + 1)) else 0)))), some (.int x6), none]) eX11_run_117 (Nat.le_of_ble_eq_true rfl) rfl).run ?_
        refine (go_iinc 6 (v := (x6 + 1)) (L' := [none, some (.int x1), some (.int x2), some (.int x3), some (.int (if (((x2 >>> (x6 &&& 31)) &&& 1) + ((x3 >>> (x6 &&& 31)) &&& 1)) = 2 then (1 : Int32) else (if (((x2 >>> (x6 &&& 31)) &&& 1) + ((x3 >>> (x6 &&& 31)) &&& 1)) = 1 then (if x4 ≤ 0 then (0 : Int32) else (x4 + 1)) else 0))), some (.int (if (if (((x2 >>> (x6 &&& 31)) &&& 1) + ((x3 >>> (x6 &&& 31)) &&& 1)) = 2 then (1 : Int32) else (if (((x2 >>> (x6 &&& 31)) &&& 1) + ((x3 >>> (x6 &&& 31)) &&& 1)) = 1 then (if x4 ≤ 0 then (0 : Int32) else (x4 + 1)) else 0)) ≤ x5 then x5 else (if (((x2 >>> (x6 &&& 31)) &&& 1) + ((x3 >>> (x6 &&& 31)) &&& 1)) = 2 then (1 : Int32) else (if (((x2 >>> (x6 &&& 31)) &&& 1) + ((x3 >>> (x6 &&& 31)) &&& 1)) = 1 then (if x4 ≤ 0 then (0 : Int32) else (x4 + 1)) else 0)))), some (.int (x6 + 1)), none]) eX11_run_119 rfl rfl (Nat.le_of_ble_eq_true rfl) rfl).run ?_
        refine (go_goto 51 eX11_run_122 rfl).run ?_
        exact (k2 h1)
      refine (bi_le 115 eX11_run_107 rfl).run (fun h5 => ?_) (fun h5 => ?_)
      · refine (go_iload 5 eX11_run_115 rfl).run ?_
        refine (go_sub (L' := [none, some (.int x1), some (.int x2), some (.int x3), some (.int (if (((x2 >>> (x6 &&& 31)) &&& 1) + ((x3 >>> (x6 &&& 31)) &&& 1)) = 2 then (1 : Int32) else (if (((x2 >>> (x6 &&& 31)) &&& 1) + ((x3 >>> (x6 &&& 31)) &&& 1)) = 1 then (if x4 ≤ 0 then (0 : Int32) else (x4 + 1)) else 0))), none, some (.int x6), none]) (lsub_keep (lsub_keep (lsub_keep (lsub_keep (lsub_keep (lsub_drop (lsub_keep (lsub_keep lsub_nil))))))))).run ?_
        first | exact hJh5 | (simp only [if_pos h5] at hJh5; exact hJh5) | (simp only [eq_true h5, eq_false (i32_nlt.mpr h5), true_and, and_true, false_and, and_false, true_or, or_true, false_or, or_false, not_true_eq_false, not_false_eq_true] at hJh5; exact hJh5) | exact Run.eq (by simp [eq_true h5, eq_false (i32_nlt.mpr h5), bI]) (by simp [eq_true h5, eq_false (i32_nlt.mpr h5), bI]) rfl hJh5
      · refine (go_iload 4 eX11_run_110 rfl).run ?_
        refine (go_goto 117 eX11_run_112 rfl).run ?_
        refine (go_sub (L' := [none, some (.int x1), some (.int x2), some (.int x3), some (.int (if (((x2 >>> (x6 &&& 31)) &&& 1) + ((x3 >>> (x6 &&& 31)) &&& 1)) = 2 then (1 : Int32) else (if (((x2 >>> (x6 &&& 31)) &&& 1) + ((x3 >>> (x6 &&& 31)) &&& 1)) = 1 then (if x4 ≤ 0 then (0 : Int32) else (x4 + 1)) else 0))), none, some (.int x6), none]) (lsub_keep (lsub_keep (lsub_keep (lsub_keep (lsub_keep (lsub_drop (lsub_keep (lsub_keep lsub_nil))))))))).run ?_
        first | exact hJh5 | (simp only [if_neg (i32_nle.mpr h5)] at hJh5; exact hJh5) | (simp only [eq_true h5, eq_false (i32_nle.mpr h5), true_and, and_true, false_and, and_false, true_or, or_true, false_or, or_false, not_true_eq_false, not_false_eq_true] at hJh5; exact hJh5) | exact Run.eq (by simp [eq_true h5, eq_false (i32_nle.mpr h5), bI]) (by simp [eq_true h5, eq_false (i32_nle.mpr h5), bI]) rfl hJh5
    refine (bi_ne 82 eX11_run_75 rfl).run (fun h2 => ?_) (fun h2 => ?_)
    · refine (go_iload 7 eX11_run_82 rfl).run ?_
      refine (go_iconst (v := 1) eX11_run_84 rfl).run ?_
      have hJh3 : Run MX11_run (d + 1) 101 [none, some (.int x1), some (.int x2), some (.int x3), none, some (.int x5), some (.int x6), none] [.int (if (((x2 >>> (x6 &&& 31)) &&& 1) + ((x3 >>> (x6 &&& 31)) &&& 1)) = 1 then (if x4 ≤ 0 then (0 : Int32) else (x4 + 1)) else 0)] σ Q := by
        first | exact hJh2 | (simp only [if_neg (h2)] at hJh2; exact hJh2) | (simp only [eq_false h2, not_false_eq_true, true_and, and_true, false_and, and_false, true_or, or_true, false_or, or_false, not_true_eq_false, not_false_eq_true] at hJh2; exact hJh2) | exact Run.eq (by simp [eq_false h2, not_false_eq_true, bI]) (by simp [eq_false h2, not_false_eq_true, bI]) rfl hJh2
      refine (bi_ne 100 eX11_run_85 rfl).run (fun h3 => ?_) (fun h3 => ?_)
      · refine (go_iconst (v := 0) eX11_run_100 rfl).run ?_
        refine (go_sub (L' := [none, some (.int x1), some (.int x2), some (.int x3), none, some (.int x5), some (.int x6), none]) (lsub_keep (lsub_keep (lsub_keep (lsub_keep (lsub_drop (lsub_keep (lsub_keep (lsub_drop lsub_nil))))))))).run ?_
        first | exact hJh3 | (simp only [if_neg (h3)] at hJh3; exact hJh3) | (simp only [eq_false h3, not_false_eq_true, true_and, and_true, false_and, and_false, true_or, or_true, false_or, or_false, not_true_eq_false, not_false_eq_true] at hJh3; exact hJh3) | exact Run.eq (by simp [eq_false h3, not_false_eq_true, bI]) (by simp [eq_false h3, not_false_eq_true, bI]) rfl hJh3
      · refine (go_iload 4 eX11_run_88 rfl).run ?_
        have hJh4 : Run MX11_run (d + 1) 101 [none, some (.int x1), some (.int x2), some (.int x3), none, some (.int x5), some (.int x6), none] [.int (if x4 ≤ 0 then (0 : Int32) else (x4 + 1))] σ Q := by
          first | exact hJh3 | (simp only [if_pos h3] at hJh3; exact hJh3) | (simp only [eq_true h3, not_true_eq_false, true_and, and_true, false_and, and_false, true_or, or_true, false_or, or_false, not_true_eq_false, not_false_eq_true] at hJh3; exact hJh3) | exact Run.eq (by simp [eq_true h3, not_true_eq_false, bI]) (by simp [eq_true h3, not_true_eq_false, bI]) rfl hJh3
        refine (bz_le 100 eX11_run_90 rfl).run (fun h4 => ?_) (fun h4 => ?_)
        · refine (go_iconst (v := 0) eX11_run_100 rfl).run ?_
          refine (go_sub (L' := [none, some (.int x1), some (.int x2), some (.int x3), none, some (.int x5), some (.int x6), none]) (lsub_keep (lsub_keep (lsub_keep (lsub_keep (lsub_drop (lsub_keep (lsub_keep (lsub_drop lsub_nil))))))))).run ?_
          first | exact hJh4 | (simp only [if_pos h4] at hJh4; exact hJh4) | (simp only [eq_true h4, eq_false (i32_nlt.mpr h4), true_and, and_true, false_and, and_false, true_or, or_true, false_or, or_false, not_true_eq_false, not_false_eq_true] at hJh4; exact hJh4) | exact Run.eq (by simp [eq_true h4, eq_false (i32_nlt.mpr h4), bI]) (by simp [eq_true h4, eq_false (i32_nlt.mpr h4), bI]) rfl hJh4
        · refine (go_iload 4 eX11_run_93 rfl).run ?_
          refine (go_iconst (v := 1) eX11_run_95 rfl).run ?_
          refine (go_iadd eX11_run_96).run ?_
          refine (go_goto 101 eX11_run_97 rfl).run ?_
          refine (go_sub (L' := [none, some (.int x1), some (.int x2), some (.int x3), none, some (.int x5), some (.int x6), none]) (lsub_keep (lsub_keep (lsub_keep (lsub_keep (lsub_drop (lsub_keep (lsub_keep (lsub_drop lsub_nil))))))))).run ?_
          first | exact hJh4 | (simp only [if_neg (i32_nle.mpr h4)] at hJh4; exact hJh4) | (simp only [eq_true h4, eq_false (i32_nle.mpr h4), true_and, and_true, false_and, and_false, true_or, or_true, false_or, or_false, not_true_eq_false, not_false_eq_true] at hJh4; exact hJh4) | exact Run.eq (by simp [eq_true h4, eq_false (i32_nle.mpr h4), bI]) (by simp [eq_true h4, eq_false (i32_nle.mpr h4), bI]) rfl hJh4
    · refine (go_iconst (v := 1) eX11_run_78 rfl).run ?_
      refine (go_goto 101 eX11_run_79 rfl).run ?_
      refine (go_sub (L' := [none, some (.int x1), some (.int x2), some (.int x3), none, some (.int x5), some (.int x6), none]) (lsub_keep (lsub_keep (lsub_keep (lsub_keep (lsub_drop (lsub_keep (lsub_keep (lsub_drop lsub_nil))))))))).run ?_
      first | exact hJh2 | (simp only [if_pos h2] at hJh2; exact hJh2) | (simp only [eq_true h2, not_true_eq_false, true_and, and_true, false_and, and_false, true_or, or_true, false_or, or_false, not_true_eq_false, not_false_eq_true] at hJh2; exact hJh2) | exact Run.eq (by simp [eq_true h2, not_true_eq_false, bI]) (by simp [eq_true h2, not_true_eq_false, bI]) rfl hJh2

/-! CarryNetsModel.runsOf -/
theorem eX11_runsOf_0 : decode MX11_runsOf.2.1 0 = .ok (.iconst 0, 1) := by decide +kernel
theorem eX11_runsOf_1 : decode MX11_runsOf.2.1 1 = .ok (.istore_n 3, 1) := by decide +kernel
theorem eX11_runsOf_2 : decode MX11_runsOf.2.1 2 = .ok (.iload_n 3, 1) := by decide +kernel
theorem eX11_runsOf_3 : decode MX11_runsOf.2.1 3 = .ok (.iload_n 2, 1) := by decide +kernel
theorem eX11_runsOf_4 : decode MX11_runsOf.2.1 4 = .ok (.if_icmp .gt 24, 3) := by decide +kernel
theorem eX11_runsOf_7 : decode MX11_runsOf.2.1 7 = .ok (.aload_n 0, 1) := by decide +kernel
theorem eX11_runsOf_8 : decode MX11_runsOf.2.1 8 = .ok (.getfield 70, 3) := by decide +kernel
theorem eX11_runsOf_11 : decode MX11_runsOf.2.1 11 = .ok (.iload_n 3, 1) := by decide +kernel
theorem eX11_runsOf_12 : decode MX11_runsOf.2.1 12 = .ok (.iload_n 3, 1) := by decide +kernel
theorem eX11_runsOf_13 : decode MX11_runsOf.2.1 13 = .ok (.ifCond .ne 7, 3) := by decide +kernel
theorem eX11_runsOf_16 : decode MX11_runsOf.2.1 16 = .ok (.lconst 1, 1) := by decide +kernel
theorem eX11_runsOf_17 : decode MX11_runsOf.2.1 17 = .ok (.goto 4, 3) := by decide +kernel
theorem eX11_runsOf_20 : decode MX11_runsOf.2.1 20 = .ok (.lconst 0, 1) := by decide +kernel
theorem eX11_runsOf_21 : decode MX11_runsOf.2.1 21 = .ok (.lastore, 1) := by decide +kernel
theorem eX11_runsOf_22 : decode MX11_runsOf.2.1 22 = .ok (.iinc 3 1, 3) := by decide +kernel
theorem eX11_runsOf_25 : decode MX11_runsOf.2.1 25 = .ok (.goto (-23), 3) := by decide +kernel
theorem eX11_runsOf_28 : decode MX11_runsOf.2.1 28 = .ok (.iconst 0, 1) := by decide +kernel
theorem eX11_runsOf_29 : decode MX11_runsOf.2.1 29 = .ok (.istore_n 3, 1) := by decide +kernel
theorem eX11_runsOf_30 : decode MX11_runsOf.2.1 30 = .ok (.iload_n 3, 1) := by decide +kernel
theorem eX11_runsOf_31 : decode MX11_runsOf.2.1 31 = .ok (.iload_n 1, 1) := by decide +kernel
theorem eX11_runsOf_32 : decode MX11_runsOf.2.1 32 = .ok (.if_icmp .ge 133, 3) := by decide +kernel
theorem eX11_runsOf_35 : decode MX11_runsOf.2.1 35 = .ok (.lconst 0, 1) := by decide +kernel
theorem eX11_runsOf_36 : decode MX11_runsOf.2.1 36 = .ok (.lstore 4, 2) := by decide +kernel
theorem eX11_runsOf_38 : decode MX11_runsOf.2.1 38 = .ok (.iconst 0, 1) := by decide +kernel
theorem eX11_runsOf_39 : decode MX11_runsOf.2.1 39 = .ok (.istore 6, 2) := by decide +kernel
theorem eX11_runsOf_41 : decode MX11_runsOf.2.1 41 = .ok (.iload 6, 2) := by decide +kernel
theorem eX11_runsOf_43 : decode MX11_runsOf.2.1 43 = .ok (.iload_n 2, 1) := by decide +kernel
theorem eX11_runsOf_44 : decode MX11_runsOf.2.1 44 = .ok (.if_icmp .gt 21, 3) := by decide +kernel
theorem eX11_runsOf_47 : decode MX11_runsOf.2.1 47 = .ok (.lload 4, 2) := by decide +kernel
theorem eX11_runsOf_49 : decode MX11_runsOf.2.1 49 = .ok (.aload_n 0, 1) := by decide +kernel
theorem eX11_runsOf_50 : decode MX11_runsOf.2.1 50 = .ok (.getfield 70, 3) := by decide +kernel
theorem eX11_runsOf_53 : decode MX11_runsOf.2.1 53 = .ok (.iload 6, 2) := by decide +kernel
theorem eX11_runsOf_55 : decode MX11_runsOf.2.1 55 = .ok (.laload, 1) := by decide +kernel
theorem eX11_runsOf_56 : decode MX11_runsOf.2.1 56 = .ok (.ladd, 1) := by decide +kernel
theorem eX11_runsOf_57 : decode MX11_runsOf.2.1 57 = .ok (.lstore 4, 2) := by decide +kernel
theorem eX11_runsOf_59 : decode MX11_runsOf.2.1 59 = .ok (.iinc 6 1, 3) := by decide +kernel
theorem eX11_runsOf_62 : decode MX11_runsOf.2.1 62 = .ok (.goto (-21), 3) := by decide +kernel
theorem eX11_runsOf_65 : decode MX11_runsOf.2.1 65 = .ok (.aload_n 0, 1) := by decide +kernel
theorem eX11_runsOf_66 : decode MX11_runsOf.2.1 66 = .ok (.getfield 73, 3) := by decide +kernel
theorem eX11_runsOf_69 : decode MX11_runsOf.2.1 69 = .ok (.iconst 0, 1) := by decide +kernel
theorem eX11_runsOf_70 : decode MX11_runsOf.2.1 70 = .ok (.lload 4, 2) := by decide +kernel
theorem eX11_runsOf_72 : decode MX11_runsOf.2.1 72 = .ok (.ldc2_w 155, 3) := by decide +kernel
theorem eX11_runsOf_75 : decode MX11_runsOf.2.1 75 = .ok (.aload_n 0, 1) := by decide +kernel
theorem eX11_runsOf_76 : decode MX11_runsOf.2.1 76 = .ok (.getfield 70, 3) := by decide +kernel
theorem eX11_runsOf_79 : decode MX11_runsOf.2.1 79 = .ok (.iconst 0, 1) := by decide +kernel
theorem eX11_runsOf_80 : decode MX11_runsOf.2.1 80 = .ok (.laload, 1) := by decide +kernel
theorem eX11_runsOf_81 : decode MX11_runsOf.2.1 81 = .ok (.lmul, 1) := by decide +kernel
theorem eX11_runsOf_82 : decode MX11_runsOf.2.1 82 = .ok (.ladd, 1) := by decide +kernel
theorem eX11_runsOf_83 : decode MX11_runsOf.2.1 83 = .ok (.lastore, 1) := by decide +kernel
theorem eX11_runsOf_84 : decode MX11_runsOf.2.1 84 = .ok (.iconst 1, 1) := by decide +kernel
theorem eX11_runsOf_85 : decode MX11_runsOf.2.1 85 = .ok (.istore 6, 2) := by decide +kernel
theorem eX11_runsOf_87 : decode MX11_runsOf.2.1 87 = .ok (.iload 6, 2) := by decide +kernel
theorem eX11_runsOf_89 : decode MX11_runsOf.2.1 89 = .ok (.iload_n 2, 1) := by decide +kernel
theorem eX11_runsOf_90 : decode MX11_runsOf.2.1 90 = .ok (.if_icmp .gt 40, 3) := by decide +kernel
theorem eX11_runsOf_93 : decode MX11_runsOf.2.1 93 = .ok (.aload_n 0, 1) := by decide +kernel
theorem eX11_runsOf_94 : decode MX11_runsOf.2.1 94 = .ok (.getfield 73, 3) := by decide +kernel
theorem eX11_runsOf_97 : decode MX11_runsOf.2.1 97 = .ok (.iload 6, 2) := by decide +kernel
theorem eX11_runsOf_99 : decode MX11_runsOf.2.1 99 = .ok (.iload 6, 2) := by decide +kernel
theorem eX11_runsOf_101 : decode MX11_runsOf.2.1 101 = .ok (.iconst 1, 1) := by decide +kernel
theorem eX11_runsOf_102 : decode MX11_runsOf.2.1 102 = .ok (.if_icmp .ne 8, 3) := by decide +kernel
theorem eX11_runsOf_105 : decode MX11_runsOf.2.1 105 = .ok (.lload 4, 2) := by decide +kernel
theorem eX11_runsOf_107 : decode MX11_runsOf.2.1 107 = .ok (.goto 16, 3) := by decide +kernel
theorem eX11_runsOf_110 : decode MX11_runsOf.2.1 110 = .ok (.ldc2_w 155, 3) := by decide +kernel
theorem eX11_runsOf_113 : decode MX11_runsOf.2.1 113 = .ok (.aload_n 0, 1) := by decide +kernel
theorem eX11_runsOf_114 : decode MX11_runsOf.2.1 114 = .ok (.getfield 70, 3) := by decide +kernel
theorem eX11_runsOf_117 : decode MX11_runsOf.2.1 117 = .ok (.iload 6, 2) := by decide +kernel
theorem eX11_runsOf_119 : decode MX11_runsOf.2.1 119 = .ok (.iconst 1, 1) := by decide +kernel
theorem eX11_runsOf_120 : decode MX11_runsOf.2.1 120 = .ok (.isub, 1) := by decide +kernel
theorem eX11_runsOf_121 : decode MX11_runsOf.2.1 121 = .ok (.laload, 1) := by decide +kernel
theorem eX11_runsOf_122 : decode MX11_runsOf.2.1 122 = .ok (.lmul, 1) := by decide +kernel
theorem eX11_runsOf_123 : decode MX11_runsOf.2.1 123 = .ok (.lastore, 1) := by decide +kernel
theorem eX11_runsOf_124 : decode MX11_runsOf.2.1 124 = .ok (.iinc 6 1, 3) := by decide +kernel
theorem eX11_runsOf_127 : decode MX11_runsOf.2.1 127 = .ok (.goto (-40), 3) := by decide +kernel
theorem eX11_runsOf_130 : decode MX11_runsOf.2.1 130 = .ok (.iconst 0, 1) := by decide +kernel
theorem eX11_runsOf_131 : decode MX11_runsOf.2.1 131 = .ok (.istore 6, 2) := by decide +kernel
theorem eX11_runsOf_133 : decode MX11_runsOf.2.1 133 = .ok (.iload 6, 2) := by decide +kernel
theorem eX11_runsOf_135 : decode MX11_runsOf.2.1 135 = .ok (.iload_n 2, 1) := by decide +kernel
theorem eX11_runsOf_136 : decode MX11_runsOf.2.1 136 = .ok (.if_icmp .gt 23, 3) := by decide +kernel
theorem eX11_runsOf_139 : decode MX11_runsOf.2.1 139 = .ok (.aload_n 0, 1) := by decide +kernel
theorem eX11_runsOf_140 : decode MX11_runsOf.2.1 140 = .ok (.getfield 70, 3) := by decide +kernel
theorem eX11_runsOf_143 : decode MX11_runsOf.2.1 143 = .ok (.iload 6, 2) := by decide +kernel
theorem eX11_runsOf_145 : decode MX11_runsOf.2.1 145 = .ok (.aload_n 0, 1) := by decide +kernel
theorem eX11_runsOf_146 : decode MX11_runsOf.2.1 146 = .ok (.getfield 73, 3) := by decide +kernel
theorem eX11_runsOf_149 : decode MX11_runsOf.2.1 149 = .ok (.iload 6, 2) := by decide +kernel
theorem eX11_runsOf_151 : decode MX11_runsOf.2.1 151 = .ok (.laload, 1) := by decide +kernel
theorem eX11_runsOf_152 : decode MX11_runsOf.2.1 152 = .ok (.lastore, 1) := by decide +kernel
theorem eX11_runsOf_153 : decode MX11_runsOf.2.1 153 = .ok (.iinc 6 1, 3) := by decide +kernel
theorem eX11_runsOf_156 : decode MX11_runsOf.2.1 156 = .ok (.goto (-23), 3) := by decide +kernel
theorem eX11_runsOf_159 : decode MX11_runsOf.2.1 159 = .ok (.iinc 3 1, 3) := by decide +kernel
theorem eX11_runsOf_162 : decode MX11_runsOf.2.1 162 = .ok (.goto (-132), 3) := by decide +kernel
theorem eX11_runsOf_165 : decode MX11_runsOf.2.1 165 = .ok (.lconst 0, 1) := by decide +kernel
theorem eX11_runsOf_166 : decode MX11_runsOf.2.1 166 = .ok (.lstore_n 3, 1) := by decide +kernel
theorem eX11_runsOf_167 : decode MX11_runsOf.2.1 167 = .ok (.iconst 0, 1) := by decide +kernel
theorem eX11_runsOf_168 : decode MX11_runsOf.2.1 168 = .ok (.istore 5, 2) := by decide +kernel
theorem eX11_runsOf_170 : decode MX11_runsOf.2.1 170 = .ok (.iload 5, 2) := by decide +kernel
theorem eX11_runsOf_172 : decode MX11_runsOf.2.1 172 = .ok (.iload_n 2, 1) := by decide +kernel
theorem eX11_runsOf_173 : decode MX11_runsOf.2.1 173 = .ok (.if_icmp .gt 19, 3) := by decide +kernel
theorem eX11_runsOf_176 : decode MX11_runsOf.2.1 176 = .ok (.lload_n 3, 1) := by decide +kernel
theorem eX11_runsOf_177 : decode MX11_runsOf.2.1 177 = .ok (.aload_n 0, 1) := by decide +kernel
theorem eX11_runsOf_178 : decode MX11_runsOf.2.1 178 = .ok (.getfield 70, 3) := by decide +kernel
theorem eX11_runsOf_181 : decode MX11_runsOf.2.1 181 = .ok (.iload 5, 2) := by decide +kernel
theorem eX11_runsOf_183 : decode MX11_runsOf.2.1 183 = .ok (.laload, 1) := by decide +kernel
theorem eX11_runsOf_184 : decode MX11_runsOf.2.1 184 = .ok (.ladd, 1) := by decide +kernel
theorem eX11_runsOf_185 : decode MX11_runsOf.2.1 185 = .ok (.lstore_n 3, 1) := by decide +kernel
theorem eX11_runsOf_186 : decode MX11_runsOf.2.1 186 = .ok (.iinc 5 1, 3) := by decide +kernel
theorem eX11_runsOf_189 : decode MX11_runsOf.2.1 189 = .ok (.goto (-19), 3) := by decide +kernel
theorem eX11_runsOf_192 : decode MX11_runsOf.2.1 192 = .ok (.lload_n 3, 1) := by decide +kernel
theorem eX11_runsOf_193 : decode MX11_runsOf.2.1 193 = .ok (.lreturn, 1) := by decide +kernel
set_option maxRecDepth 20000 in
theorem bX11_runsOf_0 {d : Nat} {Q : Option Value → St → Prop} (x1 : Int32) (x2 : Int32) (σ : St) 
    (k1 : Run MX11_runsOf d 2 [some (.ref 88), some (.int x1), some (.int x2), some (.int 0), none, none, none] [] σ Q)
    : Run MX11_runsOf d 0 [some (.ref 88), some (.int x1), some (.int x2), none, none, none, none] [] σ Q := by
  refine (go_iconst (v := 0) eX11_runsOf_0 rfl).run ?_
  refine (go_istore_n 3 (L' := [some (.ref 88), some (.int x1), some (.int x2), some (.int 0), none, none, none]) eX11_runsOf_1 rfl (Nat.le_of_ble_eq_true rfl) rfl).run ?_
  exact k1

set_option maxRecDepth 20000 in
theorem bX11_runsOf_2 {d : Nat} {Q : Option Value → St → Prop} (x1 : Int32) (x2 : Int32) (x3 : Int32) (σ : St) 
    (g1 : x3 ≤ x2 → vp_in x3 33)
    (k1 : x2 < x3 → Run MX11_runsOf d 30 [some (.ref 88), some (.int x1), some (.int x2), some (.int 0), none, none, none] [] σ Q)
    (k2 : x3 ≤ x2 → Run MX11_runsOf d 2 [some (.ref 88), some (.int x1), some (.int x2), some (.int (x3 + 1)), none, none, none] [] (sJ σ 104 (vp_updL (σ.2 104) x3.toNatClampNeg (if x3 = 0 then (1 : Int64) else 0))) Q)
    : Run MX11_runsOf d 2 [some (.ref 88), some (.int x1), some (.int x2), some (.int x3), none, none, none] [] σ Q := by
  refine (go_iload_n 3 eX11_runsOf_2 rfl rfl).run ?_
  refine (go_iload_n 2 eX11_runsOf_3 rfl rfl).run ?_
  refine (bi_gt 28 eX11_runsOf_4 rfl).run (fun h1 => ?_) (fun h1 => ?_)
  · refine (go_iconst (v := 0) eX11_runsOf_28 rfl).run ?_
    refine (go_istore_n 3 (L' := [some (.ref 88), some (.int x1), some (.int x2), some (.int 0), none, none, none]) eX11_runsOf_29 rfl (Nat.le_of_ble_eq_true rfl) rfl).run ?_
    exact (k1 h1)
  · refine (go_aload_n 0 eX11_runsOf_7 rfl rfl).run ?_
    refine (go_getr flX11_70 rf_10_28 kd_88 gr_88_28 eX11_runsOf_8).run ?_
    refine (go_iload_n 3 eX11_runsOf_11 rfl rfl).run ?_
    refine (go_iload_n 3 eX11_runsOf_12 rfl rfl).run ?_
    have hJh2 : Run MX11_runsOf d 21 [some (.ref 88), some (.int x1), some (.int x2), some (.int x3), none, none, none] [.long (if x3 = 0 then (1 : Int64) else 0), .int x3, .ref 104] σ Q := by
      refine (go_last kd_104 ln_104 (g1 h1) eX11_runsOf_21).run ?_
      refine (go_iinc 3 (v := (x3 + 1)) (L' := [some (.ref 88), some (.int x1), some (.int x2), some (.int (x3 + 1)), none, none, none]) eX11_runsOf_22 rfl rfl (Nat.le_of_ble_eq_true rfl) rfl).run ?_
      refine (go_goto 2 eX11_runsOf_25 rfl).run ?_
      exact (k2 h1)
    refine (bz_ne 20 eX11_runsOf_13 rfl).run (fun h2 => ?_) (fun h2 => ?_)
    · refine (go_lconst (v := 0) eX11_runsOf_20 rfl).run ?_
      first | exact hJh2 | (simp only [if_neg (h2)] at hJh2; exact hJh2) | (simp only [eq_false h2, not_false_eq_true, true_and, and_true, false_and, and_false, true_or, or_true, false_or, or_false, not_true_eq_false, not_false_eq_true] at hJh2; exact hJh2) | exact Run.eq (by simp [eq_false h2, not_false_eq_true, bI]) (by simp [eq_false h2, not_false_eq_true, bI]) rfl hJh2
    · refine (go_lconst (v := 1) eX11_runsOf_16 rfl).run ?_
      refine (go_goto 21 eX11_runsOf_17 rfl).run ?_
      first | exact hJh2 | (simp only [if_pos h2] at hJh2; exact hJh2) | (simp only [eq_true h2, not_true_eq_false, true_and, and_true, false_and, and_false, true_or, or_true, false_or, or_false, not_true_eq_false, not_false_eq_true] at hJh2; exact hJh2) | exact Run.eq (by simp [eq_true h2, not_true_eq_false, bI]) (by simp [eq_true h2, not_true_eq_false, bI]) rfl hJh2

set_option maxRecDepth 20000 in
theorem bX11_runsOf_30 {d : Nat} {Q : Option Value → St → Prop} (x1 : Int32) (x2 : Int32) (x3 : Int32) (σ : St) 
    (k1 : x1 ≤ x3 → Run MX11_runsOf d 170 [some (.ref 88), none, some (.int x2), some (.long 0), none, some (.int 0), none] [] σ Q)
    (k2 : x3 < x1 → Run MX11_runsOf d 41 [some (.ref 88), some (.int x1), some (.int x2), some (.int x3), some (.long 0), none, some (.int 0)] [] σ Q)
    : Run MX11_runsOf d 30 [some (.ref 88), some (.int x1), some (.int x2), some (.int x3), none, none, none] [] σ Q := by
  refine (go_iload_n 3 eX11_runsOf_30 rfl rfl).run ?_
  refine (go_iload_n 1 eX11_runsOf_31 rfl rfl).run ?_
  refine (bi_ge 165 eX11_runsOf_32 rfl).run (fun h1 => ?_) (fun h1 => ?_)
  · refine (go_lconst (v := 0) eX11_runsOf_165 rfl).run ?_
    refine (go_lstore_n 3 (L' := [some (.ref 88), some (.int x1), some (.int x2), some (.long 0), none, none, none]) eX11_runsOf_166 rfl (Nat.le_of_ble_eq_true rfl) rfl).run ?_
    refine (go_iconst (v := 0) eX11_runsOf_167 rfl).run ?_
    refine (go_istore 5 (L' := [some (.ref 88), some (.int x1), some (.int x2), some (.long 0), none, some (.int 0), none]) eX11_runsOf_168 (Nat.le_of_ble_eq_true rfl) rfl).run ?_
    refine (go_sub (L' := [some (.ref 88), none, some (.int x2), some (.long 0), none, some (.int 0), none]) (lsub_keep (lsub_drop (lsub_keep (lsub_keep (lsub_keep (lsub_keep (lsub_keep lsub_nil)))))))).run ?_
    exact (k1 h1)
  · refine (go_lconst (v := 0) eX11_runsOf_35 rfl).run ?_
    refine (go_lstore 4 (L' := [some (.ref 88), some (.int x1), some (.int x2), some (.int x3), some (.long 0), none, none]) eX11_runsOf_36 (Nat.le_of_ble_eq_true rfl) rfl).run ?_
    refine (go_iconst (v := 0) eX11_runsOf_38 rfl).run ?_
    refine (go_istore 6 (L' := [some (.ref 88), some (.int x1), some (.int x2), some (.int x3), some (.long 0), none, some (.int 0)]) eX11_runsOf_39 (Nat.le_of_ble_eq_true rfl) rfl).run ?_
    exact (k2 h1)

set_option maxRecDepth 20000 in
theorem bX11_runsOf_170 {d : Nat} {Q : Option Value → St → Prop} (x2 : Int32) (x3 : Int64) (x5 : Int32) (σ : St) 
    (g1 : x5 ≤ x2 → vp_in x5 33)
    (k1 : x2 < x5 → Q (some (.long x3)) σ)
    (k2 : x5 ≤ x2 → Run MX11_runsOf d 170 [some (.ref 88), none, some (.int x2), some (.long (x3 + (σ.2 104 x5.toNatClampNeg))), none, some (.int (x5 + 1)), none] [] σ Q)
    : Run MX11_runsOf d 170 [some (.ref 88), none, some (.int x2), some (.long x3), none, some (.int x5), none] [] σ Q := by
  refine (go_iload 5 eX11_runsOf_170 rfl).run ?_
  refine (go_iload_n 2 eX11_runsOf_172 rfl rfl).run ?_
  refine (bi_gt 192 eX11_runsOf_173 rfl).run (fun h1 => ?_) (fun h1 => ?_)
  · refine (go_lload_n 3 eX11_runsOf_192 rfl rfl).run ?_
    exact Run.ret (v := some (.long x3)) (k1 h1) ⟨rfl, eX11_runsOf_193⟩ rfl
  · refine (go_lload_n 3 eX11_runsOf_176 rfl rfl).run ?_
    refine (go_aload_n 0 eX11_runsOf_177 rfl rfl).run ?_
    refine (go_getr flX11_70 rf_10_28 kd_88 gr_88_28 eX11_runsOf_178).run ?_
    refine (go_iload 5 eX11_runsOf_181 rfl).run ?_
    refine (go_lald kd_104 ln_104 (g1 h1) eX11_runsOf_183).run ?_
    refine (go_ladd eX11_runsOf_184).run ?_
    refine (go_lstore_n 3 (L' := [some (.ref 88), none, some (.int x2), some (.long (x3 + (σ.2 104 x5.toNatClampNeg))), none, some (.int x5), none]) eX11_runsOf_185 rfl (Nat.le_of_ble_eq_true rfl) rfl).run ?_
    refine (go_iinc 5 (v := (x5 + 1)) (L' := [some (.ref 88), none, some (.int x2), some (.long (x3 + (σ.2 104 x5.toNatClampNeg))), none, some (.int (x5 + 1)), none]) eX11_runsOf_186 rfl rfl (Nat.le_of_ble_eq_true rfl) rfl).run ?_
    refine (go_goto 170 eX11_runsOf_189 rfl).run ?_
    exact (k2 h1)

set_option maxRecDepth 20000 in
theorem bX11_runsOf_41 {d : Nat} {Q : Option Value → St → Prop} (x1 : Int32) (x2 : Int32) (x3 : Int32) (x4 : Int64) (x6 : Int32) (σ : St) 
    (g1 : x6 ≤ x2 → vp_in x6 33)
    (k1 : x2 < x6 → Run MX11_runsOf d 87 [some (.ref 88), some (.int x1), some (.int x2), some (.int x3), some (.long x4), none, some (.int 1)] [] (sJ σ 105 (vp_updL (σ.2 105) ((0 : Int32).toNatClampNeg) (x4 + ((2 : Int64) * (σ.2 104 ((0 : Int32).toNatClampNeg)))))) Q)
    (k2 : x6 ≤ x2 → Run MX11_runsOf d 41 [some (.ref 88), some (.int x1), some (.int x2), some (.int x3), some (.long (x4 + (σ.2 104 x6.toNatClampNeg))), none, some (.int (x6 + 1))] [] σ Q)
    : Run MX11_runsOf d 41 [some (.ref 88), some (.int x1), some (.int x2), some (.int x3), some (.long x4), none, some (.int x6)] [] σ Q := by
  refine (go_iload 6 eX11_runsOf_41 rfl).run ?_
  refine (go_iload_n 2 eX11_runsOf_43 rfl rfl).run ?_
  refine (bi_gt 65 eX11_runsOf_44 rfl).run (fun h1 => ?_) (fun h1 => ?_)
  · refine (go_aload_n 0 eX11_runsOf_65 rfl rfl).run ?_
    refine (go_getr flX11_73 rf_10_29 kd_88 gr_88_29 eX11_runsOf_66).run ?_
    refine (go_iconst (v := 0) eX11_runsOf_69 rfl).run ?_
    refine (go_lload 4 eX11_runsOf_70 rfl).run ?_
    refine (go_ldc2 csX11_155 eX11_runsOf_72).run ?_
    refine (go_aload_n 0 eX11_runsOf_75 rfl rfl).run ?_
    refine (go_getr flX11_70 rf_10_28 kd_88 gr_88_28 eX11_runsOf_76).run ?_
    refine (go_iconst (v := 0) eX11_runsOf_79 rfl).run ?_
    refine (go_lald kd_104 ln_104 (vp_lit rfl rfl) eX11_runsOf_80).run ?_
    refine (go_lmul eX11_runsOf_81).run ?_
    refine (go_ladd eX11_runsOf_82).run ?_
    refine (go_last kd_105 ln_105 (vp_lit rfl rfl) eX11_runsOf_83).run ?_
    refine (go_iconst (v := 1) eX11_runsOf_84 rfl).run ?_
    refine (go_istore 6 (L' := [some (.ref 88), some (.int x1), some (.int x2), some (.int x3), some (.long x4), none, some (.int 1)]) eX11_runsOf_85 (Nat.le_of_ble_eq_true rfl) rfl).run ?_
    exact (k1 h1)
  · refine (go_lload 4 eX11_runsOf_47 rfl).run ?_
    refine (go_aload_n 0 eX11_runsOf_49 rfl rfl).run ?_
    refine (go_getr flX11_70 rf_10_28 kd_88 gr_88_28 eX11_runsOf_50).run ?_
    refine (go_iload 6 eX11_runsOf_53 rfl).run ?_
    refine (go_lald kd_104 ln_104 (g1 h1) eX11_runsOf_55).run ?_
    refine (go_ladd eX11_runsOf_56).run ?_
    refine (go_lstore 4 (L' := [some (.ref 88), some (.int x1), some (.int x2), some (.int x3), some (.long (x4 + (σ.2 104 x6.toNatClampNeg))), none, some (.int x6)]) eX11_runsOf_57 (Nat.le_of_ble_eq_true rfl) rfl).run ?_
    refine (go_iinc 6 (v := (x6 + 1)) (L' := [some (.ref 88), some (.int x1), some (.int x2), some (.int x3), some (.long (x4 + (σ.2 104 x6.toNatClampNeg))), none, some (.int (x6 + 1))]) eX11_runsOf_59 rfl rfl (Nat.le_of_ble_eq_true rfl) rfl).run ?_
    refine (go_goto 41 eX11_runsOf_62 rfl).run ?_
    exact (k2 h1)

set_option maxRecDepth 20000 in
theorem bX11_runsOf_87 {d : Nat} {Q : Option Value → St → Prop} (x1 : Int32) (x2 : Int32) (x3 : Int32) (x4 : Int64) (x6 : Int32) (σ : St) 
    (g1 : x6 ≤ x2 → ¬ x6 = 1 → vp_in (x6 - 1) 33)
    (g2 : x6 ≤ x2 → vp_in x6 33)
    (k1 : x2 < x6 → Run MX11_runsOf d 133 [some (.ref 88), some (.int x1), some (.int x2), some (.int x3), none, none, some (.int 0)] [] σ Q)
    (k2 : x6 ≤ x2 → Run MX11_runsOf d 87 [some (.ref 88), some (.int x1), some (.int x2), some (.int x3), some (.long x4), none, some (.int (x6 + 1))] [] (sJ σ 105 (vp_updL (σ.2 105) x6.toNatClampNeg (if x6 = 1 then x4 else ((2 : Int64) * (σ.2 104 (x6 - 1).toNatClampNeg))))) Q)
    : Run MX11_runsOf d 87 [some (.ref 88), some (.int x1), some (.int x2), some (.int x3), some (.long x4), none, some (.int x6)] [] σ Q := by
  refine (go_iload 6 eX11_runsOf_87 rfl).run ?_
  refine (go_iload_n 2 eX11_runsOf_89 rfl rfl).run ?_
  refine (bi_gt 130 eX11_runsOf_90 rfl).run (fun h1 => ?_) (fun h1 => ?_)
  · refine (go_iconst (v := 0) eX11_runsOf_130 rfl).run ?_
    refine (go_istore 6 (L' := [some (.ref 88), some (.int x1), some (.int x2), some (.int x3), some (.long x4), none, some (.int 0)]) eX11_runsOf_131 (Nat.le_of_ble_eq_true rfl) rfl).run ?_
    refine (go_sub (L' := [some (.ref 88), some (.int x1), some (.int x2), some (.int x3), none, none, some (.int 0)]) (lsub_keep (lsub_keep (lsub_keep (lsub_keep (lsub_drop (lsub_keep (lsub_keep lsub_nil)))))))).run ?_
    exact (k1 h1)
  · refine (go_aload_n 0 eX11_runsOf_93 rfl rfl).run ?_
    refine (go_getr flX11_73 rf_10_29 kd_88 gr_88_29 eX11_runsOf_94).run ?_
    refine (go_iload 6 eX11_runsOf_97 rfl).run ?_
    refine (go_iload 6 eX11_runsOf_99 rfl).run ?_
    refine (go_iconst (v := 1) eX11_runsOf_101 rfl).run ?_
    have hJh2 : Run MX11_runsOf d 123 [some (.ref 88), some (.int x1), some (.int x2), some (.int x3), some (.long x4), none, some (.int x6)] [.long (if x6 = 1 then x4 else ((2 : Int64) * (σ.2 104 (x6 - 1).toNatClampNeg))), .int x6, .ref 105] σ Q := by
      refine (go_last kd_105 ln_105 (g2 h1) eX11_runsOf_123).run ?_
      refine (go_iinc 6 (v := (x6 + 1)) (L' := [some (.ref 88), some (.int x1), some (.int x2), some (.int x3), some (.long x4), none, some (.int (x6 + 1))]) eX11_runsOf_124 rfl rfl (Nat.le_of_ble_eq_true rfl) rfl).run ?_
      refine (go_goto 87 eX11_runsOf_127 rfl).run ?_
      exact (k2 h1)
    refine (bi_ne 110 eX11_runsOf_102 rfl).run (fun h2 => ?_) (fun h2 => ?_)
    · refine (go_ldc2 csX11_155 eX11_runsOf_110).run ?_
      refine (go_aload_n 0 eX11_runsOf_113 rfl rfl).run ?_
      refine (go_getr flX11_70 rf_10_28 kd_88 gr_88_28 eX11_runsOf_114).run ?_
      refine (go_iload 6 eX11_runsOf_117 rfl).run ?_
      refine (go_iconst (v := 1) eX11_runsOf_119 rfl).run ?_
      refine (go_isub eX11_runsOf_120).run ?_
      refine (go_lald kd_104 ln_104 (g1 h1 h2) eX11_runsOf_121).run ?_
      refine (go_lmul eX11_runsOf_122).run ?_
      first | exact hJh2 | (simp only [if_neg (h2)] at hJh2; exact hJh2) | (simp only [eq_false h2, not_false_eq_true, true_and, and_true, false_and, and_false, true_or, or_true, false_or, or_false, not_true_eq_false, not_false_eq_true] at hJh2; exact hJh2) | exact Run.eq (by simp [eq_false h2, not_false_eq_true, bI]) (by simp [eq_false h2, not_false_eq_true, bI]) rfl hJh2
    · refine (go_lload 4 eX11_runsOf_105 rfl).run ?_
      refine (go_goto 123 eX11_runsOf_107 rfl).run ?_
      first | exact hJh2 | (simp only [if_pos h2] at hJh2; exact hJh2) | (simp only [eq_true h2, not_true_eq_false, true_and, and_true, false_and, and_false, true_or, or_true, false_or, or_false, not_true_eq_false, not_false_eq_true] at hJh2; exact hJh2) | exact Run.eq (by simp [eq_true h2, not_true_eq_false, bI]) (by simp [eq_true h2, not_true_eq_false, bI]) rfl hJh2

set_option maxRecDepth 20000 in
theorem bX11_runsOf_133 {d : Nat} {Q : Option Value → St → Prop} (x1 : Int32) (x2 : Int32) (x3 : Int32) (x6 : Int32) (σ : St) 
    (g1 : x6 ≤ x2 → vp_in x6 33)
    (k1 : x2 < x6 → Run MX11_runsOf d 30 [some (.ref 88), some (.int x1), some (.int x2), some (.int (x3 + 1)), none, none, none] [] σ Q)
    (k2 : x6 ≤ x2 → Run MX11_runsOf d 133 [some (.ref 88), some (.int x1), some (.int x2), some (.int x3), none, none, some (.int (x6 + 1))] [] (sJ σ 104 (vp_updL (σ.2 104) x6.toNatClampNeg (σ.2 105 x6.toNatClampNeg))) Q)
    : Run MX11_runsOf d 133 [some (.ref 88), some (.int x1), some (.int x2), some (.int x3), none, none, some (.int x6)] [] σ Q := by
  refine (go_iload 6 eX11_runsOf_133 rfl).run ?_
  refine (go_iload_n 2 eX11_runsOf_135 rfl rfl).run ?_
  refine (bi_gt 159 eX11_runsOf_136 rfl).run (fun h1 => ?_) (fun h1 => ?_)
  · refine (go_iinc 3 (v := (x3 + 1)) (L' := [some (.ref 88), some (.int x1), some (.int x2), some (.int (x3 + 1)), none, none, some (.int x6)]) eX11_runsOf_159 rfl rfl (Nat.le_of_ble_eq_true rfl) rfl).run ?_
    refine (go_goto 30 eX11_runsOf_162 rfl).run ?_
    refine (go_sub (L' := [some (.ref 88), some (.int x1), some (.int x2), some (.int (x3 + 1)), none, none, none]) (lsub_keep (lsub_keep (lsub_keep (lsub_keep (lsub_keep (lsub_keep (lsub_drop lsub_nil)))))))).run ?_
    exact (k1 h1)
  · refine (go_aload_n 0 eX11_runsOf_139 rfl rfl).run ?_
    refine (go_getr flX11_70 rf_10_28 kd_88 gr_88_28 eX11_runsOf_140).run ?_
    refine (go_iload 6 eX11_runsOf_143 rfl).run ?_
    refine (go_aload_n 0 eX11_runsOf_145 rfl rfl).run ?_
    refine (go_getr flX11_73 rf_10_29 kd_88 gr_88_29 eX11_runsOf_146).run ?_
    refine (go_iload 6 eX11_runsOf_149 rfl).run ?_
    refine (go_lald kd_105 ln_105 (g1 h1) eX11_runsOf_151).run ?_
    refine (go_last kd_104 ln_104 (g1 h1) eX11_runsOf_152).run ?_
    refine (go_iinc 6 (v := (x6 + 1)) (L' := [some (.ref 88), some (.int x1), some (.int x2), some (.int x3), none, none, some (.int (x6 + 1))]) eX11_runsOf_153 rfl rfl (Nat.le_of_ble_eq_true rfl) rfl).run ?_
    refine (go_goto 133 eX11_runsOf_156 rfl).run ?_
    exact (k2 h1)

/-! CarryNetsModel.runs -/
theorem eX11_runs_0 : decode MX11_runs.2.1 0 = .ok (.iload_n 1, 1) := by decide +kernel
theorem eX11_runs_1 : decode MX11_runs.2.1 1 = .ok (.i2l, 1) := by decide +kernel
theorem eX11_runs_2 : decode MX11_runs.2.1 2 = .ok (.lconst 1, 1) := by decide +kernel
theorem eX11_runs_3 : decode MX11_runs.2.1 3 = .ok (.ldc2_w 201, 3) := by decide +kernel
theorem eX11_runs_6 : decode MX11_runs.2.1 6 = .ok (.invokestatic 109, 3) := by decide +kernel
theorem eX11_runs_9 : decode MX11_runs.2.1 9 = .ok (.ifCond .eq 23, 3) := by decide +kernel
theorem eX11_runs_12 : decode MX11_runs.2.1 12 = .ok (.iload_n 2, 1) := by decide +kernel
theorem eX11_runs_13 : decode MX11_runs.2.1 13 = .ok (.i2l, 1) := by decide +kernel
theorem eX11_runs_14 : decode MX11_runs.2.1 14 = .ok (.lconst 0, 1) := by decide +kernel
theorem eX11_runs_15 : decode MX11_runs.2.1 15 = .ok (.iload_n 1, 1) := by decide +kernel
theorem eX11_runs_16 : decode MX11_runs.2.1 16 = .ok (.i2l, 1) := by decide +kernel
theorem eX11_runs_17 : decode MX11_runs.2.1 17 = .ok (.invokestatic 109, 3) := by decide +kernel
theorem eX11_runs_20 : decode MX11_runs.2.1 20 = .ok (.ifCond .eq 12, 3) := by decide +kernel
theorem eX11_runs_23 : decode MX11_runs.2.1 23 = .ok (.aload_n 0, 1) := by decide +kernel
theorem eX11_runs_24 : decode MX11_runs.2.1 24 = .ok (.iload_n 1, 1) := by decide +kernel
theorem eX11_runs_25 : decode MX11_runs.2.1 25 = .ok (.iload_n 2, 1) := by decide +kernel
theorem eX11_runs_26 : decode MX11_runs.2.1 26 = .ok (.invokevirtual 260, 3) := by decide +kernel
theorem eX11_runs_29 : decode MX11_runs.2.1 29 = .ok (.goto 6, 3) := by decide +kernel
theorem eX11_runs_32 : decode MX11_runs.2.1 32 = .ok (.ldc2_w 205, 3) := by decide +kernel
theorem eX11_runs_35 : decode MX11_runs.2.1 35 = .ok (.lreturn, 1) := by decide +kernel
set_option maxRecDepth 20000 in
theorem bX11_runs_0 {d : Nat} {Q : Option Value → St → Prop} (x1 : Int32) (x2 : Int32) (σ : St) 
    (k1 : (¬ ((1 : Int64) ≤ x1.toInt64 ∧ x1.toInt64 ≤ (31 : Int64))) → Q (some (.long (-1))) σ)
    (k2 : ((1 : Int64) ≤ x1.toInt64 ∧ x1.toInt64 ≤ (31 : Int64)) → (¬ ((0 : Int64) ≤ x2.toInt64 ∧ x2.toInt64 ≤ x1.toInt64)) → Q (some (.long (-1))) σ)
    (k3 : ((1 : Int64) ≤ x1.toInt64 ∧ x1.toInt64 ≤ (31 : Int64)) → ((0 : Int64) ≤ x2.toInt64 ∧ x2.toInt64 ≤ x1.toInt64) → Ct yX11_runsOf MX11_runsOf d [.ref 88, .int x1, .int x2] σ (fun v σ1 => Run MX11_runs (d + 1) 29 [none, none, none] (v.toList ++ []) σ1 Q))
    : Run MX11_runs (d + 1) 0 [some (.ref 88), some (.int x1), some (.int x2)] [] σ Q := by
  refine (go_iload_n 1 eX11_runs_0 rfl rfl).run ?_
  refine (go_i2l eX11_runs_1).run ?_
  refine (go_lconst (v := 1) eX11_runs_2 rfl).run ?_
  refine (go_ldc2 csX11_201 eX11_runs_3).run ?_
  refine Run.callS1 (d := d) (As := [.long x1.toInt64, .long 1, .long (31)]) (r := .int (bI ((1 : Int64) ≤ x1.toInt64 ∧ x1.toInt64 ≤ (31 : Int64)))) mX11_in lkX11_109 rfl rfl rfl (Nat.le_of_ble_eq_true rfl) eX11_runs_6 (qX11_in d x1.toInt64 (1 : Int64) (31 : Int64) σ  ) ?_
  refine (br_ifeq_b 32 eX11_runs_9 rfl).run (fun h1 => ?_) (fun h1 => ?_)
  · refine (go_ldc2 csX11_205 eX11_runs_32).run ?_
    exact Run.ret (v := some (.long (-1))) (k1 h1) ⟨rfl, eX11_runs_35⟩ rfl
  · refine (go_iload_n 2 eX11_runs_12 rfl rfl).run ?_
    refine (go_i2l eX11_runs_13).run ?_
    refine (go_lconst (v := 0) eX11_runs_14 rfl).run ?_
    refine (go_iload_n 1 eX11_runs_15 rfl rfl).run ?_
    refine (go_i2l eX11_runs_16).run ?_
    refine Run.callS1 (d := d) (As := [.long x2.toInt64, .long 0, .long x1.toInt64]) (r := .int (bI ((0 : Int64) ≤ x2.toInt64 ∧ x2.toInt64 ≤ x1.toInt64))) mX11_in lkX11_109 rfl rfl rfl (Nat.le_of_ble_eq_true rfl) eX11_runs_17 (qX11_in d x2.toInt64 (0 : Int64) x1.toInt64 σ  ) ?_
    refine (br_ifeq_b 32 eX11_runs_20 rfl).run (fun h2 => ?_) (fun h2 => ?_)
    · refine (go_ldc2 csX11_205 eX11_runs_32).run ?_
      exact Run.ret (v := some (.long (-1))) (k2 h1 h2) ⟨rfl, eX11_runs_35⟩ rfl
    · refine (go_aload_n 0 eX11_runs_23 rfl rfl).run ?_
      refine (go_iload_n 1 eX11_runs_24 rfl rfl).run ?_
      refine (go_iload_n 2 eX11_runs_25 rfl rfl).run ?_
      refine (go_sub (L' := [none, none, none]) (lsub_drop (lsub_drop (lsub_drop lsub_nil)))).run ?_
      exact Run.callV (d := d) (As := [.int x1, .int x2]) mX11_runsOf lkX11_260 kd_88 (by decide) rfl rfl rfl rfl rfl (Nat.le_of_ble_eq_true rfl) eX11_runs_26 (k3 h1 h2)

set_option maxRecDepth 20000 in
theorem bX11_runs_29 {d : Nat} {Q : Option Value → St → Prop} (s0 : Int64) (σ : St) 
    (k1 : Q (some (.long s0)) σ)
    : Run MX11_runs (d + 1) 29 [none, none, none] [.long s0] σ Q := by
  refine (go_goto 35 eX11_runs_29 rfl).run ?_
  exact Run.ret (v := some (.long s0)) k1 ⟨rfl, eX11_runs_35⟩ rfl

/-! CarryNetsModel.mean -/
theorem eX11_mean_0 : decode MX11_mean.2.1 0 = .ok (.iload_n 1, 1) := by decide +kernel
theorem eX11_mean_1 : decode MX11_mean.2.1 1 = .ok (.i2l, 1) := by decide +kernel
theorem eX11_mean_2 : decode MX11_mean.2.1 2 = .ok (.lconst 1, 1) := by decide +kernel
theorem eX11_mean_3 : decode MX11_mean.2.1 3 = .ok (.ldc2_w 242, 3) := by decide +kernel
theorem eX11_mean_6 : decode MX11_mean.2.1 6 = .ok (.invokestatic 109, 3) := by decide +kernel
theorem eX11_mean_9 : decode MX11_mean.2.1 9 = .ok (.ifCond .eq 13, 3) := by decide +kernel
theorem eX11_mean_12 : decode MX11_mean.2.1 12 = .ok (.iload_n 2, 1) := by decide +kernel
theorem eX11_mean_13 : decode MX11_mean.2.1 13 = .ok (.i2l, 1) := by decide +kernel
theorem eX11_mean_14 : decode MX11_mean.2.1 14 = .ok (.lconst 0, 1) := by decide +kernel
theorem eX11_mean_15 : decode MX11_mean.2.1 15 = .ok (.lconst 1, 1) := by decide +kernel
theorem eX11_mean_16 : decode MX11_mean.2.1 16 = .ok (.invokestatic 109, 3) := by decide +kernel
theorem eX11_mean_19 : decode MX11_mean.2.1 19 = .ok (.ifCond .ne 7, 3) := by decide +kernel
theorem eX11_mean_22 : decode MX11_mean.2.1 22 = .ok (.ldc2_w 205, 3) := by decide +kernel
theorem eX11_mean_25 : decode MX11_mean.2.1 25 = .ok (.lreturn, 1) := by decide +kernel
theorem eX11_mean_26 : decode MX11_mean.2.1 26 = .ok (.lconst 1, 1) := by decide +kernel
theorem eX11_mean_27 : decode MX11_mean.2.1 27 = .ok (.iconst 2, 1) := by decide +kernel
theorem eX11_mean_28 : decode MX11_mean.2.1 28 = .ok (.iload_n 1, 1) := by decide +kernel
theorem eX11_mean_29 : decode MX11_mean.2.1 29 = .ok (.imul, 1) := by decide +kernel
theorem eX11_mean_30 : decode MX11_mean.2.1 30 = .ok (.lshl, 1) := by decide +kernel
theorem eX11_mean_31 : decode MX11_mean.2.1 31 = .ok (.lstore_n 3, 1) := by decide +kernel
theorem eX11_mean_32 : decode MX11_mean.2.1 32 = .ok (.lconst 0, 1) := by decide +kernel
theorem eX11_mean_33 : decode MX11_mean.2.1 33 = .ok (.lstore 5, 2) := by decide +kernel
theorem eX11_mean_35 : decode MX11_mean.2.1 35 = .ok (.iconst 0, 1) := by decide +kernel
theorem eX11_mean_36 : decode MX11_mean.2.1 36 = .ok (.istore 7, 2) := by decide +kernel
theorem eX11_mean_38 : decode MX11_mean.2.1 38 = .ok (.iload 7, 2) := by decide +kernel
theorem eX11_mean_40 : decode MX11_mean.2.1 40 = .ok (.iload_n 1, 1) := by decide +kernel
theorem eX11_mean_41 : decode MX11_mean.2.1 41 = .ok (.if_icmp .ge 23, 3) := by decide +kernel
theorem eX11_mean_44 : decode MX11_mean.2.1 44 = .ok (.lload 5, 2) := by decide +kernel
theorem eX11_mean_46 : decode MX11_mean.2.1 46 = .ok (.lload_n 3, 1) := by decide +kernel
theorem eX11_mean_47 : decode MX11_mean.2.1 47 = .ok (.aload_n 0, 1) := by decide +kernel
theorem eX11_mean_48 : decode MX11_mean.2.1 48 = .ok (.iload_n 1, 1) := by decide +kernel
theorem eX11_mean_49 : decode MX11_mean.2.1 49 = .ok (.iload 7, 2) := by decide +kernel
theorem eX11_mean_51 : decode MX11_mean.2.1 51 = .ok (.invokevirtual 260, 3) := by decide +kernel
theorem eX11_mean_54 : decode MX11_mean.2.1 54 = .ok (.lsub, 1) := by decide +kernel
theorem eX11_mean_55 : decode MX11_mean.2.1 55 = .ok (.ladd, 1) := by decide +kernel
theorem eX11_mean_56 : decode MX11_mean.2.1 56 = .ok (.lstore 5, 2) := by decide +kernel
theorem eX11_mean_58 : decode MX11_mean.2.1 58 = .ok (.iinc 7 1, 3) := by decide +kernel
theorem eX11_mean_61 : decode MX11_mean.2.1 61 = .ok (.goto (-23), 3) := by decide +kernel
theorem eX11_mean_64 : decode MX11_mean.2.1 64 = .ok (.lload 5, 2) := by decide +kernel
theorem eX11_mean_66 : decode MX11_mean.2.1 66 = .ok (.lstore 7, 2) := by decide +kernel
theorem eX11_mean_68 : decode MX11_mean.2.1 68 = .ok (.lload_n 3, 1) := by decide +kernel
theorem eX11_mean_69 : decode MX11_mean.2.1 69 = .ok (.lstore 9, 2) := by decide +kernel
theorem eX11_mean_71 : decode MX11_mean.2.1 71 = .ok (.lload 9, 2) := by decide +kernel
theorem eX11_mean_73 : decode MX11_mean.2.1 73 = .ok (.lconst 0, 1) := by decide +kernel
theorem eX11_mean_74 : decode MX11_mean.2.1 74 = .ok (.lcmp, 1) := by decide +kernel
theorem eX11_mean_75 : decode MX11_mean.2.1 75 = .ok (.ifCond .eq 21, 3) := by decide +kernel
theorem eX11_mean_78 : decode MX11_mean.2.1 78 = .ok (.lload 7, 2) := by decide +kernel
theorem eX11_mean_80 : decode MX11_mean.2.1 80 = .ok (.lload 9, 2) := by decide +kernel
theorem eX11_mean_82 : decode MX11_mean.2.1 82 = .ok (.lrem, 1) := by decide +kernel
theorem eX11_mean_83 : decode MX11_mean.2.1 83 = .ok (.lstore 11, 2) := by decide +kernel
theorem eX11_mean_85 : decode MX11_mean.2.1 85 = .ok (.lload 9, 2) := by decide +kernel
theorem eX11_mean_87 : decode MX11_mean.2.1 87 = .ok (.lstore 7, 2) := by decide +kernel
theorem eX11_mean_89 : decode MX11_mean.2.1 89 = .ok (.lload 11, 2) := by decide +kernel
theorem eX11_mean_91 : decode MX11_mean.2.1 91 = .ok (.lstore 9, 2) := by decide +kernel
theorem eX11_mean_93 : decode MX11_mean.2.1 93 = .ok (.goto (-22), 3) := by decide +kernel
theorem eX11_mean_96 : decode MX11_mean.2.1 96 = .ok (.iload_n 2, 1) := by decide +kernel
theorem eX11_mean_97 : decode MX11_mean.2.1 97 = .ok (.ifCond .ne 11, 3) := by decide +kernel
theorem eX11_mean_100 : decode MX11_mean.2.1 100 = .ok (.lload 5, 2) := by decide +kernel
theorem eX11_mean_102 : decode MX11_mean.2.1 102 = .ok (.lload 7, 2) := by decide +kernel
theorem eX11_mean_104 : decode MX11_mean.2.1 104 = .ok (.ldiv, 1) := by decide +kernel
theorem eX11_mean_105 : decode MX11_mean.2.1 105 = .ok (.goto 7, 3) := by decide +kernel
theorem eX11_mean_108 : decode MX11_mean.2.1 108 = .ok (.lload_n 3, 1) := by decide +kernel
theorem eX11_mean_109 : decode MX11_mean.2.1 109 = .ok (.lload 7, 2) := by decide +kernel
theorem eX11_mean_111 : decode MX11_mean.2.1 111 = .ok (.ldiv, 1) := by decide +kernel
theorem eX11_mean_112 : decode MX11_mean.2.1 112 = .ok (.lreturn, 1) := by decide +kernel
set_option maxRecDepth 20000 in
theorem bX11_mean_0 {d : Nat} {Q : Option Value → St → Prop} (x1 : Int32) (x2 : Int32) (σ : St) 
    (k1 : (¬ ((1 : Int64) ≤ x1.toInt64 ∧ x1.toInt64 ≤ (15 : Int64))) → Q (some (.long (-1))) σ)
    (k2 : ((1 : Int64) ≤ x1.toInt64 ∧ x1.toInt64 ≤ (15 : Int64)) → ((0 : Int64) ≤ x2.toInt64 ∧ x2.toInt64 ≤ (1 : Int64)) → Run MX11_mean (d + 1) 38 [some (.ref 88), some (.int x1), some (.int x2), some (.long ((1 : Int64) <<< (((2 : Int32) * x1).toInt64 &&& 63))), none, some (.long 0), none, some (.int 0), none, none, none, none, none] [] σ Q)
    (k3 : ((1 : Int64) ≤ x1.toInt64 ∧ x1.toInt64 ≤ (15 : Int64)) → (¬ ((0 : Int64) ≤ x2.toInt64 ∧ x2.toInt64 ≤ (1 : Int64))) → Q (some (.long (-1))) σ)
    : Run MX11_mean (d + 1) 0 [some (.ref 88), some (.int x1), some (.int x2), none, none, none, none, none, none, none, none, none, none] [] σ Q := by
  refine (go_iload_n 1 eX11_mean_0 rfl rfl).run ?_
  refine (go_i2l eX11_mean_1).run ?_
  refine (go_lconst (v := 1) eX11_mean_2 rfl).run ?_
  refine (go_ldc2 csX11_242 eX11_mean_3).run ?_
  refine Run.callS1 (d := d) (As := [.long x1.toInt64, .long 1, .long (15)]) (r := .int (bI ((1 : Int64) ≤ x1.toInt64 ∧ x1.toInt64 ≤ (15 : Int64)))) mX11_in lkX11_109 rfl rfl rfl (Nat.le_of_ble_eq_true rfl) eX11_mean_6 (qX11_in d x1.toInt64 (1 : Int64) (15 : Int64) σ  ) ?_
  refine (br_ifeq_b 22 eX11_mean_9 rfl).run (fun h1 => ?_) (fun h1 => ?_)
  · refine (go_ldc2 csX11_205 eX11_mean_22).run ?_
    exact Run.ret (v := some (.long (-1))) (k1 h1) ⟨rfl, eX11_mean_25⟩ rfl
  · refine (go_iload_n 2 eX11_mean_12 rfl rfl).run ?_
    refine (go_i2l eX11_mean_13).run ?_
    refine (go_lconst (v := 0) eX11_mean_14 rfl).run ?_
    refine (go_lconst (v := 1) eX11_mean_15 rfl).run ?_
    refine Run.callS1 (d := d) (As := [.long x2.toInt64, .long 0, .long 1]) (r := .int (bI ((0 : Int64) ≤ x2.toInt64 ∧ x2.toInt64 ≤ (1 : Int64)))) mX11_in lkX11_109 rfl rfl rfl (Nat.le_of_ble_eq_true rfl) eX11_mean_16 (qX11_in d x2.toInt64 (0 : Int64) (1 : Int64) σ  ) ?_
    refine (br_ifne_b 26 eX11_mean_19 rfl).run (fun h2 => ?_) (fun h2 => ?_)
    · refine (go_lconst (v := 1) eX11_mean_26 rfl).run ?_
      refine (go_iconst (v := 2) eX11_mean_27 rfl).run ?_
      refine (go_iload_n 1 eX11_mean_28 rfl rfl).run ?_
      refine (go_imul eX11_mean_29).run ?_
      refine (go_lshl eX11_mean_30).run ?_
      refine (go_lstore_n 3 (L' := [some (.ref 88), some (.int x1), some (.int x2), some (.long ((1 : Int64) <<< (((2 : Int32) * x1).toInt64 &&& 63))), none, none, none, none, none, none, none, none, none]) eX11_mean_31 rfl (Nat.le_of_ble_eq_true rfl) rfl).run ?_
      refine (go_lconst (v := 0) eX11_mean_32 rfl).run ?_
      refine (go_lstore 5 (L' := [some (.ref 88), some (.int x1), some (.int x2), some (.long ((1 : Int64) <<< (((2 : Int32) * x1).toInt64 &&& 63))), none, some (.long 0), none, none, none, none, none, none, none]) eX11_mean_33 (Nat.le_of_ble_eq_true rfl) rfl).run ?_
      refine (go_iconst (v := 0) eX11_mean_35 rfl).run ?_
      refine (go_istore 7 (L' := [some (.ref 88), some (.int x1), some (.int x2), some (.long ((1 : Int64) <<< (((2 : Int32) * x1).toInt64 &&& 63))), none, some (.long 0), none, some (.int 0), none, none, none, none, none]) eX11_mean_36 (Nat.le_of_ble_eq_true rfl) rfl).run ?_
      exact (k2 h1 h2)
    · refine (go_ldc2 csX11_205 eX11_mean_22).run ?_
      exact Run.ret (v := some (.long (-1))) (k3 h1 h2) ⟨rfl, eX11_mean_25⟩ rfl

set_option maxRecDepth 20000 in
theorem bX11_mean_38 {d : Nat} {Q : Option Value → St → Prop} (x1 : Int32) (x2 : Int32) (x3 : Int64) (x5 : Int64) (x7 : Int32) (σ : St) 
    (k1 : x1 ≤ x7 → Run MX11_mean (d + 1) 71 [none, none, some (.int x2), some (.long x3), none, some (.long x5), none, some (.long x5), none, some (.long x3), none, none, none] [] σ Q)
    (k2 : x7 < x1 → Ct yX11_runsOf MX11_runsOf d [.ref 88, .int x1, .int x7] σ (fun v σ1 => Run MX11_mean (d + 1) 54 [some (.ref 88), some (.int x1), some (.int x2), some (.long x3), none, none, none, some (.int x7), none, none, none, none, none] (v.toList ++ [.long x3, .long x5]) σ1 Q))
    : Run MX11_mean (d + 1) 38 [some (.ref 88), some (.int x1), some (.int x2), some (.long x3), none, some (.long x5), none, some (.int x7), none, none, none, none, none] [] σ Q := by
  refine (go_iload 7 eX11_mean_38 rfl).run ?_
  refine (go_iload_n 1 eX11_mean_40 rfl rfl).run ?_
  refine (bi_ge 64 eX11_mean_41 rfl).run (fun h1 => ?_) (fun h1 => ?_)
  · refine (go_lload 5 eX11_mean_64 rfl).run ?_
    refine (go_lstore 7 (L' := [some (.ref 88), some (.int x1), some (.int x2), some (.long x3), none, some (.long x5), none, some (.long x5), none, none, none, none, none]) eX11_mean_66 (Nat.le_of_ble_eq_true rfl) rfl).run ?_
    refine (go_lload_n 3 eX11_mean_68 rfl rfl).run ?_
    refine (go_lstore 9 (L' := [some (.ref 88), some (.int x1), some (.int x2), some (.long x3), none, some (.long x5), none, some (.long x5), none, some (.long x3), none, none, none]) eX11_mean_69 (Nat.le_of_ble_eq_true rfl) rfl).run ?_
    refine (go_sub (L' := [none, none, some (.int x2), some (.long x3), none, some (.long x5), none, some (.long x5), none, some (.long x3), none, none, none]) (lsub_drop (lsub_drop (lsub_keep (lsub_keep (lsub_keep (lsub_keep (lsub_keep (lsub_keep (lsub_keep (lsub_keep (lsub_keep (lsub_keep (lsub_keep lsub_nil)))))))))))))).run ?_
    exact (k1 h1)
  · refine (go_lload 5 eX11_mean_44 rfl).run ?_
    refine (go_lload_n 3 eX11_mean_46 rfl rfl).run ?_
    refine (go_aload_n 0 eX11_mean_47 rfl rfl).run ?_
    refine (go_iload_n 1 eX11_mean_48 rfl rfl).run ?_
    refine (go_iload 7 eX11_mean_49 rfl).run ?_
    refine (go_sub (L' := [some (.ref 88), some (.int x1), some (.int x2), some (.long x3), none, none, none, some (.int x7), none, none, none, none, none]) (lsub_keep (lsub_keep (lsub_keep (lsub_keep (lsub_keep (lsub_drop (lsub_keep (lsub_keep (lsub_keep (lsub_keep (lsub_keep (lsub_keep (lsub_keep lsub_nil)))))))))))))).run ?_
    exact Run.callV (d := d) (As := [.int x1, .int x7]) mX11_runsOf lkX11_260 kd_88 (by decide) rfl rfl rfl rfl rfl (Nat.le_of_ble_eq_true rfl) eX11_mean_51 (k2 h1)

set_option maxRecDepth 20000 in
theorem bX11_mean_71 {d : Nat} {Q : Option Value → St → Prop} (x2 : Int32) (x3 : Int64) (x5 : Int64) (x7 : Int64) (x9 : Int64) (σ : St) 
    (g1 : x9 = 0 → ¬ x2 = 0 → ¬ x7 = 0)
    (g2 : x9 = 0 → x2 = 0 → ¬ x7 = 0)
    (g3 : ¬ x9 = 0 → ¬ x9 = 0)
    (k1 : x9 = 0 → Q (some (.long (if x2 = 0 then (x5 / x7) else (x3 / x7)))) σ)
    (k2 : ¬ x9 = 0 → Run MX11_mean (d + 1) 71 [none, none, some (.int x2), some (.long x3), none, some (.long x5), none, some (.long x9), none, some (.long (x7 - x7 / x9 * x9)), none, none, none] [] σ Q)
    : Run MX11_mean (d + 1) 71 [none, none, some (.int x2), some (.long x3), none, some (.long x5), none, some (.long x7), none, some (.long x9), none, none, none] [] σ Q := by
  refine (go_lload 9 eX11_mean_71 rfl).run ?_
  refine (go_lconst (v := 0) eX11_mean_73 rfl).run ?_
  refine (go_lcmp eX11_mean_74).run ?_
  refine (brl_eq 96 eX11_mean_75 rfl).run (fun h1 => ?_) (fun h1 => ?_)
  · refine (go_iload_n 2 eX11_mean_96 rfl rfl).run ?_
    have hJh2 : Run MX11_mean (d + 1) 112 [none, none, none, none, none, none, none, none, none, none, none, none, none] [.long (if x2 = 0 then (x5 / x7) else (x3 / x7))] σ Q := by
      exact Run.ret (v := some (.long (if x2 = 0 then (x5 / x7) else (x3 / x7)))) (k1 h1) ⟨rfl, eX11_mean_112⟩ rfl
    refine (bz_ne 108 eX11_mean_97 rfl).run (fun h2 => ?_) (fun h2 => ?_)
    · refine (go_lload_n 3 eX11_mean_108 rfl rfl).run ?_
      refine (go_lload 7 eX11_mean_109 rfl).run ?_
      refine (go_ldiv eX11_mean_111 (g1 h1 h2)).run ?_
      refine (go_sub (L' := [none, none, none, none, none, none, none, none, none, none, none, none, none]) (lsub_keep (lsub_keep (lsub_drop (lsub_drop (lsub_keep (lsub_drop (lsub_keep (lsub_drop (lsub_keep (lsub_drop (lsub_keep (lsub_keep (lsub_keep lsub_nil)))))))))))))).run ?_
      first | exact hJh2 | (simp only [if_neg (h2)] at hJh2; exact hJh2) | (simp only [eq_false h2, not_false_eq_true, true_and, and_true, false_and, and_false, true_or, or_true, false_or, or_false, not_true_eq_false, not_false_eq_true] at hJh2; exact hJh2) | exact Run.eq (by simp [eq_false h2, not_false_eq_true, bI]) (by simp [eq_false h2, not_false_eq_true, bI]) rfl hJh2
    · refine (go_lload 5 eX11_mean_100 rfl).run ?_
      refine (go_lload 7 eX11_mean_102 rfl).run ?_
      refine (go_ldiv eX11_mean_104 (g2 h1 h2)).run ?_
      refine (go_goto 112 eX11_mean_105 rfl).run ?_
      refine (go_sub (L' := [none, none, none, none, none, none, none, none, none, none, none, none, none]) (lsub_keep (lsub_keep (lsub_drop (lsub_drop (lsub_keep (lsub_drop (lsub_keep (lsub_drop (lsub_keep (lsub_drop (lsub_keep (lsub_keep (lsub_keep lsub_nil)))))))))))))).run ?_
      first | exact hJh2 | (simp only [if_pos h2] at hJh2; exact hJh2) | (simp only [eq_true h2, not_true_eq_false, true_and, and_true, false_and, and_false, true_or, or_true, false_or, or_false, not_true_eq_false, not_false_eq_true] at hJh2; exact hJh2) | exact Run.eq (by simp [eq_true h2, not_true_eq_false, bI]) (by simp [eq_true h2, not_true_eq_false, bI]) rfl hJh2
  · refine (go_lload 7 eX11_mean_78 rfl).run ?_
    refine (go_lload 9 eX11_mean_80 rfl).run ?_
    refine (go_lrem eX11_mean_82 (g3 h1)).run ?_
    refine (go_lstore 11 (L' := [none, none, some (.int x2), some (.long x3), none, some (.long x5), none, some (.long x7), none, some (.long x9), none, some (.long (x7 - x7 / x9 * x9)), none]) eX11_mean_83 (Nat.le_of_ble_eq_true rfl) rfl).run ?_
    refine (go_lload 9 eX11_mean_85 rfl).run ?_
    refine (go_lstore 7 (L' := [none, none, some (.int x2), some (.long x3), none, some (.long x5), none, some (.long x9), none, some (.long x9), none, some (.long (x7 - x7 / x9 * x9)), none]) eX11_mean_87 (Nat.le_of_ble_eq_true rfl) rfl).run ?_
    refine (go_lload 11 eX11_mean_89 rfl).run ?_
    refine (go_lstore 9 (L' := [none, none, some (.int x2), some (.long x3), none, some (.long x5), none, some (.long x9), none, some (.long (x7 - x7 / x9 * x9)), none, some (.long (x7 - x7 / x9 * x9)), none]) eX11_mean_91 (Nat.le_of_ble_eq_true rfl) rfl).run ?_
    refine (go_goto 71 eX11_mean_93 rfl).run ?_
    refine (go_sub (L' := [none, none, some (.int x2), some (.long x3), none, some (.long x5), none, some (.long x9), none, some (.long (x7 - x7 / x9 * x9)), none, none, none]) (lsub_keep (lsub_keep (lsub_keep (lsub_keep (lsub_keep (lsub_keep (lsub_keep (lsub_keep (lsub_keep (lsub_keep (lsub_keep (lsub_drop (lsub_keep lsub_nil)))))))))))))).run ?_
    exact (k2 h1)

set_option maxRecDepth 20000 in
theorem bX11_mean_54 {d : Nat} {Q : Option Value → St → Prop} (x1 : Int32) (x2 : Int32) (x3 : Int64) (x7 : Int32) (s0 : Int64) (s1 : Int64) (s2 : Int64) (σ : St) 
    (k1 : Run MX11_mean (d + 1) 38 [some (.ref 88), some (.int x1), some (.int x2), some (.long x3), none, some (.long (s2 + (s1 - s0))), none, some (.int (x7 + 1)), none, none, none, none, none] [] σ Q)
    : Run MX11_mean (d + 1) 54 [some (.ref 88), some (.int x1), some (.int x2), some (.long x3), none, none, none, some (.int x7), none, none, none, none, none] [.long s0, .long s1, .long s2] σ Q := by
  refine (go_lsub eX11_mean_54).run ?_
  refine (go_ladd eX11_mean_55).run ?_
  refine (go_lstore 5 (L' := [some (.ref 88), some (.int x1), some (.int x2), some (.long x3), none, some (.long (s2 + (s1 - s0))), none, some (.int x7), none, none, none, none, none]) eX11_mean_56 (Nat.le_of_ble_eq_true rfl) rfl).run ?_
  refine (go_iinc 7 (v := (x7 + 1)) (L' := [some (.ref 88), some (.int x1), some (.int x2), some (.long x3), none, some (.long (s2 + (s1 - s0))), none, some (.int (x7 + 1)), none, none, none, none, none]) eX11_mean_58 rfl rfl (Nat.le_of_ble_eq_true rfl) rfl).run ?_
  refine (go_goto 38 eX11_mean_61 rfl).run ?_
  exact k1

/-! CarryNetsModel.height -/
theorem eX11_height_0 : decode MX11_height.2.1 0 = .ok (.iload_n 1, 1) := by decide +kernel
theorem eX11_height_1 : decode MX11_height.2.1 1 = .ok (.i2l, 1) := by decide +kernel
theorem eX11_height_2 : decode MX11_height.2.1 2 = .ok (.lconst 0, 1) := by decide +kernel
theorem eX11_height_3 : decode MX11_height.2.1 3 = .ok (.ldc2_w 263, 3) := by decide +kernel
theorem eX11_height_6 : decode MX11_height.2.1 6 = .ok (.invokestatic 109, 3) := by decide +kernel
theorem eX11_height_9 : decode MX11_height.2.1 9 = .ok (.ifCond .eq 15, 3) := by decide +kernel
theorem eX11_height_12 : decode MX11_height.2.1 12 = .ok (.iload_n 2, 1) := by decide +kernel
theorem eX11_height_13 : decode MX11_height.2.1 13 = .ok (.i2l, 1) := by decide +kernel
theorem eX11_height_14 : decode MX11_height.2.1 14 = .ok (.lconst 0, 1) := by decide +kernel
theorem eX11_height_15 : decode MX11_height.2.1 15 = .ok (.ldc2_w 265, 3) := by decide +kernel
theorem eX11_height_18 : decode MX11_height.2.1 18 = .ok (.invokestatic 109, 3) := by decide +kernel
theorem eX11_height_21 : decode MX11_height.2.1 21 = .ok (.ifCond .ne 5, 3) := by decide +kernel
theorem eX11_height_24 : decode MX11_height.2.1 24 = .ok (.iconst (-1), 1) := by decide +kernel
theorem eX11_height_25 : decode MX11_height.2.1 25 = .ok (.ireturn, 1) := by decide +kernel
theorem eX11_height_26 : decode MX11_height.2.1 26 = .ok (.aload_n 0, 1) := by decide +kernel
theorem eX11_height_27 : decode MX11_height.2.1 27 = .ok (.getfield 76, 3) := by decide +kernel
theorem eX11_height_30 : decode MX11_height.2.1 30 = .ok (.iload_n 1, 1) := by decide +kernel
theorem eX11_height_31 : decode MX11_height.2.1 31 = .ok (.iaload, 1) := by decide +kernel
theorem eX11_height_32 : decode MX11_height.2.1 32 = .ok (.istore_n 3, 1) := by decide +kernel
theorem eX11_height_33 : decode MX11_height.2.1 33 = .ok (.aload_n 0, 1) := by decide +kernel
theorem eX11_height_34 : decode MX11_height.2.1 34 = .ok (.getfield 76, 3) := by decide +kernel
theorem eX11_height_37 : decode MX11_height.2.1 37 = .ok (.iload_n 1, 1) := by decide +kernel
theorem eX11_height_38 : decode MX11_height.2.1 38 = .ok (.iload_n 2, 1) := by decide +kernel
theorem eX11_height_39 : decode MX11_height.2.1 39 = .ok (.iastore, 1) := by decide +kernel
theorem eX11_height_40 : decode MX11_height.2.1 40 = .ok (.iload_n 3, 1) := by decide +kernel
theorem eX11_height_41 : decode MX11_height.2.1 41 = .ok (.ireturn, 1) := by decide +kernel
set_option maxRecDepth 20000 in
theorem bX11_height_0 {d : Nat} {Q : Option Value → St → Prop} (x1 : Int32) (x2 : Int32) (σ : St) 
    (g1 : ((0 : Int64) ≤ x1.toInt64 ∧ x1.toInt64 ≤ (11 : Int64)) → ((0 : Int64) ≤ x2.toInt64 ∧ x2.toInt64 ≤ (12 : Int64)) → vp_in x1 12)
    (k1 : (¬ ((0 : Int64) ≤ x1.toInt64 ∧ x1.toInt64 ≤ (11 : Int64))) → Q (some (.int (-1))) σ)
    (k2 : ((0 : Int64) ≤ x1.toInt64 ∧ x1.toInt64 ≤ (11 : Int64)) → ((0 : Int64) ≤ x2.toInt64 ∧ x2.toInt64 ≤ (12 : Int64)) → Q (some (.int (σ.1 106 x1.toNatClampNeg))) (sA σ 106 (upd (σ.1 106) x1.toNatClampNeg x2)))
    (k3 : ((0 : Int64) ≤ x1.toInt64 ∧ x1.toInt64 ≤ (11 : Int64)) → (¬ ((0 : Int64) ≤ x2.toInt64 ∧ x2.toInt64 ≤ (12 : Int64))) → Q (some (.int (-1))) σ)
    : Run MX11_height (d + 1) 0 [some (.ref 88), some (.int x1), some (.int x2), none] [] σ Q := by
  refine (go_iload_n 1 eX11_height_0 rfl rfl).run ?_
  refine (go_i2l eX11_height_1).run ?_
  refine (go_lconst (v := 0) eX11_height_2 rfl).run ?_
  refine (go_ldc2 csX11_263 eX11_height_3).run ?_
  refine Run.callS1 (d := d) (As := [.long x1.toInt64, .long 0, .long (11)]) (r := .int (bI ((0 : Int64) ≤ x1.toInt64 ∧ x1.toInt64 ≤ (11 : Int64)))) mX11_in lkX11_109 rfl rfl rfl (Nat.le_of_ble_eq_true rfl) eX11_height_6 (qX11_in d x1.toInt64 (0 : Int64) (11 : Int64) σ  ) ?_
  refine (br_ifeq_b 24 eX11_height_9 rfl).run (fun h1 => ?_) (fun h1 => ?_)
  · refine (go_iconst (v := -1) eX11_height_24 rfl).run ?_
    exact Run.ret (v := some (.int (-1))) (k1 h1) ⟨Or.inl rfl, eX11_height_25⟩ rfl
  · refine (go_iload_n 2 eX11_height_12 rfl rfl).run ?_
    refine (go_i2l eX11_height_13).run ?_
    refine (go_lconst (v := 0) eX11_height_14 rfl).run ?_
    refine (go_ldc2 csX11_265 eX11_height_15).run ?_
    refine Run.callS1 (d := d) (As := [.long x2.toInt64, .long 0, .long (12)]) (r := .int (bI ((0 : Int64) ≤ x2.toInt64 ∧ x2.toInt64 ≤ (12 : Int64)))) mX11_in lkX11_109 rfl rfl rfl (Nat.le_of_ble_eq_true rfl) eX11_height_18 (qX11_in d x2.toInt64 (0 : Int64) (12 : Int64) σ  ) ?_
    refine (br_ifne_b 26 eX11_height_21 rfl).run (fun h2 => ?_) (fun h2 => ?_)
    · refine (go_aload_n 0 eX11_height_26 rfl rfl).run ?_
      refine (go_getr flX11_76 rf_10_30 kd_88 gr_88_30 eX11_height_27).run ?_
      refine (go_iload_n 1 eX11_height_30 rfl rfl).run ?_
      refine (go_iald kd_106 ln_106 (g1 h1 h2) eX11_height_31).run ?_
      refine (go_istore_n 3 (L' := [some (.ref 88), some (.int x1), some (.int x2), some (.int (σ.1 106 x1.toNatClampNeg))]) eX11_height_32 rfl (Nat.le_of_ble_eq_true rfl) rfl).run ?_
      refine (go_aload_n 0 eX11_height_33 rfl rfl).run ?_
      refine (go_getr flX11_76 rf_10_30 kd_88 gr_88_30 eX11_height_34).run ?_
      refine (go_iload_n 1 eX11_height_37 rfl rfl).run ?_
      refine (go_iload_n 2 eX11_height_38 rfl rfl).run ?_
      refine (go_iast kd_106 ln_106 (g1 h1 h2) eX11_height_39).run ?_
      refine (go_iload_n 3 eX11_height_40 rfl rfl).run ?_
      exact Run.ret (v := some (.int (σ.1 106 x1.toNatClampNeg))) (k2 h1 h2) ⟨Or.inl rfl, eX11_height_41⟩ rfl
    · refine (go_iconst (v := -1) eX11_height_24 rfl).run ?_
      exact Run.ret (v := some (.int (-1))) (k3 h1 h2) ⟨Or.inl rfl, eX11_height_25⟩ rfl

def sX11_height (x1 : Int32) (x2 : Int32) (σ : St) : St := (if (0 : Int64) ≤ x1.toInt64 ∧ x1.toInt64 ≤ (11 : Int64) then (if (0 : Int64) ≤ x2.toInt64 ∧ x2.toInt64 ≤ (12 : Int64) then sA σ 106 (upd (σ.1 106) x1.toNatClampNeg x2) else σ) else σ)
def rX11_height (x1 : Int32) (x2 : Int32) (σ : St) : Int32 := (if (0 : Int64) ≤ x1.toInt64 ∧ x1.toInt64 ≤ (11 : Int64) then (if (0 : Int64) ≤ x2.toInt64 ∧ x2.toInt64 ≤ (12 : Int64) then (σ.1 106 x1.toNatClampNeg) else (-1 : Int32)) else (-1 : Int32))
theorem qX11_height (d : Nat) (x1 : Int32) (x2 : Int32) (σ : St) (g1 : ((0 : Int64) ≤ x1.toInt64 ∧ x1.toInt64 ≤ (11 : Int64)) → ((0 : Int64) ≤ x2.toInt64 ∧ x2.toInt64 ≤ (12 : Int64)) → vp_in x1 12) : Ct yX11_height MX11_height (d + 1) [.ref 88, .int x1, .int x2] σ (fun v σ1 => v = some (.int (rX11_height x1 x2 σ)) ∧ σ1 = sX11_height x1 x2 σ) :=
  Ct.of mX11_height.1 (Nat.le_of_ble_eq_true rfl) (bX11_height_0 x1 x2 σ  g1 (fun h1 => ⟨by first | rfl | (simp only [sX11_height, rX11_height, eq_false h1, not_false_eq_true, true_and, and_true, false_and, and_false, true_or, or_true, false_or, or_false, not_true_eq_false, not_false_eq_true, if_true, if_false]; done) | (simp [sX11_height, rX11_height, eq_false h1, not_false_eq_true, bI]; done), by first | rfl | (simp only [sX11_height, rX11_height, eq_false h1, not_false_eq_true, true_and, and_true, false_and, and_false, true_or, or_true, false_or, or_false, not_true_eq_false, not_false_eq_true, if_true, if_false]; done) | (simp [sX11_height, rX11_height, eq_false h1, not_false_eq_true, bI]; done)⟩) (fun h1 h2 => ⟨by first | rfl | (simp only [sX11_height, rX11_height, eq_true h1, not_true_eq_false, eq_true h2, not_true_eq_false, true_and, and_true, false_and, and_false, true_or, or_true, false_or, or_false, not_true_eq_false, not_false_eq_true, if_true, if_false]; done) | (simp [sX11_height, rX11_height, eq_true h1, not_true_eq_false, eq_true h2, not_true_eq_false, bI]; done), by first | rfl | (simp only [sX11_height, rX11_height, eq_true h1, not_true_eq_false, eq_true h2, not_true_eq_false, true_and, and_true, false_and, and_false, true_or, or_true, false_or, or_false, not_true_eq_false, not_false_eq_true, if_true, if_false]; done) | (simp [sX11_height, rX11_height, eq_true h1, not_true_eq_false, eq_true h2, not_true_eq_false, bI]; done)⟩) (fun h1 h2 => ⟨by first | rfl | (simp only [sX11_height, rX11_height, eq_true h1, not_true_eq_false, eq_false h2, not_false_eq_true, true_and, and_true, false_and, and_false, true_or, or_true, false_or, or_false, not_true_eq_false, not_false_eq_true, if_true, if_false]; done) | (simp [sX11_height, rX11_height, eq_true h1, not_true_eq_false, eq_false h2, not_false_eq_true, bI]; done), by first | rfl | (simp only [sX11_height, rX11_height, eq_true h1, not_true_eq_false, eq_false h2, not_false_eq_true, true_and, and_true, false_and, and_false, true_or, or_true, false_or, or_false, not_true_eq_false, not_false_eq_true, if_true, if_false]; done) | (simp [sX11_height, rX11_height, eq_true h1, not_true_eq_false, eq_false h2, not_false_eq_true, bI]; done)⟩))

/-! CarryNetsModel.product -/
theorem eX11_product_0 : decode MX11_product.2.1 0 = .ok (.iload_n 1, 1) := by decide +kernel
theorem eX11_product_1 : decode MX11_product.2.1 1 = .ok (.i2l, 1) := by decide +kernel
theorem eX11_product_2 : decode MX11_product.2.1 2 = .ok (.lconst 1, 1) := by decide +kernel
theorem eX11_product_3 : decode MX11_product.2.1 3 = .ok (.ldc2_w 228, 3) := by decide +kernel
theorem eX11_product_6 : decode MX11_product.2.1 6 = .ok (.invokestatic 109, 3) := by decide +kernel
theorem eX11_product_9 : decode MX11_product.2.1 9 = .ok (.ifCond .eq 15, 3) := by decide +kernel
theorem eX11_product_12 : decode MX11_product.2.1 12 = .ok (.iload_n 2, 1) := by decide +kernel
theorem eX11_product_13 : decode MX11_product.2.1 13 = .ok (.i2l, 1) := by decide +kernel
theorem eX11_product_14 : decode MX11_product.2.1 14 = .ok (.lconst 1, 1) := by decide +kernel
theorem eX11_product_15 : decode MX11_product.2.1 15 = .ok (.ldc2_w 228, 3) := by decide +kernel
theorem eX11_product_18 : decode MX11_product.2.1 18 = .ok (.invokestatic 109, 3) := by decide +kernel
theorem eX11_product_21 : decode MX11_product.2.1 21 = .ok (.ifCond .ne 5, 3) := by decide +kernel
theorem eX11_product_24 : decode MX11_product.2.1 24 = .ok (.iconst (-1), 1) := by decide +kernel
theorem eX11_product_25 : decode MX11_product.2.1 25 = .ok (.ireturn, 1) := by decide +kernel
theorem eX11_product_26 : decode MX11_product.2.1 26 = .ok (.iconst 0, 1) := by decide +kernel
theorem eX11_product_27 : decode MX11_product.2.1 27 = .ok (.istore_n 3, 1) := by decide +kernel
theorem eX11_product_28 : decode MX11_product.2.1 28 = .ok (.iload_n 3, 1) := by decide +kernel
theorem eX11_product_29 : decode MX11_product.2.1 29 = .ok (.bipush 12, 2) := by decide +kernel
theorem eX11_product_31 : decode MX11_product.2.1 31 = .ok (.if_icmp .ge 16, 3) := by decide +kernel
theorem eX11_product_34 : decode MX11_product.2.1 34 = .ok (.aload_n 0, 1) := by decide +kernel
theorem eX11_product_35 : decode MX11_product.2.1 35 = .ok (.getfield 76, 3) := by decide +kernel
theorem eX11_product_38 : decode MX11_product.2.1 38 = .ok (.iload_n 3, 1) := by decide +kernel
theorem eX11_product_39 : decode MX11_product.2.1 39 = .ok (.iconst 0, 1) := by decide +kernel
theorem eX11_product_40 : decode MX11_product.2.1 40 = .ok (.iastore, 1) := by decide +kernel
theorem eX11_product_41 : decode MX11_product.2.1 41 = .ok (.iinc 3 1, 3) := by decide +kernel
theorem eX11_product_44 : decode MX11_product.2.1 44 = .ok (.goto (-16), 3) := by decide +kernel
theorem eX11_product_47 : decode MX11_product.2.1 47 = .ok (.iconst 0, 1) := by decide +kernel
theorem eX11_product_48 : decode MX11_product.2.1 48 = .ok (.istore_n 3, 1) := by decide +kernel
theorem eX11_product_49 : decode MX11_product.2.1 49 = .ok (.iload_n 3, 1) := by decide +kernel
theorem eX11_product_50 : decode MX11_product.2.1 50 = .ok (.iload_n 1, 1) := by decide +kernel
theorem eX11_product_51 : decode MX11_product.2.1 51 = .ok (.if_icmp .ge 37, 3) := by decide +kernel
theorem eX11_product_54 : decode MX11_product.2.1 54 = .ok (.iconst 0, 1) := by decide +kernel
theorem eX11_product_55 : decode MX11_product.2.1 55 = .ok (.istore 4, 2) := by decide +kernel
theorem eX11_product_57 : decode MX11_product.2.1 57 = .ok (.iload 4, 2) := by decide +kernel
theorem eX11_product_59 : decode MX11_product.2.1 59 = .ok (.iload_n 2, 1) := by decide +kernel
theorem eX11_product_60 : decode MX11_product.2.1 60 = .ok (.if_icmp .ge 22, 3) := by decide +kernel
theorem eX11_product_63 : decode MX11_product.2.1 63 = .ok (.aload_n 0, 1) := by decide +kernel
theorem eX11_product_64 : decode MX11_product.2.1 64 = .ok (.getfield 76, 3) := by decide +kernel
theorem eX11_product_67 : decode MX11_product.2.1 67 = .ok (.iload_n 3, 1) := by decide +kernel
theorem eX11_product_68 : decode MX11_product.2.1 68 = .ok (.iload 4, 2) := by decide +kernel
theorem eX11_product_70 : decode MX11_product.2.1 70 = .ok (.iadd, 1) := by decide +kernel
theorem eX11_product_71 : decode MX11_product.2.1 71 = .ok (.dup2, 1) := by decide +kernel
theorem eX11_product_72 : decode MX11_product.2.1 72 = .ok (.iaload, 1) := by decide +kernel
theorem eX11_product_73 : decode MX11_product.2.1 73 = .ok (.iconst 1, 1) := by decide +kernel
theorem eX11_product_74 : decode MX11_product.2.1 74 = .ok (.iadd, 1) := by decide +kernel
theorem eX11_product_75 : decode MX11_product.2.1 75 = .ok (.iastore, 1) := by decide +kernel
theorem eX11_product_76 : decode MX11_product.2.1 76 = .ok (.iinc 4 1, 3) := by decide +kernel
theorem eX11_product_79 : decode MX11_product.2.1 79 = .ok (.goto (-22), 3) := by decide +kernel
theorem eX11_product_82 : decode MX11_product.2.1 82 = .ok (.iinc 3 1, 3) := by decide +kernel
theorem eX11_product_85 : decode MX11_product.2.1 85 = .ok (.goto (-36), 3) := by decide +kernel
theorem eX11_product_88 : decode MX11_product.2.1 88 = .ok (.iload_n 1, 1) := by decide +kernel
theorem eX11_product_89 : decode MX11_product.2.1 89 = .ok (.iload_n 2, 1) := by decide +kernel
theorem eX11_product_90 : decode MX11_product.2.1 90 = .ok (.invokestatic 244, 3) := by decide +kernel
theorem eX11_product_93 : decode MX11_product.2.1 93 = .ok (.ireturn, 1) := by decide +kernel
set_option maxRecDepth 20000 in
theorem bX11_product_0 {d : Nat} {Q : Option Value → St → Prop} (x1 : Int32) (x2 : Int32) (σ : St) 
    (k1 : (¬ ((1 : Int64) ≤ x1.toInt64 ∧ x1.toInt64 ≤ (6 : Int64))) → Q (some (.int (-1))) σ)
    (k2 : ((1 : Int64) ≤ x1.toInt64 ∧ x1.toInt64 ≤ (6 : Int64)) → ((1 : Int64) ≤ x2.toInt64 ∧ x2.toInt64 ≤ (6 : Int64)) → Run MX11_product (d + 1) 28 [some (.ref 88), some (.int x1), some (.int x2), some (.int 0), none] [] σ Q)
    (k3 : ((1 : Int64) ≤ x1.toInt64 ∧ x1.toInt64 ≤ (6 : Int64)) → (¬ ((1 : Int64) ≤ x2.toInt64 ∧ x2.toInt64 ≤ (6 : Int64))) → Q (some (.int (-1))) σ)
    : Run MX11_product (d + 1) 0 [some (.ref 88), some (.int x1), some (.int x2), none, none] [] σ Q := by
  refine (go_iload_n 1 eX11_product_0 rfl rfl).run ?_
  refine (go_i2l eX11_product_1).run ?_
  refine (go_lconst (v := 1) eX11_product_2 rfl).run ?_
  refine (go_ldc2 csX11_228 eX11_product_3).run ?_
  refine Run.callS1 (d := d) (As := [.long x1.toInt64, .long 1, .long (6)]) (r := .int (bI ((1 : Int64) ≤ x1.toInt64 ∧ x1.toInt64 ≤ (6 : Int64)))) mX11_in lkX11_109 rfl rfl rfl (Nat.le_of_ble_eq_true rfl) eX11_product_6 (qX11_in d x1.toInt64 (1 : Int64) (6 : Int64) σ  ) ?_
  refine (br_ifeq_b 24 eX11_product_9 rfl).run (fun h1 => ?_) (fun h1 => ?_)
  · refine (go_iconst (v := -1) eX11_product_24 rfl).run ?_
    exact Run.ret (v := some (.int (-1))) (k1 h1) ⟨Or.inl rfl, eX11_product_25⟩ rfl
  · refine (go_iload_n 2 eX11_product_12 rfl rfl).run ?_
    refine (go_i2l eX11_product_13).run ?_
    refine (go_lconst (v := 1) eX11_product_14 rfl).run ?_
    refine (go_ldc2 csX11_228 eX11_product_15).run ?_
    refine Run.callS1 (d := d) (As := [.long x2.toInt64, .long 1, .long (6)]) (r := .int (bI ((1 : Int64) ≤ x2.toInt64 ∧ x2.toInt64 ≤ (6 : Int64)))) mX11_in lkX11_109 rfl rfl rfl (Nat.le_of_ble_eq_true rfl) eX11_product_18 (qX11_in d x2.toInt64 (1 : Int64) (6 : Int64) σ  ) ?_
    refine (br_ifne_b 26 eX11_product_21 rfl).run (fun h2 => ?_) (fun h2 => ?_)
    · refine (go_iconst (v := 0) eX11_product_26 rfl).run ?_
      refine (go_istore_n 3 (L' := [some (.ref 88), some (.int x1), some (.int x2), some (.int 0), none]) eX11_product_27 rfl (Nat.le_of_ble_eq_true rfl) rfl).run ?_
      exact (k2 h1 h2)
    · refine (go_iconst (v := -1) eX11_product_24 rfl).run ?_
      exact Run.ret (v := some (.int (-1))) (k3 h1 h2) ⟨Or.inl rfl, eX11_product_25⟩ rfl

set_option maxRecDepth 20000 in
theorem bX11_product_28 {d : Nat} {Q : Option Value → St → Prop} (x1 : Int32) (x2 : Int32) (x3 : Int32) (σ : St) 
    (g1 : x3 < 12 → vp_in x3 12)
    (k1 : (12 : Int32) ≤ x3 → Run MX11_product (d + 1) 49 [some (.ref 88), some (.int x1), some (.int x2), some (.int 0), none] [] σ Q)
    (k2 : x3 < 12 → Run MX11_product (d + 1) 28 [some (.ref 88), some (.int x1), some (.int x2), some (.int (x3 + 1)), none] [] (sA σ 106 (upd (σ.1 106) x3.toNatClampNeg 0)) Q)
    : Run MX11_product (d + 1) 28 [some (.ref 88), some (.int x1), some (.int x2), some (.int x3), none] [] σ Q := by
  refine (go_iload_n 3 eX11_product_28 rfl rfl).run ?_
  refine (go_bipush (v := 12) eX11_product_29 rfl).run ?_
  refine (bi_ge 47 eX11_product_31 rfl).run (fun h1 => ?_) (fun h1 => ?_)
  · refine (go_iconst (v := 0) eX11_product_47 rfl).run ?_
    refine (go_istore_n 3 (L' := [some (.ref 88), some (.int x1), some (.int x2), some (.int 0), none]) eX11_product_48 rfl (Nat.le_of_ble_eq_true rfl) rfl).run ?_
    exact (k1 h1)
  · refine (go_aload_n 0 eX11_product_34 rfl rfl).run ?_
    refine (go_getr flX11_76 rf_10_30 kd_88 gr_88_30 eX11_product_35).run ?_
    refine (go_iload_n 3 eX11_product_38 rfl rfl).run ?_
    refine (go_iconst (v := 0) eX11_product_39 rfl).run ?_
    refine (go_iast kd_106 ln_106 (g1 h1) eX11_product_40).run ?_
    refine (go_iinc 3 (v := (x3 + 1)) (L' := [some (.ref 88), some (.int x1), some (.int x2), some (.int (x3 + 1)), none]) eX11_product_41 rfl rfl (Nat.le_of_ble_eq_true rfl) rfl).run ?_
    refine (go_goto 28 eX11_product_44 rfl).run ?_
    exact (k2 h1)

set_option maxRecDepth 20000 in
theorem bX11_product_49 {d : Nat} {Q : Option Value → St → Prop} (x1 : Int32) (x2 : Int32) (x3 : Int32) (σ : St) 
    (k1 : x1 ≤ x3 → Q (some (.int ((if x2 ≤ x1 then x2 else x1)))) σ)
    (k2 : x3 < x1 → Run MX11_product (d + 1) 57 [some (.ref 88), some (.int x1), some (.int x2), some (.int x3), some (.int 0)] [] σ Q)
    : Run MX11_product (d + 1) 49 [some (.ref 88), some (.int x1), some (.int x2), some (.int x3), none] [] σ Q := by
  refine (go_iload_n 3 eX11_product_49 rfl rfl).run ?_
  refine (go_iload_n 1 eX11_product_50 rfl rfl).run ?_
  refine (bi_ge 88 eX11_product_51 rfl).run (fun h1 => ?_) (fun h1 => ?_)
  · refine (go_iload_n 1 eX11_product_88 rfl rfl).run ?_
    refine (go_iload_n 2 eX11_product_89 rfl rfl).run ?_
    refine Run.callS1 (d := d) (As := [.int x1, .int x2]) (r := .int ((if x2 ≤ x1 then x2 else x1))) mX11_least lkX11_244 rfl rfl rfl (Nat.le_of_ble_eq_true rfl) eX11_product_90 (qX11_least d x1 x2 σ  ) ?_
    exact Run.ret (v := some (.int ((if x2 ≤ x1 then x2 else x1)))) (k1 h1) ⟨Or.inl rfl, eX11_product_93⟩ rfl
  · refine (go_iconst (v := 0) eX11_product_54 rfl).run ?_
    refine (go_istore 4 (L' := [some (.ref 88), some (.int x1), some (.int x2), some (.int x3), some (.int 0)]) eX11_product_55 (Nat.le_of_ble_eq_true rfl) rfl).run ?_
    exact (k2 h1)

set_option maxRecDepth 20000 in
theorem bX11_product_57 {d : Nat} {Q : Option Value → St → Prop} (x1 : Int32) (x2 : Int32) (x3 : Int32) (x4 : Int32) (σ : St) 
    (g1 : x4 < x2 → vp_in (x3 + x4) 12)
    (k1 : x2 ≤ x4 → Run MX11_product (d + 1) 49 [some (.ref 88), some (.int x1), some (.int x2), some (.int (x3 + 1)), none] [] σ Q)
    (k2 : x4 < x2 → Run MX11_product (d + 1) 57 [some (.ref 88), some (.int x1), some (.int x2), some (.int x3), some (.int (x4 + 1))] [] (sA σ 106 (upd (σ.1 106) (x3 + x4).toNatClampNeg ((σ.1 106 (x3 + x4).toNatClampNeg) + 1))) Q)
    : Run MX11_product (d + 1) 57 [some (.ref 88), some (.int x1), some (.int x2), some (.int x3), some (.int x4)] [] σ Q := by
  refine (go_iload 4 eX11_product_57 rfl).run ?_
  refine (go_iload_n 2 eX11_product_59 rfl rfl).run ?_
  refine (bi_ge 82 eX11_product_60 rfl).run (fun h1 => ?_) (fun h1 => ?_)
  · refine (go_iinc 3 (v := (x3 + 1)) (L' := [some (.ref 88), some (.int x1), some (.int x2), some (.int (x3 + 1)), some (.int x4)]) eX11_product_82 rfl rfl (Nat.le_of_ble_eq_true rfl) rfl).run ?_
    refine (go_goto 49 eX11_product_85 rfl).run ?_
    refine (go_sub (L' := [some (.ref 88), some (.int x1), some (.int x2), some (.int (x3 + 1)), none]) (lsub_keep (lsub_keep (lsub_keep (lsub_keep (lsub_drop lsub_nil)))))).run ?_
    exact (k1 h1)
  · refine (go_aload_n 0 eX11_product_63 rfl rfl).run ?_
    refine (go_getr flX11_76 rf_10_30 kd_88 gr_88_30 eX11_product_64).run ?_
    refine (go_iload_n 3 eX11_product_67 rfl rfl).run ?_
    refine (go_iload 4 eX11_product_68 rfl).run ?_
    refine (go_iadd eX11_product_70).run ?_
    refine (go_dup2 eX11_product_71 rfl rfl).run ?_
    refine (go_iald kd_106 ln_106 (g1 h1) eX11_product_72).run ?_
    refine (go_iconst (v := 1) eX11_product_73 rfl).run ?_
    refine (go_iadd eX11_product_74).run ?_
    refine (go_iast kd_106 ln_106 (g1 h1) eX11_product_75).run ?_
    refine (go_iinc 4 (v := (x4 + 1)) (L' := [some (.ref 88), some (.int x1), some (.int x2), some (.int x3), some (.int (x4 + 1))]) eX11_product_76 rfl rfl (Nat.le_of_ble_eq_true rfl) rfl).run ?_
    refine (go_goto 57 eX11_product_79 rfl).run ?_
    exact (k2 h1)

/-! CarryNetsModel.greatest -/
theorem eX11_greatest_0 : decode MX11_greatest.2.1 0 = .ok (.iconst 0, 1) := by decide +kernel
theorem eX11_greatest_1 : decode MX11_greatest.2.1 1 = .ok (.istore_n 1, 1) := by decide +kernel
theorem eX11_greatest_2 : decode MX11_greatest.2.1 2 = .ok (.iconst 0, 1) := by decide +kernel
theorem eX11_greatest_3 : decode MX11_greatest.2.1 3 = .ok (.istore_n 2, 1) := by decide +kernel
theorem eX11_greatest_4 : decode MX11_greatest.2.1 4 = .ok (.iload_n 2, 1) := by decide +kernel
theorem eX11_greatest_5 : decode MX11_greatest.2.1 5 = .ok (.bipush 12, 2) := by decide +kernel
theorem eX11_greatest_7 : decode MX11_greatest.2.1 7 = .ok (.if_icmp .ge 24, 3) := by decide +kernel
theorem eX11_greatest_10 : decode MX11_greatest.2.1 10 = .ok (.aload_n 0, 1) := by decide +kernel
theorem eX11_greatest_11 : decode MX11_greatest.2.1 11 = .ok (.iload_n 2, 1) := by decide +kernel
theorem eX11_greatest_12 : decode MX11_greatest.2.1 12 = .ok (.iaload, 1) := by decide +kernel
theorem eX11_greatest_13 : decode MX11_greatest.2.1 13 = .ok (.iload_n 1, 1) := by decide +kernel
theorem eX11_greatest_14 : decode MX11_greatest.2.1 14 = .ok (.if_icmp .le 9, 3) := by decide +kernel
theorem eX11_greatest_17 : decode MX11_greatest.2.1 17 = .ok (.aload_n 0, 1) := by decide +kernel
theorem eX11_greatest_18 : decode MX11_greatest.2.1 18 = .ok (.iload_n 2, 1) := by decide +kernel
theorem eX11_greatest_19 : decode MX11_greatest.2.1 19 = .ok (.iaload, 1) := by decide +kernel
theorem eX11_greatest_20 : decode MX11_greatest.2.1 20 = .ok (.goto 4, 3) := by decide +kernel
theorem eX11_greatest_23 : decode MX11_greatest.2.1 23 = .ok (.iload_n 1, 1) := by decide +kernel
theorem eX11_greatest_24 : decode MX11_greatest.2.1 24 = .ok (.istore_n 1, 1) := by decide +kernel
theorem eX11_greatest_25 : decode MX11_greatest.2.1 25 = .ok (.iinc 2 1, 3) := by decide +kernel
theorem eX11_greatest_28 : decode MX11_greatest.2.1 28 = .ok (.goto (-24), 3) := by decide +kernel
theorem eX11_greatest_31 : decode MX11_greatest.2.1 31 = .ok (.iload_n 1, 1) := by decide +kernel
theorem eX11_greatest_32 : decode MX11_greatest.2.1 32 = .ok (.ireturn, 1) := by decide +kernel
set_option maxRecDepth 20000 in
theorem bX11_greatest_0 {d : Nat} {Q : Option Value → St → Prop} (a0 : Nat) (σ : St) (ha0 : kd a0 = 100) 
    (k1 : Run MX11_greatest d 4 [some (.ref a0), some (.int 0), some (.int 0)] [] σ Q)
    : Run MX11_greatest d 0 [some (.ref a0), none, none] [] σ Q := by
  refine (go_iconst (v := 0) eX11_greatest_0 rfl).run ?_
  refine (go_istore_n 1 (L' := [some (.ref a0), some (.int 0), none]) eX11_greatest_1 rfl (Nat.le_of_ble_eq_true rfl) rfl).run ?_
  refine (go_iconst (v := 0) eX11_greatest_2 rfl).run ?_
  refine (go_istore_n 2 (L' := [some (.ref a0), some (.int 0), some (.int 0)]) eX11_greatest_3 rfl (Nat.le_of_ble_eq_true rfl) rfl).run ?_
  exact k1

set_option maxRecDepth 20000 in
theorem bX11_greatest_4 {d : Nat} {Q : Option Value → St → Prop} (a0 : Nat) (x1 : Int32) (x2 : Int32) (σ : St) (ha0 : kd a0 = 100) 
    (g1 : x2 < 12 → vp_in x2 (ln a0))
    (k1 : (12 : Int32) ≤ x2 → Q (some (.int x1)) σ)
    (k2 : x2 < 12 → Run MX11_greatest d 4 [some (.ref a0), some (.int (if (σ.1 a0 x2.toNatClampNeg) ≤ x1 then x1 else (σ.1 a0 x2.toNatClampNeg))), some (.int (x2 + 1))] [] σ Q)
    : Run MX11_greatest d 4 [some (.ref a0), some (.int x1), some (.int x2)] [] σ Q := by
  refine (go_iload_n 2 eX11_greatest_4 rfl rfl).run ?_
  refine (go_bipush (v := 12) eX11_greatest_5 rfl).run ?_
  refine (bi_ge 31 eX11_greatest_7 rfl).run (fun h1 => ?_) (fun h1 => ?_)
  · refine (go_iload_n 1 eX11_greatest_31 rfl rfl).run ?_
    exact Run.ret (v := some (.int x1)) (k1 h1) ⟨Or.inl rfl, eX11_greatest_32⟩ rfl
  · refine (go_aload_n 0 eX11_greatest_10 rfl rfl).run ?_
    refine (go_iload_n 2 eX11_greatest_11 rfl rfl).run ?_
    refine (go_iald ha0 rfl (g1 h1) eX11_greatest_12).run ?_
    refine (go_iload_n 1 eX11_greatest_13 rfl rfl).run ?_
    have hJh2 : Run MX11_greatest d 24 [some (.ref a0), none, some (.int x2)] [.int (if (σ.1 a0 x2.toNatClampNeg) ≤ x1 then x1 else (σ.1 a0 x2.toNatClampNeg))] σ Q := by
      refine (go_istore_n 1 (L' := [some (.ref a0), some (.int (if (σ.1 a0 x2.toNatClampNeg) ≤ x1 then x1 else (σ.1 a0 x2.toNatClampNeg))), some (.int x2)]) eX11_greatest_24 rfl (Nat.le_of_ble_eq_true rfl) rfl).run ?_
      refine (go_iinc 2 (v := (x2 + 1)) (L' := [some (.ref a0), some (.int (if (σ.1 a0 x2.toNatClampNeg) ≤ x1 then x1 else (σ.1 a0 x2.toNatClampNeg))), some (.int (x2 + 1))]) eX11_greatest_25 rfl rfl (Nat.le_of_ble_eq_true rfl) rfl).run ?_
      refine (go_goto 4 eX11_greatest_28 rfl).run ?_
      exact (k2 h1)
    refine (bi_le 23 eX11_greatest_14 rfl).run (fun h2 => ?_) (fun h2 => ?_)
    · refine (go_iload_n 1 eX11_greatest_23 rfl rfl).run ?_
      refine (go_sub (L' := [some (.ref a0), none, some (.int x2)]) (lsub_keep (lsub_drop (lsub_keep lsub_nil)))).run ?_
      first | exact hJh2 | (simp only [if_pos h2] at hJh2; exact hJh2) | (simp only [eq_true h2, eq_false (i32_nlt.mpr h2), true_and, and_true, false_and, and_false, true_or, or_true, false_or, or_false, not_true_eq_false, not_false_eq_true] at hJh2; exact hJh2) | exact Run.eq (by simp [eq_true h2, eq_false (i32_nlt.mpr h2), bI]) (by simp [eq_true h2, eq_false (i32_nlt.mpr h2), bI]) rfl hJh2
    · refine (go_aload_n 0 eX11_greatest_17 rfl rfl).run ?_
      refine (go_iload_n 2 eX11_greatest_18 rfl rfl).run ?_
      refine (go_iald ha0 rfl (g1 h1) eX11_greatest_19).run ?_
      refine (go_goto 24 eX11_greatest_20 rfl).run ?_
      refine (go_sub (L' := [some (.ref a0), none, some (.int x2)]) (lsub_keep (lsub_drop (lsub_keep lsub_nil)))).run ?_
      first | exact hJh2 | (simp only [if_neg (i32_nle.mpr h2)] at hJh2; exact hJh2) | (simp only [eq_true h2, eq_false (i32_nle.mpr h2), true_and, and_true, false_and, and_false, true_or, or_true, false_or, or_false, not_true_eq_false, not_false_eq_true] at hJh2; exact hJh2) | exact Run.eq (by simp [eq_true h2, eq_false (i32_nle.mpr h2), bI]) (by simp [eq_true h2, eq_false (i32_nle.mpr h2), bI]) rfl hJh2

/-! CarryNetsModel.rowDown -/
theorem eX11_rowDown_0 : decode MX11_rowDown.2.1 0 = .ok (.iconst 0, 1) := by decide +kernel
theorem eX11_rowDown_1 : decode MX11_rowDown.2.1 1 = .ok (.istore_n 2, 1) := by decide +kernel
theorem eX11_rowDown_2 : decode MX11_rowDown.2.1 2 = .ok (.iconst 2, 1) := by decide +kernel
theorem eX11_rowDown_3 : decode MX11_rowDown.2.1 3 = .ok (.istore_n 3, 1) := by decide +kernel
theorem eX11_rowDown_4 : decode MX11_rowDown.2.1 4 = .ok (.iload_n 3, 1) := by decide +kernel
theorem eX11_rowDown_5 : decode MX11_rowDown.2.1 5 = .ok (.iload_n 3, 1) := by decide +kernel
theorem eX11_rowDown_6 : decode MX11_rowDown.2.1 6 = .ok (.iconst 2, 1) := by decide +kernel
theorem eX11_rowDown_7 : decode MX11_rowDown.2.1 7 = .ok (.idiv, 1) := by decide +kernel
theorem eX11_rowDown_8 : decode MX11_rowDown.2.1 8 = .ok (.iadd, 1) := by decide +kernel
theorem eX11_rowDown_9 : decode MX11_rowDown.2.1 9 = .ok (.aload_n 0, 1) := by decide +kernel
theorem eX11_rowDown_10 : decode MX11_rowDown.2.1 10 = .ok (.getfield 79, 3) := by decide +kernel
theorem eX11_rowDown_13 : decode MX11_rowDown.2.1 13 = .ok (.invokestatic 267, 3) := by decide +kernel
theorem eX11_rowDown_16 : decode MX11_rowDown.2.1 16 = .ok (.if_icmp .ge 12, 3) := by decide +kernel
theorem eX11_rowDown_19 : decode MX11_rowDown.2.1 19 = .ok (.iload_n 3, 1) := by decide +kernel
theorem eX11_rowDown_20 : decode MX11_rowDown.2.1 20 = .ok (.iload_n 3, 1) := by decide +kernel
theorem eX11_rowDown_21 : decode MX11_rowDown.2.1 21 = .ok (.iconst 2, 1) := by decide +kernel
theorem eX11_rowDown_22 : decode MX11_rowDown.2.1 22 = .ok (.idiv, 1) := by decide +kernel
theorem eX11_rowDown_23 : decode MX11_rowDown.2.1 23 = .ok (.iadd, 1) := by decide +kernel
theorem eX11_rowDown_24 : decode MX11_rowDown.2.1 24 = .ok (.istore_n 3, 1) := by decide +kernel
theorem eX11_rowDown_25 : decode MX11_rowDown.2.1 25 = .ok (.goto (-21), 3) := by decide +kernel
theorem eX11_rowDown_28 : decode MX11_rowDown.2.1 28 = .ok (.iconst 0, 1) := by decide +kernel
theorem eX11_rowDown_29 : decode MX11_rowDown.2.1 29 = .ok (.istore 4, 2) := by decide +kernel
theorem eX11_rowDown_31 : decode MX11_rowDown.2.1 31 = .ok (.iload 4, 2) := by decide +kernel
theorem eX11_rowDown_33 : decode MX11_rowDown.2.1 33 = .ok (.bipush 12, 2) := by decide +kernel
theorem eX11_rowDown_35 : decode MX11_rowDown.2.1 35 = .ok (.if_icmp .ge 178, 3) := by decide +kernel
theorem eX11_rowDown_38 : decode MX11_rowDown.2.1 38 = .ok (.iconst 0, 1) := by decide +kernel
theorem eX11_rowDown_39 : decode MX11_rowDown.2.1 39 = .ok (.istore 5, 2) := by decide +kernel
theorem eX11_rowDown_41 : decode MX11_rowDown.2.1 41 = .ok (.iconst 0, 1) := by decide +kernel
theorem eX11_rowDown_42 : decode MX11_rowDown.2.1 42 = .ok (.istore 6, 2) := by decide +kernel
theorem eX11_rowDown_44 : decode MX11_rowDown.2.1 44 = .ok (.aload_n 0, 1) := by decide +kernel
theorem eX11_rowDown_45 : decode MX11_rowDown.2.1 45 = .ok (.getfield 79, 3) := by decide +kernel
theorem eX11_rowDown_48 : decode MX11_rowDown.2.1 48 = .ok (.iload 4, 2) := by decide +kernel
theorem eX11_rowDown_50 : decode MX11_rowDown.2.1 50 = .ok (.iaload, 1) := by decide +kernel
theorem eX11_rowDown_51 : decode MX11_rowDown.2.1 51 = .ok (.istore 7, 2) := by decide +kernel
theorem eX11_rowDown_53 : decode MX11_rowDown.2.1 53 = .ok (.iload_n 1, 1) := by decide +kernel
theorem eX11_rowDown_54 : decode MX11_rowDown.2.1 54 = .ok (.ifCond .ne 47, 3) := by decide +kernel
theorem eX11_rowDown_57 : decode MX11_rowDown.2.1 57 = .ok (.iload 7, 2) := by decide +kernel
theorem eX11_rowDown_59 : decode MX11_rowDown.2.1 59 = .ok (.iconst 3, 1) := by decide +kernel
theorem eX11_rowDown_60 : decode MX11_rowDown.2.1 60 = .ok (.idiv, 1) := by decide +kernel
theorem eX11_rowDown_61 : decode MX11_rowDown.2.1 61 = .ok (.istore 5, 2) := by decide +kernel
theorem eX11_rowDown_63 : decode MX11_rowDown.2.1 63 = .ok (.iload 7, 2) := by decide +kernel
theorem eX11_rowDown_65 : decode MX11_rowDown.2.1 65 = .ok (.iconst 3, 1) := by decide +kernel
theorem eX11_rowDown_66 : decode MX11_rowDown.2.1 66 = .ok (.irem, 1) := by decide +kernel
theorem eX11_rowDown_67 : decode MX11_rowDown.2.1 67 = .ok (.iconst 2, 1) := by decide +kernel
theorem eX11_rowDown_68 : decode MX11_rowDown.2.1 68 = .ok (.if_icmp .ne 13, 3) := by decide +kernel
theorem eX11_rowDown_71 : decode MX11_rowDown.2.1 71 = .ok (.iload 7, 2) := by decide +kernel
theorem eX11_rowDown_73 : decode MX11_rowDown.2.1 73 = .ok (.iconst 2, 1) := by decide +kernel
theorem eX11_rowDown_74 : decode MX11_rowDown.2.1 74 = .ok (.if_icmp .le 7, 3) := by decide +kernel
theorem eX11_rowDown_77 : decode MX11_rowDown.2.1 77 = .ok (.iconst 1, 1) := by decide +kernel
theorem eX11_rowDown_78 : decode MX11_rowDown.2.1 78 = .ok (.goto 4, 3) := by decide +kernel
theorem eX11_rowDown_81 : decode MX11_rowDown.2.1 81 = .ok (.iconst 0, 1) := by decide +kernel
theorem eX11_rowDown_82 : decode MX11_rowDown.2.1 82 = .ok (.istore 6, 2) := by decide +kernel
theorem eX11_rowDown_84 : decode MX11_rowDown.2.1 84 = .ok (.iload 7, 2) := by decide +kernel
theorem eX11_rowDown_86 : decode MX11_rowDown.2.1 86 = .ok (.iload_n 2, 1) := by decide +kernel
theorem eX11_rowDown_87 : decode MX11_rowDown.2.1 87 = .ok (.iconst 2, 1) := by decide +kernel
theorem eX11_rowDown_88 : decode MX11_rowDown.2.1 88 = .ok (.iload 5, 2) := by decide +kernel
theorem eX11_rowDown_90 : decode MX11_rowDown.2.1 90 = .ok (.imul, 1) := by decide +kernel
theorem eX11_rowDown_91 : decode MX11_rowDown.2.1 91 = .ok (.isub, 1) := by decide +kernel
theorem eX11_rowDown_92 : decode MX11_rowDown.2.1 92 = .ok (.iload 6, 2) := by decide +kernel
theorem eX11_rowDown_94 : decode MX11_rowDown.2.1 94 = .ok (.isub, 1) := by decide +kernel
theorem eX11_rowDown_95 : decode MX11_rowDown.2.1 95 = .ok (.iadd, 1) := by decide +kernel
theorem eX11_rowDown_96 : decode MX11_rowDown.2.1 96 = .ok (.istore 7, 2) := by decide +kernel
theorem eX11_rowDown_98 : decode MX11_rowDown.2.1 98 = .ok (.goto 72, 3) := by decide +kernel
theorem eX11_rowDown_101 : decode MX11_rowDown.2.1 101 = .ok (.iload 7, 2) := by decide +kernel
theorem eX11_rowDown_103 : decode MX11_rowDown.2.1 103 = .ok (.iload_n 2, 1) := by decide +kernel
theorem eX11_rowDown_104 : decode MX11_rowDown.2.1 104 = .ok (.iadd, 1) := by decide +kernel
theorem eX11_rowDown_105 : decode MX11_rowDown.2.1 105 = .ok (.istore 7, 2) := by decide +kernel
theorem eX11_rowDown_107 : decode MX11_rowDown.2.1 107 = .ok (.iload 7, 2) := by decide +kernel
theorem eX11_rowDown_109 : decode MX11_rowDown.2.1 109 = .ok (.iload_n 3, 1) := by decide +kernel
theorem eX11_rowDown_110 : decode MX11_rowDown.2.1 110 = .ok (.if_icmp .le 60, 3) := by decide +kernel
theorem eX11_rowDown_113 : decode MX11_rowDown.2.1 113 = .ok (.iload 5, 2) := by decide +kernel
theorem eX11_rowDown_115 : decode MX11_rowDown.2.1 115 = .ok (.iload 7, 2) := by decide +kernel
theorem eX11_rowDown_117 : decode MX11_rowDown.2.1 117 = .ok (.iload_n 3, 1) := by decide +kernel
theorem eX11_rowDown_118 : decode MX11_rowDown.2.1 118 = .ok (.iconst 1, 1) := by decide +kernel
theorem eX11_rowDown_119 : decode MX11_rowDown.2.1 119 = .ok (.iadd, 1) := by decide +kernel
theorem eX11_rowDown_120 : decode MX11_rowDown.2.1 120 = .ok (.if_icmp .ne 7, 3) := by decide +kernel
theorem eX11_rowDown_123 : decode MX11_rowDown.2.1 123 = .ok (.iconst 0, 1) := by decide +kernel
theorem eX11_rowDown_124 : decode MX11_rowDown.2.1 124 = .ok (.goto 4, 3) := by decide +kernel
theorem eX11_rowDown_127 : decode MX11_rowDown.2.1 127 = .ok (.iconst 1, 1) := by decide +kernel
theorem eX11_rowDown_128 : decode MX11_rowDown.2.1 128 = .ok (.iadd, 1) := by decide +kernel
theorem eX11_rowDown_129 : decode MX11_rowDown.2.1 129 = .ok (.istore 5, 2) := by decide +kernel
theorem eX11_rowDown_131 : decode MX11_rowDown.2.1 131 = .ok (.iload 6, 2) := by decide +kernel
theorem eX11_rowDown_133 : decode MX11_rowDown.2.1 133 = .ok (.iload 7, 2) := by decide +kernel
theorem eX11_rowDown_135 : decode MX11_rowDown.2.1 135 = .ok (.iload_n 3, 1) := by decide +kernel
theorem eX11_rowDown_136 : decode MX11_rowDown.2.1 136 = .ok (.iconst 1, 1) := by decide +kernel
theorem eX11_rowDown_137 : decode MX11_rowDown.2.1 137 = .ok (.iadd, 1) := by decide +kernel
theorem eX11_rowDown_138 : decode MX11_rowDown.2.1 138 = .ok (.if_icmp .ne 7, 3) := by decide +kernel
theorem eX11_rowDown_141 : decode MX11_rowDown.2.1 141 = .ok (.iconst 1, 1) := by decide +kernel
theorem eX11_rowDown_142 : decode MX11_rowDown.2.1 142 = .ok (.goto 4, 3) := by decide +kernel
theorem eX11_rowDown_145 : decode MX11_rowDown.2.1 145 = .ok (.iconst 0, 1) := by decide +kernel
theorem eX11_rowDown_146 : decode MX11_rowDown.2.1 146 = .ok (.iadd, 1) := by decide +kernel
theorem eX11_rowDown_147 : decode MX11_rowDown.2.1 147 = .ok (.istore 6, 2) := by decide +kernel
theorem eX11_rowDown_149 : decode MX11_rowDown.2.1 149 = .ok (.iload 7, 2) := by decide +kernel
theorem eX11_rowDown_151 : decode MX11_rowDown.2.1 151 = .ok (.iload 7, 2) := by decide +kernel
theorem eX11_rowDown_153 : decode MX11_rowDown.2.1 153 = .ok (.iload_n 3, 1) := by decide +kernel
theorem eX11_rowDown_154 : decode MX11_rowDown.2.1 154 = .ok (.iconst 1, 1) := by decide +kernel
theorem eX11_rowDown_155 : decode MX11_rowDown.2.1 155 = .ok (.iadd, 1) := by decide +kernel
theorem eX11_rowDown_156 : decode MX11_rowDown.2.1 156 = .ok (.if_icmp .ne 7, 3) := by decide +kernel
theorem eX11_rowDown_159 : decode MX11_rowDown.2.1 159 = .ok (.iconst 1, 1) := by decide +kernel
theorem eX11_rowDown_160 : decode MX11_rowDown.2.1 160 = .ok (.goto 4, 3) := by decide +kernel
theorem eX11_rowDown_163 : decode MX11_rowDown.2.1 163 = .ok (.iconst 2, 1) := by decide +kernel
theorem eX11_rowDown_164 : decode MX11_rowDown.2.1 164 = .ok (.isub, 1) := by decide +kernel
theorem eX11_rowDown_165 : decode MX11_rowDown.2.1 165 = .ok (.istore 7, 2) := by decide +kernel
theorem eX11_rowDown_167 : decode MX11_rowDown.2.1 167 = .ok (.goto (-60), 3) := by decide +kernel
theorem eX11_rowDown_170 : decode MX11_rowDown.2.1 170 = .ok (.aload_n 0, 1) := by decide +kernel
theorem eX11_rowDown_171 : decode MX11_rowDown.2.1 171 = .ok (.getfield 79, 3) := by decide +kernel
theorem eX11_rowDown_174 : decode MX11_rowDown.2.1 174 = .ok (.iload 4, 2) := by decide +kernel
theorem eX11_rowDown_176 : decode MX11_rowDown.2.1 176 = .ok (.iload 7, 2) := by decide +kernel
theorem eX11_rowDown_178 : decode MX11_rowDown.2.1 178 = .ok (.iastore, 1) := by decide +kernel
theorem eX11_rowDown_179 : decode MX11_rowDown.2.1 179 = .ok (.iload 5, 2) := by decide +kernel
theorem eX11_rowDown_181 : decode MX11_rowDown.2.1 181 = .ok (.iload 6, 2) := by decide +kernel
theorem eX11_rowDown_183 : decode MX11_rowDown.2.1 183 = .ok (.iadd, 1) := by decide +kernel
theorem eX11_rowDown_184 : decode MX11_rowDown.2.1 184 = .ok (.istore_n 2, 1) := by decide +kernel
theorem eX11_rowDown_185 : decode MX11_rowDown.2.1 185 = .ok (.aload_n 0, 1) := by decide +kernel
theorem eX11_rowDown_186 : decode MX11_rowDown.2.1 186 = .ok (.dup, 1) := by decide +kernel
theorem eX11_rowDown_187 : decode MX11_rowDown.2.1 187 = .ok (.getfield 271, 3) := by decide +kernel
theorem eX11_rowDown_190 : decode MX11_rowDown.2.1 190 = .ok (.iload 5, 2) := by decide +kernel
theorem eX11_rowDown_192 : decode MX11_rowDown.2.1 192 = .ok (.iadd, 1) := by decide +kernel
theorem eX11_rowDown_193 : decode MX11_rowDown.2.1 193 = .ok (.putfield 271, 3) := by decide +kernel
theorem eX11_rowDown_196 : decode MX11_rowDown.2.1 196 = .ok (.aload_n 0, 1) := by decide +kernel
theorem eX11_rowDown_197 : decode MX11_rowDown.2.1 197 = .ok (.dup, 1) := by decide +kernel
theorem eX11_rowDown_198 : decode MX11_rowDown.2.1 198 = .ok (.getfield 274, 3) := by decide +kernel
theorem eX11_rowDown_201 : decode MX11_rowDown.2.1 201 = .ok (.iload 6, 2) := by decide +kernel
theorem eX11_rowDown_203 : decode MX11_rowDown.2.1 203 = .ok (.iadd, 1) := by decide +kernel
theorem eX11_rowDown_204 : decode MX11_rowDown.2.1 204 = .ok (.putfield 274, 3) := by decide +kernel
theorem eX11_rowDown_207 : decode MX11_rowDown.2.1 207 = .ok (.iinc 4 1, 3) := by decide +kernel
theorem eX11_rowDown_210 : decode MX11_rowDown.2.1 210 = .ok (.goto (-179), 3) := by decide +kernel
theorem eX11_rowDown_213 : decode MX11_rowDown.2.1 213 = .ok (.aload_n 0, 1) := by decide +kernel
theorem eX11_rowDown_214 : decode MX11_rowDown.2.1 214 = .ok (.dup, 1) := by decide +kernel
theorem eX11_rowDown_215 : decode MX11_rowDown.2.1 215 = .ok (.getfield 277, 3) := by decide +kernel
theorem eX11_rowDown_218 : decode MX11_rowDown.2.1 218 = .ok (.iload_n 2, 1) := by decide +kernel
theorem eX11_rowDown_219 : decode MX11_rowDown.2.1 219 = .ok (.iadd, 1) := by decide +kernel
theorem eX11_rowDown_220 : decode MX11_rowDown.2.1 220 = .ok (.putfield 277, 3) := by decide +kernel
theorem eX11_rowDown_223 : decode MX11_rowDown.2.1 223 = .ok (.return_, 1) := by decide +kernel
set_option maxRecDepth 20000 in
theorem bX11_rowDown_0 {d : Nat} {Q : Option Value → St → Prop} (x1 : Int32) (σ : St) 
    (k1 : Run MX11_rowDown (d + 1) 4 [some (.ref 88), some (.int x1), some (.int 0), some (.int 2), none, none, none, none] [] σ Q)
    : Run MX11_rowDown (d + 1) 0 [some (.ref 88), some (.int x1), none, none, none, none, none, none] [] σ Q := by
  refine (go_iconst (v := 0) eX11_rowDown_0 rfl).run ?_
  refine (go_istore_n 2 (L' := [some (.ref 88), some (.int x1), some (.int 0), none, none, none, none, none]) eX11_rowDown_1 rfl (Nat.le_of_ble_eq_true rfl) rfl).run ?_
  refine (go_iconst (v := 2) eX11_rowDown_2 rfl).run ?_
  refine (go_istore_n 3 (L' := [some (.ref 88), some (.int x1), some (.int 0), some (.int 2), none, none, none, none]) eX11_rowDown_3 rfl (Nat.le_of_ble_eq_true rfl) rfl).run ?_
  exact k1

set_option maxRecDepth 20000 in
theorem bX11_rowDown_4 {d : Nat} {Q : Option Value → St → Prop} (x1 : Int32) (x2 : Int32) (x3 : Int32) (σ : St) 
    (k1 : Ct yX11_greatest MX11_greatest d [.ref 107] σ (fun v σ1 => Run MX11_rowDown (d + 1) 16 [some (.ref 88), some (.int x1), some (.int x2), some (.int x3), none, none, none, none] (v.toList ++ [.int (x3 + (x3 / 2))]) σ1 Q))
    : Run MX11_rowDown (d + 1) 4 [some (.ref 88), some (.int x1), some (.int x2), some (.int x3), none, none, none, none] [] σ Q := by
  refine (go_iload_n 3 eX11_rowDown_4 rfl rfl).run ?_
  refine (go_iload_n 3 eX11_rowDown_5 rfl rfl).run ?_
  refine (go_iconst (v := 2) eX11_rowDown_6 rfl).run ?_
  refine (go_idiv eX11_rowDown_7 (by decide)).run ?_
  refine (go_iadd eX11_rowDown_8).run ?_
  refine (go_aload_n 0 eX11_rowDown_9 rfl rfl).run ?_
  refine (go_getr flX11_79 rf_10_31 kd_88 gr_88_31 eX11_rowDown_10).run ?_
  exact Run.callS (d := d) (As := [.ref 107]) mX11_greatest lkX11_267 rfl rfl rfl (Nat.le_of_ble_eq_true rfl) eX11_rowDown_13 k1

set_option maxRecDepth 20000 in
theorem bX11_rowDown_16 {d : Nat} {Q : Option Value → St → Prop} (x1 : Int32) (x2 : Int32) (x3 : Int32) (s0 : Int32) (s1 : Int32) (σ : St) 
    (k1 : s0 ≤ s1 → Run MX11_rowDown (d + 1) 31 [some (.ref 88), some (.int x1), some (.int x2), some (.int x3), some (.int 0), none, none, none] [] σ Q)
    (k2 : s1 < s0 → Run MX11_rowDown (d + 1) 4 [some (.ref 88), some (.int x1), some (.int x2), some (.int (x3 + (x3 / 2))), none, none, none, none] [] σ Q)
    : Run MX11_rowDown (d + 1) 16 [some (.ref 88), some (.int x1), some (.int x2), some (.int x3), none, none, none, none] [.int s0, .int s1] σ Q := by
  refine (bi_ge 28 eX11_rowDown_16 rfl).run (fun h1 => ?_) (fun h1 => ?_)
  · refine (go_iconst (v := 0) eX11_rowDown_28 rfl).run ?_
    refine (go_istore 4 (L' := [some (.ref 88), some (.int x1), some (.int x2), some (.int x3), some (.int 0), none, none, none]) eX11_rowDown_29 (Nat.le_of_ble_eq_true rfl) rfl).run ?_
    exact (k1 h1)
  · refine (go_iload_n 3 eX11_rowDown_19 rfl rfl).run ?_
    refine (go_iload_n 3 eX11_rowDown_20 rfl rfl).run ?_
    refine (go_iconst (v := 2) eX11_rowDown_21 rfl).run ?_
    refine (go_idiv eX11_rowDown_22 (by decide)).run ?_
    refine (go_iadd eX11_rowDown_23).run ?_
    refine (go_istore_n 3 (L' := [some (.ref 88), some (.int x1), some (.int x2), some (.int (x3 + (x3 / 2))), none, none, none, none]) eX11_rowDown_24 rfl (Nat.le_of_ble_eq_true rfl) rfl).run ?_
    refine (go_goto 4 eX11_rowDown_25 rfl).run ?_
    exact (k2 h1)

set_option maxRecDepth 20000 in
theorem bX11_rowDown_31 {d : Nat} {Q : Option Value → St → Prop} (x1 : Int32) (x2 : Int32) (x3 : Int32) (x4 : Int32) (σ : St) 
    (g1 : x4 < 12 → vp_in x4 12)
    (k1 : (12 : Int32) ≤ x4 → Q (none) (sA σ 88 (upd (σ.1 88) 34 ((σ.1 88 34) + x2))))
    (k2 : x4 < 12 → ¬ x1 = 0 → Run MX11_rowDown (d + 1) 107 [some (.ref 88), some (.int x1), none, some (.int x3), some (.int x4), some (.int 0), some (.int 0), some (.int ((σ.1 107 x4.toNatClampNeg) + x2))] [] σ Q)
    (k3 : x4 < 12 → x1 = 0 → Run MX11_rowDown (d + 1) 31 [some (.ref 88), some (.int x1), some (.int (((σ.1 107 x4.toNatClampNeg) / 3) + (bI (((σ.1 107 x4.toNatClampNeg) - (σ.1 107 x4.toNatClampNeg) / 3 * 3) = 2 ∧ (2 : Int32) < (σ.1 107 x4.toNatClampNeg))))), some (.int x3), some (.int (x4 + 1)), none, none, none] [] (sA (sA (sA σ 107 (upd (σ.1 107) x4.toNatClampNeg ((σ.1 107 x4.toNatClampNeg) + ((x2 - ((2 : Int32) * ((σ.1 107 x4.toNatClampNeg) / 3))) - (bI (((σ.1 107 x4.toNatClampNeg) - (σ.1 107 x4.toNatClampNeg) / 3 * 3) = 2 ∧ (2 : Int32) < (σ.1 107 x4.toNatClampNeg))))))) 88 (upd (σ.1 88) 32 ((σ.1 88 32) + ((σ.1 107 x4.toNatClampNeg) / 3)))) 88 (upd (upd (σ.1 88) 32 ((σ.1 88 32) + ((σ.1 107 x4.toNatClampNeg) / 3))) 33 ((σ.1 88 33) + (bI (((σ.1 107 x4.toNatClampNeg) - (σ.1 107 x4.toNatClampNeg) / 3 * 3) = 2 ∧ (2 : Int32) < (σ.1 107 x4.toNatClampNeg)))))) Q)
    : Run MX11_rowDown (d + 1) 31 [some (.ref 88), some (.int x1), some (.int x2), some (.int x3), some (.int x4), none, none, none] [] σ Q := by
  refine (go_iload 4 eX11_rowDown_31 rfl).run ?_
  refine (go_bipush (v := 12) eX11_rowDown_33 rfl).run ?_
  refine (bi_ge 213 eX11_rowDown_35 rfl).run (fun h1 => ?_) (fun h1 => ?_)
  · refine (go_aload_n 0 eX11_rowDown_213 rfl rfl).run ?_
    refine (go_dup eX11_rowDown_214 rfl).run ?_
    refine (go_geti flX11_277 rf_10_34 kd_88 eX11_rowDown_215).run ?_
    refine (go_iload_n 2 eX11_rowDown_218 rfl rfl).run ?_
    refine (go_iadd eX11_rowDown_219).run ?_
    refine (go_puti flX11_277 rf_10_34 rfl pf_10_34 rfl rfl kd_88 eX11_rowDown_220).run ?_
    exact Run.ret (v := none) (k1 h1) ⟨rfl, eX11_rowDown_223⟩ rfl
  · refine (go_iconst (v := 0) eX11_rowDown_38 rfl).run ?_
    refine (go_istore 5 (L' := [some (.ref 88), some (.int x1), some (.int x2), some (.int x3), some (.int x4), some (.int 0), none, none]) eX11_rowDown_39 (Nat.le_of_ble_eq_true rfl) rfl).run ?_
    refine (go_iconst (v := 0) eX11_rowDown_41 rfl).run ?_
    refine (go_istore 6 (L' := [some (.ref 88), some (.int x1), some (.int x2), some (.int x3), some (.int x4), some (.int 0), some (.int 0), none]) eX11_rowDown_42 (Nat.le_of_ble_eq_true rfl) rfl).run ?_
    refine (go_aload_n 0 eX11_rowDown_44 rfl rfl).run ?_
    refine (go_getr flX11_79 rf_10_31 kd_88 gr_88_31 eX11_rowDown_45).run ?_
    refine (go_iload 4 eX11_rowDown_48 rfl).run ?_
    refine (go_iald kd_107 ln_107 (g1 h1) eX11_rowDown_50).run ?_
    refine (go_istore 7 (L' := [some (.ref 88), some (.int x1), some (.int x2), some (.int x3), some (.int x4), some (.int 0), some (.int 0), some (.int (σ.1 107 x4.toNatClampNeg))]) eX11_rowDown_51 (Nat.le_of_ble_eq_true rfl) rfl).run ?_
    refine (go_iload_n 1 eX11_rowDown_53 rfl rfl).run ?_
    refine (bz_ne 101 eX11_rowDown_54 rfl).run (fun h2 => ?_) (fun h2 => ?_)
    · refine (go_iload 7 eX11_rowDown_101 rfl).run ?_
      refine (go_iload_n 2 eX11_rowDown_103 rfl rfl).run ?_
      refine (go_iadd eX11_rowDown_104).run ?_
      refine (go_istore 7 (L' := [some (.ref 88), some (.int x1), some (.int x2), some (.int x3), some (.int x4), some (.int 0), some (.int 0), some (.int ((σ.1 107 x4.toNatClampNeg) + x2))]) eX11_rowDown_105 (Nat.le_of_ble_eq_true rfl) rfl).run ?_
      refine (go_sub (L' := [some (.ref 88), some (.int x1), none, some (.int x3), some (.int x4), some (.int 0), some (.int 0), some (.int ((σ.1 107 x4.toNatClampNeg) + x2))]) (lsub_keep (lsub_keep (lsub_drop (lsub_keep (lsub_keep (lsub_keep (lsub_keep (lsub_keep lsub_nil))))))))).run ?_
      exact (k2 h1 h2)
    · refine (go_iload 7 eX11_rowDown_57 rfl).run ?_
      refine (go_iconst (v := 3) eX11_rowDown_59 rfl).run ?_
      refine (go_idiv eX11_rowDown_60 (by decide)).run ?_
      refine (go_istore 5 (L' := [some (.ref 88), some (.int x1), some (.int x2), some (.int x3), some (.int x4), some (.int ((σ.1 107 x4.toNatClampNeg) / 3)), some (.int 0), some (.int (σ.1 107 x4.toNatClampNeg))]) eX11_rowDown_61 (Nat.le_of_ble_eq_true rfl) rfl).run ?_
      refine (go_iload 7 eX11_rowDown_63 rfl).run ?_
      refine (go_iconst (v := 3) eX11_rowDown_65 rfl).run ?_
      refine (go_irem eX11_rowDown_66 (by decide)).run ?_
      refine (go_iconst (v := 2) eX11_rowDown_67 rfl).run ?_
      have hJh3 : Run MX11_rowDown (d + 1) 82 [some (.ref 88), some (.int x1), some (.int x2), some (.int x3), some (.int x4), some (.int ((σ.1 107 x4.toNatClampNeg) / 3)), none, some (.int (σ.1 107 x4.toNatClampNeg))] [.int (bI (((σ.1 107 x4.toNatClampNeg) - (σ.1 107 x4.toNatClampNeg) / 3 * 3) = 2 ∧ (2 : Int32) < (σ.1 107 x4.toNatClampNeg)))] σ Q := by
        refine (go_istore 6 (L' := [some (.ref 88), some (.int x1), some (.int x2), some (.int x3), some (.int x4), some (.int ((σ.1 107 x4.toNatClampNeg) / 3)), some (.int (bI (((σ.1 107 x4.toNatClampNeg) - (σ.1 107 x4.toNatClampNeg) / 3 * 3) = 2 ∧ (2 : Int32) < (σ.1 107 x4.toNatClampNeg)))), some (.int (σ.1 107 x4.toNatClampNeg))]) eX11_rowDown_82 (Nat.le_of_ble_eq_true rfl) rfl).run ?_
        refine (go_iload 7 eX11_rowDown_84 rfl).run ?_
        refine (go_iload_n 2 eX11_rowDown_86 rfl rfl).run ?_
        refine (go_iconst (v := 2) eX11_rowDown_87 rfl).run ?_
        refine (go_iload 5 eX11_rowDown_88 rfl).run ?_
        refine (go_imul eX11_rowDown_90).run ?_
        refine (go_isub eX11_rowDown_91).run ?_
        refine (go_iload 6 eX11_rowDown_92 rfl).run ?_
        refine (go_isub eX11_rowDown_94).run ?_
        refine (go_iadd eX11_rowDown_95).run ?_
        refine (go_istore 7 (L' := [some (.ref 88), some (.int x1), some (.int x2), some (.int x3), some (.int x4), some (.int ((σ.1 107 x4.toNatClampNeg) / 3)), some (.int (bI (((σ.1 107 x4.toNatClampNeg) - (σ.1 107 x4.toNatClampNeg) / 3 * 3) = 2 ∧ (2 : Int32) < (σ.1 107 x4.toNatClampNeg)))), some (.int ((σ.1 107 x4.toNatClampNeg) + ((x2 - ((2 : Int32) * ((σ.1 107 x4.toNatClampNeg) / 3))) - (bI (((σ.1 107 x4.toNatClampNeg) - (σ.1 107 x4.toNatClampNeg) / 3 * 3) = 2 ∧ (2 : Int32) < (σ.1 107 x4.toNatClampNeg))))))]) eX11_rowDown_96 (Nat.le_of_ble_eq_true rfl) rfl).run ?_
        refine (go_goto 170 eX11_rowDown_98 rfl).run ?_
        refine (go_aload_n 0 eX11_rowDown_170 rfl rfl).run ?_
        refine (go_getr flX11_79 rf_10_31 kd_88 gr_88_31 eX11_rowDown_171).run ?_
        refine (go_iload 4 eX11_rowDown_174 rfl).run ?_
        refine (go_iload 7 eX11_rowDown_176 rfl).run ?_
        refine (go_iast kd_107 ln_107 (g1 h1) eX11_rowDown_178).run ?_
        refine (go_iload 5 eX11_rowDown_179 rfl).run ?_
        refine (go_iload 6 eX11_rowDown_181 rfl).run ?_
        refine (go_iadd eX11_rowDown_183).run ?_
        refine (go_istore_n 2 (L' := [some (.ref 88), some (.int x1), some (.int (((σ.1 107 x4.toNatClampNeg) / 3) + (bI (((σ.1 107 x4.toNatClampNeg) - (σ.1 107 x4.toNatClampNeg) / 3 * 3) = 2 ∧ (2 : Int32) < (σ.1 107 x4.toNatClampNeg))))), some (.int x3), some (.int x4), some (.int ((σ.1 107 x4.toNatClampNeg) / 3)), some (.int (bI (((σ.1 107 x4.toNatClampNeg) - (σ.1 107 x4.toNatClampNeg) / 3 * 3) = 2 ∧ (2 : Int32) < (σ.1 107 x4.toNatClampNeg)))), some (.int ((σ.1 107 x4.toNatClampNeg) + ((x2 - ((2 : Int32) * ((σ.1 107 x4.toNatClampNeg) / 3))) - (bI (((σ.1 107 x4.toNatClampNeg) - (σ.1 107 x4.toNatClampNeg) / 3 * 3) = 2 ∧ (2 : Int32) < (σ.1 107 x4.toNatClampNeg))))))]) eX11_rowDown_184 rfl (Nat.le_of_ble_eq_true rfl) rfl).run ?_
        refine (go_aload_n 0 eX11_rowDown_185 rfl rfl).run ?_
        refine (go_dup eX11_rowDown_186 rfl).run ?_
        refine (go_geti flX11_271 rf_10_32 kd_88 eX11_rowDown_187).run ?_
        refine (go_iload 5 eX11_rowDown_190 rfl).run ?_
        refine (go_iadd eX11_rowDown_192).run ?_
        refine (go_puti flX11_271 rf_10_32 rfl pf_10_32 rfl rfl kd_88 eX11_rowDown_193).run ?_
        refine (go_aload_n 0 eX11_rowDown_196 rfl rfl).run ?_
        refine (go_dup eX11_rowDown_197 rfl).run ?_
        refine (go_geti flX11_274 rf_10_33 kd_88 eX11_rowDown_198).run ?_
        refine (go_iload 6 eX11_rowDown_201 rfl).run ?_
        refine (go_iadd eX11_rowDown_203).run ?_
        refine (go_puti flX11_274 rf_10_33 rfl pf_10_33 rfl rfl kd_88 eX11_rowDown_204).run ?_
        refine (go_iinc 4 (v := (x4 + 1)) (L' := [some (.ref 88), some (.int x1), some (.int (((σ.1 107 x4.toNatClampNeg) / 3) + (bI (((σ.1 107 x4.toNatClampNeg) - (σ.1 107 x4.toNatClampNeg) / 3 * 3) = 2 ∧ (2 : Int32) < (σ.1 107 x4.toNatClampNeg))))), some (.int x3), some (.int (x4 + 1)), some (.int ((σ.1 107 x4.toNatClampNeg) / 3)), some (.int (bI (((σ.1 107 x4.toNatClampNeg) - (σ.1 107 x4.toNatClampNeg) / 3 * 3) = 2 ∧ (2 : Int32) < (σ.1 107 x4.toNatClampNeg)))), some (.int ((σ.1 107 x4.toNatClampNeg) + ((x2 - ((2 : Int32) * ((σ.1 107 x4.toNatClampNeg) / 3))) - (bI (((σ.1 107 x4.toNatClampNeg) - (σ.1 107 x4.toNatClampNeg) / 3 * 3) = 2 ∧ (2 : Int32) < (σ.1 107 x4.toNatClampNeg))))))]) eX11_rowDown_207 rfl rfl (Nat.le_of_ble_eq_true rfl) rfl).run ?_
        refine (go_goto 31 eX11_rowDown_210 rfl).run ?_
        refine (go_sub (L' := [some (.ref 88), some (.int x1), some (.int (((σ.1 107 x4.toNatClampNeg) / 3) + (bI (((σ.1 107 x4.toNatClampNeg) - (σ.1 107 x4.toNatClampNeg) / 3 * 3) = 2 ∧ (2 : Int32) < (σ.1 107 x4.toNatClampNeg))))), some (.int x3), some (.int (x4 + 1)), none, none, none]) (lsub_keep (lsub_keep (lsub_keep (lsub_keep (lsub_keep (lsub_drop (lsub_drop (lsub_drop lsub_nil))))))))).run ?_
        exact (k3 h1 h2)
      refine (bi_ne 81 eX11_rowDown_68 rfl).run (fun h3 => ?_) (fun h3 => ?_)
      · refine (go_iconst (v := 0) eX11_rowDown_81 rfl).run ?_
        refine (go_sub (L' := [some (.ref 88), some (.int x1), some (.int x2), some (.int x3), some (.int x4), some (.int ((σ.1 107 x4.toNatClampNeg) / 3)), none, some (.int (σ.1 107 x4.toNatClampNeg))]) (lsub_keep (lsub_keep (lsub_keep (lsub_keep (lsub_keep (lsub_keep (lsub_drop (lsub_keep lsub_nil))))))))).run ?_
        first | exact hJh3 | (simp only [if_neg (h3)] at hJh3; exact hJh3) | (simp only [eq_false h3, not_false_eq_true, true_and, and_true, false_and, and_false, true_or, or_true, false_or, or_false, not_true_eq_false, not_false_eq_true] at hJh3; exact hJh3) | exact Run.eq (by simp [eq_false h3, not_false_eq_true, bI]) (by simp [eq_false h3, not_false_eq_true, bI]) rfl hJh3
      · refine (go_iload 7 eX11_rowDown_71 rfl).run ?_
        refine (go_iconst (v := 2) eX11_rowDown_73 rfl).run ?_
        have hJh4 : Run MX11_rowDown (d + 1) 82 [some (.ref 88), some (.int x1), some (.int x2), some (.int x3), some (.int x4), some (.int ((σ.1 107 x4.toNatClampNeg) / 3)), none, some (.int (σ.1 107 x4.toNatClampNeg))] [.int (bI ((2 : Int32) < (σ.1 107 x4.toNatClampNeg)))] σ Q := by
          first | exact hJh3 | (simp only [if_pos h3] at hJh3; exact hJh3) | (simp only [eq_true h3, not_true_eq_false, true_and, and_true, false_and, and_false, true_or, or_true, false_or, or_false, not_true_eq_false, not_false_eq_true] at hJh3; exact hJh3) | exact Run.eq (by simp [eq_true h3, not_true_eq_false, bI]) (by simp [eq_true h3, not_true_eq_false, bI]) rfl hJh3
        refine (bi_le 81 eX11_rowDown_74 rfl).run (fun h4 => ?_) (fun h4 => ?_)
        · refine (go_iconst (v := 0) eX11_rowDown_81 rfl).run ?_
          refine (go_sub (L' := [some (.ref 88), some (.int x1), some (.int x2), some (.int x3), some (.int x4), some (.int ((σ.1 107 x4.toNatClampNeg) / 3)), none, some (.int (σ.1 107 x4.toNatClampNeg))]) (lsub_keep (lsub_keep (lsub_keep (lsub_keep (lsub_keep (lsub_keep (lsub_drop (lsub_keep lsub_nil))))))))).run ?_
          first | exact hJh4 | (simp only [if_pos h4] at hJh4; exact hJh4) | (simp only [eq_true h4, eq_false (i32_nlt.mpr h4), true_and, and_true, false_and, and_false, true_or, or_true, false_or, or_false, not_true_eq_false, not_false_eq_true] at hJh4; exact hJh4) | exact Run.eq (by simp [eq_true h4, eq_false (i32_nlt.mpr h4), bI]) (by simp [eq_true h4, eq_false (i32_nlt.mpr h4), bI]) rfl hJh4
        · refine (go_iconst (v := 1) eX11_rowDown_77 rfl).run ?_
          refine (go_goto 82 eX11_rowDown_78 rfl).run ?_
          refine (go_sub (L' := [some (.ref 88), some (.int x1), some (.int x2), some (.int x3), some (.int x4), some (.int ((σ.1 107 x4.toNatClampNeg) / 3)), none, some (.int (σ.1 107 x4.toNatClampNeg))]) (lsub_keep (lsub_keep (lsub_keep (lsub_keep (lsub_keep (lsub_keep (lsub_drop (lsub_keep lsub_nil))))))))).run ?_
          first | exact hJh4 | (simp only [if_neg (i32_nle.mpr h4)] at hJh4; exact hJh4) | (simp only [eq_true h4, eq_false (i32_nle.mpr h4), true_and, and_true, false_and, and_false, true_or, or_true, false_or, or_false, not_true_eq_false, not_false_eq_true] at hJh4; exact hJh4) | exact Run.eq (by simp [eq_true h4, eq_false (i32_nle.mpr h4), bI]) (by simp [eq_true h4, eq_false (i32_nle.mpr h4), bI]) rfl hJh4

set_option maxRecDepth 20000 in
theorem bX11_rowDown_107 {d : Nat} {Q : Option Value → St → Prop} (x1 : Int32) (x3 : Int32) (x4 : Int32) (x5 : Int32) (x6 : Int32) (x7 : Int32) (σ : St) 
    (g1 : x7 ≤ x3 → vp_in x4 12)
    (k1 : x7 ≤ x3 → Run MX11_rowDown (d + 1) 31 [some (.ref 88), some (.int x1), some (.int (x5 + x6)), some (.int x3), some (.int (x4 + 1)), none, none, none] [] (sA (sA (sA σ 107 (upd (σ.1 107) x4.toNatClampNeg x7)) 88 (upd (σ.1 88) 32 ((σ.1 88 32) + x5))) 88 (upd (upd (σ.1 88) 32 ((σ.1 88 32) + x5)) 33 ((σ.1 88 33) + x6))) Q)
    (k2 : x3 < x7 → Run MX11_rowDown (d + 1) 107 [some (.ref 88), some (.int x1), none, some (.int x3), some (.int x4), some (.int (x5 + (bI (¬ x7 = (x3 + 1))))), some (.int (x6 + (bI (x7 = (x3 + 1))))), some (.int (x7 - (if x7 = (x3 + 1) then (1 : Int32) else 2)))] [] σ Q)
    : Run MX11_rowDown (d + 1) 107 [some (.ref 88), some (.int x1), none, some (.int x3), some (.int x4), some (.int x5), some (.int x6), some (.int x7)] [] σ Q := by
  refine (go_iload 7 eX11_rowDown_107 rfl).run ?_
  refine (go_iload_n 3 eX11_rowDown_109 rfl rfl).run ?_
  refine (bi_le 170 eX11_rowDown_110 rfl).run (fun h1 => ?_) (fun h1 => ?_)
  · refine (go_aload_n 0 eX11_rowDown_170 rfl rfl).run ?_
    refine (go_getr flX11_79 rf_10_31 kd_88 gr_88_31 eX11_rowDown_171).run ?_
    refine (go_iload 4 eX11_rowDown_174 rfl).run ?_
    refine (go_iload 7 eX11_rowDown_176 rfl).run ?_
    refine (go_iast kd_107 ln_107 (g1 h1) eX11_rowDown_178).run ?_
    refine (go_iload 5 eX11_rowDown_179 rfl).run ?_
    refine (go_iload 6 eX11_rowDown_181 rfl).run ?_
    refine (go_iadd eX11_rowDown_183).run ?_
    refine (go_istore_n 2 (L' := [some (.ref 88), some (.int x1), some (.int (x5 + x6)), some (.int x3), some (.int x4), some (.int x5), some (.int x6), some (.int x7)]) eX11_rowDown_184 rfl (Nat.le_of_ble_eq_true rfl) rfl).run ?_
    refine (go_aload_n 0 eX11_rowDown_185 rfl rfl).run ?_
    refine (go_dup eX11_rowDown_186 rfl).run ?_
    refine (go_geti flX11_271 rf_10_32 kd_88 eX11_rowDown_187).run ?_
    refine (go_iload 5 eX11_rowDown_190 rfl).run ?_
    refine (go_iadd eX11_rowDown_192).run ?_
    refine (go_puti flX11_271 rf_10_32 rfl pf_10_32 rfl rfl kd_88 eX11_rowDown_193).run ?_
    refine (go_aload_n 0 eX11_rowDown_196 rfl rfl).run ?_
    refine (go_dup eX11_rowDown_197 rfl).run ?_
    refine (go_geti flX11_274 rf_10_33 kd_88 eX11_rowDown_198).run ?_
    refine (go_iload 6 eX11_rowDown_201 rfl).run ?_
    refine (go_iadd eX11_rowDown_203).run ?_
    refine (go_puti flX11_274 rf_10_33 rfl pf_10_33 rfl rfl kd_88 eX11_rowDown_204).run ?_
    refine (go_iinc 4 (v := (x4 + 1)) (L' := [some (.ref 88), some (.int x1), some (.int (x5 + x6)), some (.int x3), some (.int (x4 + 1)), some (.int x5), some (.int x6), some (.int x7)]) eX11_rowDown_207 rfl rfl (Nat.le_of_ble_eq_true rfl) rfl).run ?_
    refine (go_goto 31 eX11_rowDown_210 rfl).run ?_
    refine (go_sub (L' := [some (.ref 88), some (.int x1), some (.int (x5 + x6)), some (.int x3), some (.int (x4 + 1)), none, none, none]) (lsub_keep (lsub_keep (lsub_keep (lsub_keep (lsub_keep (lsub_drop (lsub_drop (lsub_drop lsub_nil))))))))).run ?_
    exact (k1 h1)
  · refine (go_iload 5 eX11_rowDown_113 rfl).run ?_
    refine (go_iload 7 eX11_rowDown_115 rfl).run ?_
    refine (go_iload_n 3 eX11_rowDown_117 rfl rfl).run ?_
    refine (go_iconst (v := 1) eX11_rowDown_118 rfl).run ?_
    refine (go_iadd eX11_rowDown_119).run ?_
    have hJh2 : Run MX11_rowDown (d + 1) 128 [some (.ref 88), some (.int x1), none, some (.int x3), some (.int x4), none, some (.int x6), some (.int x7)] [.int (bI (¬ x7 = (x3 + 1))), .int x5] σ Q := by
      refine (go_iadd eX11_rowDown_128).run ?_
      refine (go_istore 5 (L' := [some (.ref 88), some (.int x1), none, some (.int x3), some (.int x4), some (.int (x5 + (bI (¬ x7 = (x3 + 1))))), some (.int x6), some (.int x7)]) eX11_rowDown_129 (Nat.le_of_ble_eq_true rfl) rfl).run ?_
      refine (go_iload 6 eX11_rowDown_131 rfl).run ?_
      refine (go_iload 7 eX11_rowDown_133 rfl).run ?_
      refine (go_iload_n 3 eX11_rowDown_135 rfl rfl).run ?_
      refine (go_iconst (v := 1) eX11_rowDown_136 rfl).run ?_
      refine (go_iadd eX11_rowDown_137).run ?_
      have hJh3 : Run MX11_rowDown (d + 1) 146 [some (.ref 88), some (.int x1), none, some (.int x3), some (.int x4), some (.int (x5 + (bI (¬ x7 = (x3 + 1))))), none, some (.int x7)] [.int (bI (x7 = (x3 + 1))), .int x6] σ Q := by
        refine (go_iadd eX11_rowDown_146).run ?_
        refine (go_istore 6 (L' := [some (.ref 88), some (.int x1), none, some (.int x3), some (.int x4), some (.int (x5 + (bI (¬ x7 = (x3 + 1))))), some (.int (x6 + (bI (x7 = (x3 + 1))))), some (.int x7)]) eX11_rowDown_147 (Nat.le_of_ble_eq_true rfl) rfl).run ?_
        refine (go_iload 7 eX11_rowDown_149 rfl).run ?_
        refine (go_iload 7 eX11_rowDown_151 rfl).run ?_
        refine (go_iload_n 3 eX11_rowDown_153 rfl rfl).run ?_
        refine (go_iconst (v := 1) eX11_rowDown_154 rfl).run ?_
        refine (go_iadd eX11_rowDown_155).run ?_
        have hJh4 : Run MX11_rowDown (d + 1) 164 [some (.ref 88), some (.int x1), none, some (.int x3), some (.int x4), some (.int (x5 + (bI (¬ x7 = (x3 + 1))))), some (.int (x6 + (bI (x7 = (x3 + 1))))), none] [.int (if x7 = (x3 + 1) then (1 : Int32) else 2), .int x7] σ Q := by
          refine (go_isub eX11_rowDown_164).run ?_
          refine (go_istore 7 (L' := [some (.ref 88), some (.int x1), none, some (.int x3), some (.int x4), some (.int (x5 + (bI (¬ x7 = (x3 + 1))))), some (.int (x6 + (bI (x7 = (x3 + 1))))), some (.int (x7 - (if x7 = (x3 + 1) then (1 : Int32) else 2)))]) eX11_rowDown_165 (Nat.le_of_ble_eq_true rfl) rfl).run ?_
          refine (go_goto 107 eX11_rowDown_167 rfl).run ?_
          exact (k2 h1)
        refine (bi_ne 163 eX11_rowDown_156 rfl).run (fun h4 => ?_) (fun h4 => ?_)
        · refine (go_iconst (v := 2) eX11_rowDown_163 rfl).run ?_
          refine (go_sub (L' := [some (.ref 88), some (.int x1), none, some (.int x3), some (.int x4), some (.int (x5 + (bI (¬ x7 = (x3 + 1))))), some (.int (x6 + (bI (x7 = (x3 + 1))))), none]) (lsub_keep (lsub_keep (lsub_keep (lsub_keep (lsub_keep (lsub_keep (lsub_keep (lsub_drop lsub_nil))))))))).run ?_
          first | exact hJh4 | (simp only [if_neg (h4)] at hJh4; exact hJh4) | (simp only [eq_false h4, not_false_eq_true, true_and, and_true, false_and, and_false, true_or, or_true, false_or, or_false, not_true_eq_false, not_false_eq_true] at hJh4; exact hJh4) | exact Run.eq (by simp [eq_false h4, not_false_eq_true, bI]) (by simp [eq_false h4, not_false_eq_true, bI]) rfl hJh4
        · refine (go_iconst (v := 1) eX11_rowDown_159 rfl).run ?_
          refine (go_goto 164 eX11_rowDown_160 rfl).run ?_
          refine (go_sub (L' := [some (.ref 88), some (.int x1), none, some (.int x3), some (.int x4), some (.int (x5 + (bI (¬ x7 = (x3 + 1))))), some (.int (x6 + (bI (x7 = (x3 + 1))))), none]) (lsub_keep (lsub_keep (lsub_keep (lsub_keep (lsub_keep (lsub_keep (lsub_keep (lsub_drop lsub_nil))))))))).run ?_
          first | exact hJh4 | (simp only [if_pos h4] at hJh4; exact hJh4) | (simp only [eq_true h4, not_true_eq_false, true_and, and_true, false_and, and_false, true_or, or_true, false_or, or_false, not_true_eq_false, not_false_eq_true] at hJh4; exact hJh4) | exact Run.eq (by simp [eq_true h4, not_true_eq_false, bI]) (by simp [eq_true h4, not_true_eq_false, bI]) rfl hJh4
      refine (bi_ne 145 eX11_rowDown_138 rfl).run (fun h3 => ?_) (fun h3 => ?_)
      · refine (go_iconst (v := 0) eX11_rowDown_145 rfl).run ?_
        refine (go_sub (L' := [some (.ref 88), some (.int x1), none, some (.int x3), some (.int x4), some (.int (x5 + (bI (¬ x7 = (x3 + 1))))), none, some (.int x7)]) (lsub_keep (lsub_keep (lsub_keep (lsub_keep (lsub_keep (lsub_keep (lsub_drop (lsub_keep lsub_nil))))))))).run ?_
        first | exact hJh3 | (simp only [if_neg (h3)] at hJh3; exact hJh3) | (simp only [eq_false h3, not_false_eq_true, true_and, and_true, false_and, and_false, true_or, or_true, false_or, or_false, not_true_eq_false, not_false_eq_true] at hJh3; exact hJh3) | exact Run.eq (by simp [eq_false h3, not_false_eq_true, bI]) (by simp [eq_false h3, not_false_eq_true, bI]) rfl hJh3
      · refine (go_iconst (v := 1) eX11_rowDown_141 rfl).run ?_
        refine (go_goto 146 eX11_rowDown_142 rfl).run ?_
        refine (go_sub (L' := [some (.ref 88), some (.int x1), none, some (.int x3), some (.int x4), some (.int (x5 + (bI (¬ x7 = (x3 + 1))))), none, some (.int x7)]) (lsub_keep (lsub_keep (lsub_keep (lsub_keep (lsub_keep (lsub_keep (lsub_drop (lsub_keep lsub_nil))))))))).run ?_
        first | exact hJh3 | (simp only [if_pos h3] at hJh3; exact hJh3) | (simp only [eq_true h3, not_true_eq_false, true_and, and_true, false_and, and_false, true_or, or_true, false_or, or_false, not_true_eq_false, not_false_eq_true] at hJh3; exact hJh3) | exact Run.eq (by simp [eq_true h3, not_true_eq_false, bI]) (by simp [eq_true h3, not_true_eq_false, bI]) rfl hJh3
    refine (bi_ne 127 eX11_rowDown_120 rfl).run (fun h2 => ?_) (fun h2 => ?_)
    · refine (go_iconst (v := 1) eX11_rowDown_127 rfl).run ?_
      refine (go_sub (L' := [some (.ref 88), some (.int x1), none, some (.int x3), some (.int x4), none, some (.int x6), some (.int x7)]) (lsub_keep (lsub_keep (lsub_keep (lsub_keep (lsub_keep (lsub_drop (lsub_keep (lsub_keep lsub_nil))))))))).run ?_
      first | exact hJh2 | (simp only [if_neg (h2)] at hJh2; exact hJh2) | (simp only [eq_false h2, not_false_eq_true, true_and, and_true, false_and, and_false, true_or, or_true, false_or, or_false, not_true_eq_false, not_false_eq_true] at hJh2; exact hJh2) | exact Run.eq (by simp [eq_false h2, not_false_eq_true, bI]) (by simp [eq_false h2, not_false_eq_true, bI]) rfl hJh2
    · refine (go_iconst (v := 0) eX11_rowDown_123 rfl).run ?_
      refine (go_goto 128 eX11_rowDown_124 rfl).run ?_
      refine (go_sub (L' := [some (.ref 88), some (.int x1), none, some (.int x3), some (.int x4), none, some (.int x6), some (.int x7)]) (lsub_keep (lsub_keep (lsub_keep (lsub_keep (lsub_keep (lsub_drop (lsub_keep (lsub_keep lsub_nil))))))))).run ?_
      first | exact hJh2 | (simp only [if_pos h2] at hJh2; exact hJh2) | (simp only [eq_true h2, not_true_eq_false, true_and, and_true, false_and, and_false, true_or, or_true, false_or, or_false, not_true_eq_false, not_false_eq_true] at hJh2; exact hJh2) | exact Run.eq (by simp [eq_true h2, not_true_eq_false, bI]) (by simp [eq_true h2, not_true_eq_false, bI]) rfl hJh2

/-! CarryNetsModel.copies -/
theorem eX11_copies_0 : decode MX11_copies.2.1 0 = .ok (.iconst 0, 1) := by decide +kernel
theorem eX11_copies_1 : decode MX11_copies.2.1 1 = .ok (.istore_n 1, 1) := by decide +kernel
theorem eX11_copies_2 : decode MX11_copies.2.1 2 = .ok (.iload_n 1, 1) := by decide +kernel
theorem eX11_copies_3 : decode MX11_copies.2.1 3 = .ok (.bipush 12, 2) := by decide +kernel
theorem eX11_copies_5 : decode MX11_copies.2.1 5 = .ok (.if_icmp .ge 21, 3) := by decide +kernel
theorem eX11_copies_8 : decode MX11_copies.2.1 8 = .ok (.aload_n 0, 1) := by decide +kernel
theorem eX11_copies_9 : decode MX11_copies.2.1 9 = .ok (.getfield 79, 3) := by decide +kernel
theorem eX11_copies_12 : decode MX11_copies.2.1 12 = .ok (.iload_n 1, 1) := by decide +kernel
theorem eX11_copies_13 : decode MX11_copies.2.1 13 = .ok (.aload_n 0, 1) := by decide +kernel
theorem eX11_copies_14 : decode MX11_copies.2.1 14 = .ok (.getfield 76, 3) := by decide +kernel
theorem eX11_copies_17 : decode MX11_copies.2.1 17 = .ok (.iload_n 1, 1) := by decide +kernel
theorem eX11_copies_18 : decode MX11_copies.2.1 18 = .ok (.iaload, 1) := by decide +kernel
theorem eX11_copies_19 : decode MX11_copies.2.1 19 = .ok (.iastore, 1) := by decide +kernel
theorem eX11_copies_20 : decode MX11_copies.2.1 20 = .ok (.iinc 1 1, 3) := by decide +kernel
theorem eX11_copies_23 : decode MX11_copies.2.1 23 = .ok (.goto (-21), 3) := by decide +kernel
theorem eX11_copies_26 : decode MX11_copies.2.1 26 = .ok (.aload_n 0, 1) := by decide +kernel
theorem eX11_copies_27 : decode MX11_copies.2.1 27 = .ok (.iconst 0, 1) := by decide +kernel
theorem eX11_copies_28 : decode MX11_copies.2.1 28 = .ok (.putfield 271, 3) := by decide +kernel
theorem eX11_copies_31 : decode MX11_copies.2.1 31 = .ok (.aload_n 0, 1) := by decide +kernel
theorem eX11_copies_32 : decode MX11_copies.2.1 32 = .ok (.iconst 0, 1) := by decide +kernel
theorem eX11_copies_33 : decode MX11_copies.2.1 33 = .ok (.putfield 274, 3) := by decide +kernel
theorem eX11_copies_36 : decode MX11_copies.2.1 36 = .ok (.aload_n 0, 1) := by decide +kernel
theorem eX11_copies_37 : decode MX11_copies.2.1 37 = .ok (.iconst 0, 1) := by decide +kernel
theorem eX11_copies_38 : decode MX11_copies.2.1 38 = .ok (.putfield 277, 3) := by decide +kernel
theorem eX11_copies_41 : decode MX11_copies.2.1 41 = .ok (.return_, 1) := by decide +kernel
set_option maxRecDepth 20000 in
theorem bX11_copies_0 {d : Nat} {Q : Option Value → St → Prop} (σ : St) 
    (k1 : Run MX11_copies d 2 [some (.ref 88), some (.int 0)] [] σ Q)
    : Run MX11_copies d 0 [some (.ref 88), none] [] σ Q := by
  refine (go_iconst (v := 0) eX11_copies_0 rfl).run ?_
  refine (go_istore_n 1 (L' := [some (.ref 88), some (.int 0)]) eX11_copies_1 rfl (Nat.le_of_ble_eq_true rfl) rfl).run ?_
  exact k1

set_option maxRecDepth 20000 in
theorem bX11_copies_2 {d : Nat} {Q : Option Value → St → Prop} (x1 : Int32) (σ : St) 
    (g1 : x1 < 12 → vp_in x1 12)
    (k1 : (12 : Int32) ≤ x1 → Q (none) (sA (sA (sA σ 88 (upd (σ.1 88) 32 0)) 88 (upd (upd (σ.1 88) 32 0) 33 0)) 88 (upd (upd (upd (σ.1 88) 32 0) 33 0) 34 0)))
    (k2 : x1 < 12 → Run MX11_copies d 2 [some (.ref 88), some (.int (x1 + 1))] [] (sA σ 107 (upd (σ.1 107) x1.toNatClampNeg (σ.1 106 x1.toNatClampNeg))) Q)
    : Run MX11_copies d 2 [some (.ref 88), some (.int x1)] [] σ Q := by
  refine (go_iload_n 1 eX11_copies_2 rfl rfl).run ?_
  refine (go_bipush (v := 12) eX11_copies_3 rfl).run ?_
  refine (bi_ge 26 eX11_copies_5 rfl).run (fun h1 => ?_) (fun h1 => ?_)
  · refine (go_aload_n 0 eX11_copies_26 rfl rfl).run ?_
    refine (go_iconst (v := 0) eX11_copies_27 rfl).run ?_
    refine (go_puti flX11_271 rf_10_32 rfl pf_10_32 rfl rfl kd_88 eX11_copies_28).run ?_
    refine (go_aload_n 0 eX11_copies_31 rfl rfl).run ?_
    refine (go_iconst (v := 0) eX11_copies_32 rfl).run ?_
    refine (go_puti flX11_274 rf_10_33 rfl pf_10_33 rfl rfl kd_88 eX11_copies_33).run ?_
    refine (go_aload_n 0 eX11_copies_36 rfl rfl).run ?_
    refine (go_iconst (v := 0) eX11_copies_37 rfl).run ?_
    refine (go_puti flX11_277 rf_10_34 rfl pf_10_34 rfl rfl kd_88 eX11_copies_38).run ?_
    exact Run.ret (v := none) (k1 h1) ⟨rfl, eX11_copies_41⟩ rfl
  · refine (go_aload_n 0 eX11_copies_8 rfl rfl).run ?_
    refine (go_getr flX11_79 rf_10_31 kd_88 gr_88_31 eX11_copies_9).run ?_
    refine (go_iload_n 1 eX11_copies_12 rfl rfl).run ?_
    refine (go_aload_n 0 eX11_copies_13 rfl rfl).run ?_
    refine (go_getr flX11_76 rf_10_30 kd_88 gr_88_30 eX11_copies_14).run ?_
    refine (go_iload_n 1 eX11_copies_17 rfl rfl).run ?_
    refine (go_iald kd_106 ln_106 (g1 h1) eX11_copies_18).run ?_
    refine (go_iast kd_107 ln_107 (g1 h1) eX11_copies_19).run ?_
    refine (go_iinc 1 (v := (x1 + 1)) (L' := [some (.ref 88), some (.int (x1 + 1))]) eX11_copies_20 rfl rfl (Nat.le_of_ble_eq_true rfl) rfl).run ?_
    refine (go_goto 2 eX11_copies_23 rfl).run ?_
    exact (k2 h1)

/-! CarryNetsModel.down -/
theorem eX11_down_0 : decode MX11_down.2.1 0 = .ok (.iload_n 1, 1) := by decide +kernel
theorem eX11_down_1 : decode MX11_down.2.1 1 = .ok (.i2l, 1) := by decide +kernel
theorem eX11_down_2 : decode MX11_down.2.1 2 = .ok (.lconst 0, 1) := by decide +kernel
theorem eX11_down_3 : decode MX11_down.2.1 3 = .ok (.lconst 1, 1) := by decide +kernel
theorem eX11_down_4 : decode MX11_down.2.1 4 = .ok (.invokestatic 109, 3) := by decide +kernel
theorem eX11_down_7 : decode MX11_down.2.1 7 = .ok (.ifCond .ne 5, 3) := by decide +kernel
theorem eX11_down_10 : decode MX11_down.2.1 10 = .ok (.iconst (-1), 1) := by decide +kernel
theorem eX11_down_11 : decode MX11_down.2.1 11 = .ok (.ireturn, 1) := by decide +kernel
theorem eX11_down_12 : decode MX11_down.2.1 12 = .ok (.aload_n 0, 1) := by decide +kernel
theorem eX11_down_13 : decode MX11_down.2.1 13 = .ok (.getfield 76, 3) := by decide +kernel
theorem eX11_down_16 : decode MX11_down.2.1 16 = .ok (.invokestatic 267, 3) := by decide +kernel
theorem eX11_down_19 : decode MX11_down.2.1 19 = .ok (.iconst 3, 1) := by decide +kernel
theorem eX11_down_20 : decode MX11_down.2.1 20 = .ok (.if_icmp .ge 6, 3) := by decide +kernel
theorem eX11_down_23 : decode MX11_down.2.1 23 = .ok (.bipush (-2), 2) := by decide +kernel
theorem eX11_down_25 : decode MX11_down.2.1 25 = .ok (.ireturn, 1) := by decide +kernel
theorem eX11_down_26 : decode MX11_down.2.1 26 = .ok (.aload_n 0, 1) := by decide +kernel
theorem eX11_down_27 : decode MX11_down.2.1 27 = .ok (.invokevirtual 280, 3) := by decide +kernel
theorem eX11_down_30 : decode MX11_down.2.1 30 = .ok (.aload_n 0, 1) := by decide +kernel
theorem eX11_down_31 : decode MX11_down.2.1 31 = .ok (.iload_n 1, 1) := by decide +kernel
theorem eX11_down_32 : decode MX11_down.2.1 32 = .ok (.invokevirtual 283, 3) := by decide +kernel
theorem eX11_down_35 : decode MX11_down.2.1 35 = .ok (.iconst 0, 1) := by decide +kernel
theorem eX11_down_36 : decode MX11_down.2.1 36 = .ok (.istore_n 2, 1) := by decide +kernel
theorem eX11_down_37 : decode MX11_down.2.1 37 = .ok (.iload_n 2, 1) := by decide +kernel
theorem eX11_down_38 : decode MX11_down.2.1 38 = .ok (.bipush 12, 2) := by decide +kernel
theorem eX11_down_40 : decode MX11_down.2.1 40 = .ok (.if_icmp .ge 21, 3) := by decide +kernel
theorem eX11_down_43 : decode MX11_down.2.1 43 = .ok (.aload_n 0, 1) := by decide +kernel
theorem eX11_down_44 : decode MX11_down.2.1 44 = .ok (.getfield 76, 3) := by decide +kernel
theorem eX11_down_47 : decode MX11_down.2.1 47 = .ok (.iload_n 2, 1) := by decide +kernel
theorem eX11_down_48 : decode MX11_down.2.1 48 = .ok (.aload_n 0, 1) := by decide +kernel
theorem eX11_down_49 : decode MX11_down.2.1 49 = .ok (.getfield 79, 3) := by decide +kernel
theorem eX11_down_52 : decode MX11_down.2.1 52 = .ok (.iload_n 2, 1) := by decide +kernel
theorem eX11_down_53 : decode MX11_down.2.1 53 = .ok (.iaload, 1) := by decide +kernel
theorem eX11_down_54 : decode MX11_down.2.1 54 = .ok (.iastore, 1) := by decide +kernel
theorem eX11_down_55 : decode MX11_down.2.1 55 = .ok (.iinc 2 1, 3) := by decide +kernel
theorem eX11_down_58 : decode MX11_down.2.1 58 = .ok (.goto (-21), 3) := by decide +kernel
theorem eX11_down_61 : decode MX11_down.2.1 61 = .ok (.aload_n 0, 1) := by decide +kernel
theorem eX11_down_62 : decode MX11_down.2.1 62 = .ok (.getfield 271, 3) := by decide +kernel
theorem eX11_down_65 : decode MX11_down.2.1 65 = .ok (.ireturn, 1) := by decide +kernel
set_option maxRecDepth 20000 in
theorem bX11_down_0 {d : Nat} {Q : Option Value → St → Prop} (x1 : Int32) (σ : St) 
    (k1 : ((0 : Int64) ≤ x1.toInt64 ∧ x1.toInt64 ≤ (1 : Int64)) → Ct yX11_greatest MX11_greatest (d + 1) [.ref 106] σ (fun v σ1 => Run MX11_down (d + 2) 19 [some (.ref 88), some (.int x1), none] (v.toList ++ []) σ1 Q))
    (k2 : (¬ ((0 : Int64) ≤ x1.toInt64 ∧ x1.toInt64 ≤ (1 : Int64))) → Q (some (.int (-1))) σ)
    : Run MX11_down (d + 2) 0 [some (.ref 88), some (.int x1), none] [] σ Q := by
  refine (go_iload_n 1 eX11_down_0 rfl rfl).run ?_
  refine (go_i2l eX11_down_1).run ?_
  refine (go_lconst (v := 0) eX11_down_2 rfl).run ?_
  refine (go_lconst (v := 1) eX11_down_3 rfl).run ?_
  refine Run.callS1 (d := (d + 1)) (As := [.long x1.toInt64, .long 0, .long 1]) (r := .int (bI ((0 : Int64) ≤ x1.toInt64 ∧ x1.toInt64 ≤ (1 : Int64)))) mX11_in lkX11_109 rfl rfl rfl (Nat.le_of_ble_eq_true rfl) eX11_down_4 (qX11_in (d + 1) x1.toInt64 (0 : Int64) (1 : Int64) σ  ) ?_
  refine (br_ifne_b 12 eX11_down_7 rfl).run (fun h1 => ?_) (fun h1 => ?_)
  · refine (go_aload_n 0 eX11_down_12 rfl rfl).run ?_
    refine (go_getr flX11_76 rf_10_30 kd_88 gr_88_30 eX11_down_13).run ?_
    exact Run.callS (d := (d + 1)) (As := [.ref 106]) mX11_greatest lkX11_267 rfl rfl rfl (Nat.le_of_ble_eq_true rfl) eX11_down_16 (k1 h1)
  · refine (go_iconst (v := -1) eX11_down_10 rfl).run ?_
    exact Run.ret (v := some (.int (-1))) (k2 h1) ⟨Or.inl rfl, eX11_down_11⟩ rfl

set_option maxRecDepth 20000 in
theorem bX11_down_19 {d : Nat} {Q : Option Value → St → Prop} (x1 : Int32) (s0 : Int32) (σ : St) 
    (k1 : (3 : Int32) ≤ s0 → Ct yX11_copies MX11_copies (d + 1) [.ref 88] σ (fun v σ1 => Run MX11_down (d + 2) 30 [some (.ref 88), some (.int x1), none] (v.toList ++ []) σ1 Q))
    (k2 : s0 < 3 → Q (some (.int (-2))) σ)
    : Run MX11_down (d + 2) 19 [some (.ref 88), some (.int x1), none] [.int s0] σ Q := by
  refine (go_iconst (v := 3) eX11_down_19 rfl).run ?_
  refine (bi_ge 26 eX11_down_20 rfl).run (fun h1 => ?_) (fun h1 => ?_)
  · refine (go_aload_n 0 eX11_down_26 rfl rfl).run ?_
    exact Run.callV (d := (d + 1)) (As := []) mX11_copies lkX11_280 kd_88 (by decide) rfl rfl rfl rfl rfl (Nat.le_of_ble_eq_true rfl) eX11_down_27 (k1 h1)
  · refine (go_bipush (v := -2) eX11_down_23 rfl).run ?_
    exact Run.ret (v := some (.int (-2))) (k2 h1) ⟨Or.inl rfl, eX11_down_25⟩ rfl

set_option maxRecDepth 20000 in
theorem bX11_down_30 {d : Nat} {Q : Option Value → St → Prop} (x1 : Int32) (σ : St) 
    (k1 : Ct yX11_rowDown MX11_rowDown (d + 1) [.ref 88, .int x1] σ (fun v σ1 => Run MX11_down (d + 2) 35 [some (.ref 88), none, none] (v.toList ++ []) σ1 Q))
    : Run MX11_down (d + 2) 30 [some (.ref 88), some (.int x1), none] [] σ Q := by
  refine (go_aload_n 0 eX11_down_30 rfl rfl).run ?_
  refine (go_iload_n 1 eX11_down_31 rfl rfl).run ?_
  refine (go_sub (L' := [some (.ref 88), none, none]) (lsub_keep (lsub_drop (lsub_keep lsub_nil)))).run ?_
  exact Run.callV (d := (d + 1)) (As := [.int x1]) mX11_rowDown lkX11_283 kd_88 (by decide) rfl rfl rfl rfl rfl (Nat.le_of_ble_eq_true rfl) eX11_down_32 k1

set_option maxRecDepth 20000 in
theorem bX11_down_35 {d : Nat} {Q : Option Value → St → Prop} (σ : St) 
    (k1 : Run MX11_down (d + 2) 37 [some (.ref 88), none, some (.int 0)] [] σ Q)
    : Run MX11_down (d + 2) 35 [some (.ref 88), none, none] [] σ Q := by
  refine (go_iconst (v := 0) eX11_down_35 rfl).run ?_
  refine (go_istore_n 2 (L' := [some (.ref 88), none, some (.int 0)]) eX11_down_36 rfl (Nat.le_of_ble_eq_true rfl) rfl).run ?_
  exact k1

set_option maxRecDepth 20000 in
theorem bX11_down_37 {d : Nat} {Q : Option Value → St → Prop} (x2 : Int32) (σ : St) 
    (g1 : x2 < 12 → vp_in x2 12)
    (k1 : (12 : Int32) ≤ x2 → Q (some (.int (σ.1 88 32))) σ)
    (k2 : x2 < 12 → Run MX11_down (d + 2) 37 [some (.ref 88), none, some (.int (x2 + 1))] [] (sA σ 106 (upd (σ.1 106) x2.toNatClampNeg (σ.1 107 x2.toNatClampNeg))) Q)
    : Run MX11_down (d + 2) 37 [some (.ref 88), none, some (.int x2)] [] σ Q := by
  refine (go_iload_n 2 eX11_down_37 rfl rfl).run ?_
  refine (go_bipush (v := 12) eX11_down_38 rfl).run ?_
  refine (bi_ge 61 eX11_down_40 rfl).run (fun h1 => ?_) (fun h1 => ?_)
  · refine (go_aload_n 0 eX11_down_61 rfl rfl).run ?_
    refine (go_geti flX11_271 rf_10_32 kd_88 eX11_down_62).run ?_
    exact Run.ret (v := some (.int (σ.1 88 32))) (k1 h1) ⟨Or.inl rfl, eX11_down_65⟩ rfl
  · refine (go_aload_n 0 eX11_down_43 rfl rfl).run ?_
    refine (go_getr flX11_76 rf_10_30 kd_88 gr_88_30 eX11_down_44).run ?_
    refine (go_iload_n 2 eX11_down_47 rfl rfl).run ?_
    refine (go_aload_n 0 eX11_down_48 rfl rfl).run ?_
    refine (go_getr flX11_79 rf_10_31 kd_88 gr_88_31 eX11_down_49).run ?_
    refine (go_iload_n 2 eX11_down_52 rfl rfl).run ?_
    refine (go_iald kd_107 ln_107 (g1 h1) eX11_down_53).run ?_
    refine (go_iast kd_106 ln_106 (g1 h1) eX11_down_54).run ?_
    refine (go_iinc 2 (v := (x2 + 1)) (L' := [some (.ref 88), none, some (.int (x2 + 1))]) eX11_down_55 rfl rfl (Nat.le_of_ble_eq_true rfl) rfl).run ?_
    refine (go_goto 37 eX11_down_58 rfl).run ?_
    exact (k2 h1)

/-! CarryNetsModel.downs -/
theorem eX11_downs_0 : decode MX11_downs.2.1 0 = .ok (.iload_n 1, 1) := by decide +kernel
theorem eX11_downs_1 : decode MX11_downs.2.1 1 = .ok (.i2l, 1) := by decide +kernel
theorem eX11_downs_2 : decode MX11_downs.2.1 2 = .ok (.lconst 0, 1) := by decide +kernel
theorem eX11_downs_3 : decode MX11_downs.2.1 3 = .ok (.lconst 1, 1) := by decide +kernel
theorem eX11_downs_4 : decode MX11_downs.2.1 4 = .ok (.invokestatic 109, 3) := by decide +kernel
theorem eX11_downs_7 : decode MX11_downs.2.1 7 = .ok (.ifCond .eq 15, 3) := by decide +kernel
theorem eX11_downs_10 : decode MX11_downs.2.1 10 = .ok (.iload_n 2, 1) := by decide +kernel
theorem eX11_downs_11 : decode MX11_downs.2.1 11 = .ok (.i2l, 1) := by decide +kernel
theorem eX11_downs_12 : decode MX11_downs.2.1 12 = .ok (.lconst 0, 1) := by decide +kernel
theorem eX11_downs_13 : decode MX11_downs.2.1 13 = .ok (.ldc2_w 286, 3) := by decide +kernel
theorem eX11_downs_16 : decode MX11_downs.2.1 16 = .ok (.invokestatic 109, 3) := by decide +kernel
theorem eX11_downs_19 : decode MX11_downs.2.1 19 = .ok (.ifCond .ne 5, 3) := by decide +kernel
theorem eX11_downs_22 : decode MX11_downs.2.1 22 = .ok (.iconst (-1), 1) := by decide +kernel
theorem eX11_downs_23 : decode MX11_downs.2.1 23 = .ok (.ireturn, 1) := by decide +kernel
theorem eX11_downs_24 : decode MX11_downs.2.1 24 = .ok (.aload_n 0, 1) := by decide +kernel
theorem eX11_downs_25 : decode MX11_downs.2.1 25 = .ok (.getfield 76, 3) := by decide +kernel
theorem eX11_downs_28 : decode MX11_downs.2.1 28 = .ok (.invokestatic 267, 3) := by decide +kernel
theorem eX11_downs_31 : decode MX11_downs.2.1 31 = .ok (.iconst 3, 1) := by decide +kernel
theorem eX11_downs_32 : decode MX11_downs.2.1 32 = .ok (.if_icmp .ge 6, 3) := by decide +kernel
theorem eX11_downs_35 : decode MX11_downs.2.1 35 = .ok (.bipush (-2), 2) := by decide +kernel
theorem eX11_downs_37 : decode MX11_downs.2.1 37 = .ok (.ireturn, 1) := by decide +kernel
theorem eX11_downs_38 : decode MX11_downs.2.1 38 = .ok (.aload_n 0, 1) := by decide +kernel
theorem eX11_downs_39 : decode MX11_downs.2.1 39 = .ok (.invokevirtual 280, 3) := by decide +kernel
theorem eX11_downs_42 : decode MX11_downs.2.1 42 = .ok (.iconst 0, 1) := by decide +kernel
theorem eX11_downs_43 : decode MX11_downs.2.1 43 = .ok (.istore_n 3, 1) := by decide +kernel
theorem eX11_downs_44 : decode MX11_downs.2.1 44 = .ok (.aload_n 0, 1) := by decide +kernel
theorem eX11_downs_45 : decode MX11_downs.2.1 45 = .ok (.getfield 79, 3) := by decide +kernel
theorem eX11_downs_48 : decode MX11_downs.2.1 48 = .ok (.invokestatic 267, 3) := by decide +kernel
theorem eX11_downs_51 : decode MX11_downs.2.1 51 = .ok (.iconst 2, 1) := by decide +kernel
theorem eX11_downs_52 : decode MX11_downs.2.1 52 = .ok (.if_icmp .le 14, 3) := by decide +kernel
theorem eX11_downs_55 : decode MX11_downs.2.1 55 = .ok (.aload_n 0, 1) := by decide +kernel
theorem eX11_downs_56 : decode MX11_downs.2.1 56 = .ok (.iload_n 1, 1) := by decide +kernel
theorem eX11_downs_57 : decode MX11_downs.2.1 57 = .ok (.invokevirtual 283, 3) := by decide +kernel
theorem eX11_downs_60 : decode MX11_downs.2.1 60 = .ok (.iinc 3 1, 3) := by decide +kernel
theorem eX11_downs_63 : decode MX11_downs.2.1 63 = .ok (.goto (-19), 3) := by decide +kernel
theorem eX11_downs_66 : decode MX11_downs.2.1 66 = .ok (.iload_n 2, 1) := by decide +kernel
theorem eX11_downs_67 : decode MX11_downs.2.1 67 = .ok (.ifCond .ne 7, 3) := by decide +kernel
theorem eX11_downs_70 : decode MX11_downs.2.1 70 = .ok (.iload_n 3, 1) := by decide +kernel
theorem eX11_downs_71 : decode MX11_downs.2.1 71 = .ok (.goto 31, 3) := by decide +kernel
theorem eX11_downs_74 : decode MX11_downs.2.1 74 = .ok (.iload_n 2, 1) := by decide +kernel
theorem eX11_downs_75 : decode MX11_downs.2.1 75 = .ok (.iconst 1, 1) := by decide +kernel
theorem eX11_downs_76 : decode MX11_downs.2.1 76 = .ok (.if_icmp .ne 10, 3) := by decide +kernel
theorem eX11_downs_79 : decode MX11_downs.2.1 79 = .ok (.aload_n 0, 1) := by decide +kernel
theorem eX11_downs_80 : decode MX11_downs.2.1 80 = .ok (.getfield 271, 3) := by decide +kernel
theorem eX11_downs_83 : decode MX11_downs.2.1 83 = .ok (.goto 19, 3) := by decide +kernel
theorem eX11_downs_86 : decode MX11_downs.2.1 86 = .ok (.iload_n 2, 1) := by decide +kernel
theorem eX11_downs_87 : decode MX11_downs.2.1 87 = .ok (.iconst 2, 1) := by decide +kernel
theorem eX11_downs_88 : decode MX11_downs.2.1 88 = .ok (.if_icmp .ne 10, 3) := by decide +kernel
theorem eX11_downs_91 : decode MX11_downs.2.1 91 = .ok (.aload_n 0, 1) := by decide +kernel
theorem eX11_downs_92 : decode MX11_downs.2.1 92 = .ok (.getfield 274, 3) := by decide +kernel
theorem eX11_downs_95 : decode MX11_downs.2.1 95 = .ok (.goto 7, 3) := by decide +kernel
theorem eX11_downs_98 : decode MX11_downs.2.1 98 = .ok (.aload_n 0, 1) := by decide +kernel
theorem eX11_downs_99 : decode MX11_downs.2.1 99 = .ok (.getfield 277, 3) := by decide +kernel
theorem eX11_downs_102 : decode MX11_downs.2.1 102 = .ok (.ireturn, 1) := by decide +kernel
set_option maxRecDepth 20000 in
theorem bX11_downs_0 {d : Nat} {Q : Option Value → St → Prop} (x1 : Int32) (x2 : Int32) (σ : St) 
    (k1 : (¬ ((0 : Int64) ≤ x1.toInt64 ∧ x1.toInt64 ≤ (1 : Int64))) → Q (some (.int (-1))) σ)
    (k2 : ((0 : Int64) ≤ x1.toInt64 ∧ x1.toInt64 ≤ (1 : Int64)) → ((0 : Int64) ≤ x2.toInt64 ∧ x2.toInt64 ≤ (3 : Int64)) → Ct yX11_greatest MX11_greatest (d + 1) [.ref 106] σ (fun v σ1 => Run MX11_downs (d + 2) 31 [some (.ref 88), some (.int x1), some (.int x2), none] (v.toList ++ []) σ1 Q))
    (k3 : ((0 : Int64) ≤ x1.toInt64 ∧ x1.toInt64 ≤ (1 : Int64)) → (¬ ((0 : Int64) ≤ x2.toInt64 ∧ x2.toInt64 ≤ (3 : Int64))) → Q (some (.int (-1))) σ)
    : Run MX11_downs (d + 2) 0 [some (.ref 88), some (.int x1), some (.int x2), none] [] σ Q := by
  refine (go_iload_n 1 eX11_downs_0 rfl rfl).run ?_
  refine (go_i2l eX11_downs_1).run ?_
  refine (go_lconst (v := 0) eX11_downs_2 rfl).run ?_
  refine (go_lconst (v := 1) eX11_downs_3 rfl).run ?_
  refine Run.callS1 (d := (d + 1)) (As := [.long x1.toInt64, .long 0, .long 1]) (r := .int (bI ((0 : Int64) ≤ x1.toInt64 ∧ x1.toInt64 ≤ (1 : Int64)))) mX11_in lkX11_109 rfl rfl rfl (Nat.le_of_ble_eq_true rfl) eX11_downs_4 (qX11_in (d + 1) x1.toInt64 (0 : Int64) (1 : Int64) σ  ) ?_
  refine (br_ifeq_b 22 eX11_downs_7 rfl).run (fun h1 => ?_) (fun h1 => ?_)
  · refine (go_iconst (v := -1) eX11_downs_22 rfl).run ?_
    exact Run.ret (v := some (.int (-1))) (k1 h1) ⟨Or.inl rfl, eX11_downs_23⟩ rfl
  · refine (go_iload_n 2 eX11_downs_10 rfl rfl).run ?_
    refine (go_i2l eX11_downs_11).run ?_
    refine (go_lconst (v := 0) eX11_downs_12 rfl).run ?_
    refine (go_ldc2 csX11_286 eX11_downs_13).run ?_
    refine Run.callS1 (d := (d + 1)) (As := [.long x2.toInt64, .long 0, .long (3)]) (r := .int (bI ((0 : Int64) ≤ x2.toInt64 ∧ x2.toInt64 ≤ (3 : Int64)))) mX11_in lkX11_109 rfl rfl rfl (Nat.le_of_ble_eq_true rfl) eX11_downs_16 (qX11_in (d + 1) x2.toInt64 (0 : Int64) (3 : Int64) σ  ) ?_
    refine (br_ifne_b 24 eX11_downs_19 rfl).run (fun h2 => ?_) (fun h2 => ?_)
    · refine (go_aload_n 0 eX11_downs_24 rfl rfl).run ?_
      refine (go_getr flX11_76 rf_10_30 kd_88 gr_88_30 eX11_downs_25).run ?_
      exact Run.callS (d := (d + 1)) (As := [.ref 106]) mX11_greatest lkX11_267 rfl rfl rfl (Nat.le_of_ble_eq_true rfl) eX11_downs_28 (k2 h1 h2)
    · refine (go_iconst (v := -1) eX11_downs_22 rfl).run ?_
      exact Run.ret (v := some (.int (-1))) (k3 h1 h2) ⟨Or.inl rfl, eX11_downs_23⟩ rfl

set_option maxRecDepth 20000 in
theorem bX11_downs_31 {d : Nat} {Q : Option Value → St → Prop} (x1 : Int32) (x2 : Int32) (s0 : Int32) (σ : St) 
    (k1 : (3 : Int32) ≤ s0 → Ct yX11_copies MX11_copies (d + 1) [.ref 88] σ (fun v σ1 => Run MX11_downs (d + 2) 42 [some (.ref 88), some (.int x1), some (.int x2), none] (v.toList ++ []) σ1 Q))
    (k2 : s0 < 3 → Q (some (.int (-2))) σ)
    : Run MX11_downs (d + 2) 31 [some (.ref 88), some (.int x1), some (.int x2), none] [.int s0] σ Q := by
  refine (go_iconst (v := 3) eX11_downs_31 rfl).run ?_
  refine (bi_ge 38 eX11_downs_32 rfl).run (fun h1 => ?_) (fun h1 => ?_)
  · refine (go_aload_n 0 eX11_downs_38 rfl rfl).run ?_
    exact Run.callV (d := (d + 1)) (As := []) mX11_copies lkX11_280 kd_88 (by decide) rfl rfl rfl rfl rfl (Nat.le_of_ble_eq_true rfl) eX11_downs_39 (k1 h1)
  · refine (go_bipush (v := -2) eX11_downs_35 rfl).run ?_
    exact Run.ret (v := some (.int (-2))) (k2 h1) ⟨Or.inl rfl, eX11_downs_37⟩ rfl

set_option maxRecDepth 20000 in
theorem bX11_downs_42 {d : Nat} {Q : Option Value → St → Prop} (x1 : Int32) (x2 : Int32) (σ : St) 
    (k1 : Run MX11_downs (d + 2) 44 [some (.ref 88), some (.int x1), some (.int x2), some (.int 0)] [] σ Q)
    : Run MX11_downs (d + 2) 42 [some (.ref 88), some (.int x1), some (.int x2), none] [] σ Q := by
  refine (go_iconst (v := 0) eX11_downs_42 rfl).run ?_
  refine (go_istore_n 3 (L' := [some (.ref 88), some (.int x1), some (.int x2), some (.int 0)]) eX11_downs_43 rfl (Nat.le_of_ble_eq_true rfl) rfl).run ?_
  exact k1

set_option maxRecDepth 20000 in
theorem bX11_downs_44 {d : Nat} {Q : Option Value → St → Prop} (x1 : Int32) (x2 : Int32) (x3 : Int32) (σ : St) 
    (k1 : Ct yX11_greatest MX11_greatest (d + 1) [.ref 107] σ (fun v σ1 => Run MX11_downs (d + 2) 51 [some (.ref 88), some (.int x1), some (.int x2), some (.int x3)] (v.toList ++ []) σ1 Q))
    : Run MX11_downs (d + 2) 44 [some (.ref 88), some (.int x1), some (.int x2), some (.int x3)] [] σ Q := by
  refine (go_aload_n 0 eX11_downs_44 rfl rfl).run ?_
  refine (go_getr flX11_79 rf_10_31 kd_88 gr_88_31 eX11_downs_45).run ?_
  exact Run.callS (d := (d + 1)) (As := [.ref 107]) mX11_greatest lkX11_267 rfl rfl rfl (Nat.le_of_ble_eq_true rfl) eX11_downs_48 k1

set_option maxRecDepth 20000 in
theorem bX11_downs_51 {d : Nat} {Q : Option Value → St → Prop} (x1 : Int32) (x2 : Int32) (x3 : Int32) (s0 : Int32) (σ : St) 
    (k1 : s0 ≤ 2 → Q (some (.int (if x2 = 0 then x3 else (if x2 = 1 then (σ.1 88 32) else (if x2 = 2 then (σ.1 88 33) else (σ.1 88 34)))))) σ)
    (k2 : (2 : Int32) < s0 → Ct yX11_rowDown MX11_rowDown (d + 1) [.ref 88, .int x1] σ (fun v σ1 => Run MX11_downs (d + 2) 60 [some (.ref 88), some (.int x1), some (.int x2), some (.int x3)] (v.toList ++ []) σ1 Q))
    : Run MX11_downs (d + 2) 51 [some (.ref 88), some (.int x1), some (.int x2), some (.int x3)] [.int s0] σ Q := by
  refine (go_iconst (v := 2) eX11_downs_51 rfl).run ?_
  refine (bi_le 66 eX11_downs_52 rfl).run (fun h1 => ?_) (fun h1 => ?_)
  · refine (go_iload_n 2 eX11_downs_66 rfl rfl).run ?_
    have hJh2 : Run MX11_downs (d + 2) 102 [none, none, none, none] [.int (if x2 = 0 then x3 else (if x2 = 1 then (σ.1 88 32) else (if x2 = 2 then (σ.1 88 33) else (σ.1 88 34))))] σ Q := by
      exact Run.ret (v := some (.int (if x2 = 0 then x3 else (if x2 = 1 then (σ.1 88 32) else (if x2 = 2 then (σ.1 88 33) else (σ.1 88 34)))))) (k1 h1) ⟨Or.inl rfl, eX11_downs_102⟩ rfl
    refine (bz_ne 74 eX11_downs_67 rfl).run (fun h2 => ?_) (fun h2 => ?_)
    · refine (go_iload_n 2 eX11_downs_74 rfl rfl).run ?_
      refine (go_iconst (v := 1) eX11_downs_75 rfl).run ?_
      have hJh3 : Run MX11_downs (d + 2) 102 [none, none, none, none] [.int (if x2 = 1 then (σ.1 88 32) else (if x2 = 2 then (σ.1 88 33) else (σ.1 88 34)))] σ Q := by
        first | exact hJh2 | (simp only [if_neg (h2)] at hJh2; exact hJh2) | (simp only [eq_false h2, not_false_eq_true, true_and, and_true, false_and, and_false, true_or, or_true, false_or, or_false, not_true_eq_false, not_false_eq_true] at hJh2; exact hJh2) | exact Run.eq (by simp [eq_false h2, not_false_eq_true, bI]) (by simp [eq_false h2, not_false_eq_true, bI]) rfl hJh2
      refine (bi_ne 86 eX11_downs_76 rfl).run (fun h3 => ?_) (fun h3 => ?_)
      · refine (go_iload_n 2 eX11_downs_86 rfl rfl).run ?_
        refine (go_iconst (v := 2) eX11_downs_87 rfl).run ?_
        have hJh4 : Run MX11_downs (d + 2) 102 [none, none, none, none] [.int (if x2 = 2 then (σ.1 88 33) else (σ.1 88 34))] σ Q := by
          first | exact hJh3 | (simp only [if_neg (h3)] at hJh3; exact hJh3) | (simp only [eq_false h3, not_false_eq_true, true_and, and_true, false_and, and_false, true_or, or_true, false_or, or_false, not_true_eq_false, not_false_eq_true] at hJh3; exact hJh3) | exact Run.eq (by simp [eq_false h3, not_false_eq_true, bI]) (by simp [eq_false h3, not_false_eq_true, bI]) rfl hJh3
        refine (bi_ne 98 eX11_downs_88 rfl).run (fun h4 => ?_) (fun h4 => ?_)
        · refine (go_aload_n 0 eX11_downs_98 rfl rfl).run ?_
          refine (go_geti flX11_277 rf_10_34 kd_88 eX11_downs_99).run ?_
          refine (go_sub (L' := [none, none, none, none]) (lsub_drop (lsub_drop (lsub_drop (lsub_drop lsub_nil))))).run ?_
          first | exact hJh4 | (simp only [if_neg (h4)] at hJh4; exact hJh4) | (simp only [eq_false h4, not_false_eq_true, true_and, and_true, false_and, and_false, true_or, or_true, false_or, or_false, not_true_eq_false, not_false_eq_true] at hJh4; exact hJh4) | exact Run.eq (by simp [eq_false h4, not_false_eq_true, bI]) (by simp [eq_false h4, not_false_eq_true, bI]) rfl hJh4
        · refine (go_aload_n 0 eX11_downs_91 rfl rfl).run ?_
          refine (go_geti flX11_274 rf_10_33 kd_88 eX11_downs_92).run ?_
          refine (go_goto 102 eX11_downs_95 rfl).run ?_
          refine (go_sub (L' := [none, none, none, none]) (lsub_drop (lsub_drop (lsub_drop (lsub_drop lsub_nil))))).run ?_
          first | exact hJh4 | (simp only [if_pos h4] at hJh4; exact hJh4) | (simp only [eq_true h4, not_true_eq_false, true_and, and_true, false_and, and_false, true_or, or_true, false_or, or_false, not_true_eq_false, not_false_eq_true] at hJh4; exact hJh4) | exact Run.eq (by simp [eq_true h4, not_true_eq_false, bI]) (by simp [eq_true h4, not_true_eq_false, bI]) rfl hJh4
      · refine (go_aload_n 0 eX11_downs_79 rfl rfl).run ?_
        refine (go_geti flX11_271 rf_10_32 kd_88 eX11_downs_80).run ?_
        refine (go_goto 102 eX11_downs_83 rfl).run ?_
        refine (go_sub (L' := [none, none, none, none]) (lsub_drop (lsub_drop (lsub_drop (lsub_drop lsub_nil))))).run ?_
        first | exact hJh3 | (simp only [if_pos h3] at hJh3; exact hJh3) | (simp only [eq_true h3, not_true_eq_false, true_and, and_true, false_and, and_false, true_or, or_true, false_or, or_false, not_true_eq_false, not_false_eq_true] at hJh3; exact hJh3) | exact Run.eq (by simp [eq_true h3, not_true_eq_false, bI]) (by simp [eq_true h3, not_true_eq_false, bI]) rfl hJh3
    · refine (go_iload_n 3 eX11_downs_70 rfl rfl).run ?_
      refine (go_goto 102 eX11_downs_71 rfl).run ?_
      refine (go_sub (L' := [none, none, none, none]) (lsub_drop (lsub_drop (lsub_drop (lsub_drop lsub_nil))))).run ?_
      first | exact hJh2 | (simp only [if_pos h2] at hJh2; exact hJh2) | (simp only [eq_true h2, not_true_eq_false, true_and, and_true, false_and, and_false, true_or, or_true, false_or, or_false, not_true_eq_false, not_false_eq_true] at hJh2; exact hJh2) | exact Run.eq (by simp [eq_true h2, not_true_eq_false, bI]) (by simp [eq_true h2, not_true_eq_false, bI]) rfl hJh2
  · refine (go_aload_n 0 eX11_downs_55 rfl rfl).run ?_
    refine (go_iload_n 1 eX11_downs_56 rfl rfl).run ?_
    exact Run.callV (d := (d + 1)) (As := [.int x1]) mX11_rowDown lkX11_283 kd_88 (by decide) rfl rfl rfl rfl rfl (Nat.le_of_ble_eq_true rfl) eX11_downs_57 (k2 h1)

set_option maxRecDepth 20000 in
theorem bX11_downs_60 {d : Nat} {Q : Option Value → St → Prop} (x1 : Int32) (x2 : Int32) (x3 : Int32) (σ : St) 
    (k1 : Run MX11_downs (d + 2) 44 [some (.ref 88), some (.int x1), some (.int x2), some (.int (x3 + 1))] [] σ Q)
    : Run MX11_downs (d + 2) 60 [some (.ref 88), some (.int x1), some (.int x2), some (.int x3)] [] σ Q := by
  refine (go_iinc 3 (v := (x3 + 1)) (L' := [some (.ref 88), some (.int x1), some (.int x2), some (.int (x3 + 1))]) eX11_downs_60 rfl rfl (Nat.le_of_ble_eq_true rfl) rfl).run ?_
  refine (go_goto 44 eX11_downs_63 rfl).run ?_
  exact k1

/-! CarryNetsModel.allBits -/
theorem eX11_allBits_0 : decode MX11_allBits.2.1 0 = .ok (.iconst 0, 1) := by decide +kernel
theorem eX11_allBits_1 : decode MX11_allBits.2.1 1 = .ok (.istore_n 1, 1) := by decide +kernel
theorem eX11_allBits_2 : decode MX11_allBits.2.1 2 = .ok (.iconst 0, 1) := by decide +kernel
theorem eX11_allBits_3 : decode MX11_allBits.2.1 3 = .ok (.istore_n 2, 1) := by decide +kernel
theorem eX11_allBits_4 : decode MX11_allBits.2.1 4 = .ok (.iload_n 2, 1) := by decide +kernel
theorem eX11_allBits_5 : decode MX11_allBits.2.1 5 = .ok (.bipush 12, 2) := by decide +kernel
theorem eX11_allBits_7 : decode MX11_allBits.2.1 7 = .ok (.if_icmp .ge 18, 3) := by decide +kernel
theorem eX11_allBits_10 : decode MX11_allBits.2.1 10 = .ok (.iload_n 1, 1) := by decide +kernel
theorem eX11_allBits_11 : decode MX11_allBits.2.1 11 = .ok (.aload_n 0, 1) := by decide +kernel
theorem eX11_allBits_12 : decode MX11_allBits.2.1 12 = .ok (.getfield 76, 3) := by decide +kernel
theorem eX11_allBits_15 : decode MX11_allBits.2.1 15 = .ok (.iload_n 2, 1) := by decide +kernel
theorem eX11_allBits_16 : decode MX11_allBits.2.1 16 = .ok (.iaload, 1) := by decide +kernel
theorem eX11_allBits_17 : decode MX11_allBits.2.1 17 = .ok (.iadd, 1) := by decide +kernel
theorem eX11_allBits_18 : decode MX11_allBits.2.1 18 = .ok (.istore_n 1, 1) := by decide +kernel
theorem eX11_allBits_19 : decode MX11_allBits.2.1 19 = .ok (.iinc 2 1, 3) := by decide +kernel
theorem eX11_allBits_22 : decode MX11_allBits.2.1 22 = .ok (.goto (-18), 3) := by decide +kernel
theorem eX11_allBits_25 : decode MX11_allBits.2.1 25 = .ok (.iload_n 1, 1) := by decide +kernel
theorem eX11_allBits_26 : decode MX11_allBits.2.1 26 = .ok (.ireturn, 1) := by decide +kernel
set_option maxRecDepth 20000 in
theorem bX11_allBits_0 {d : Nat} {Q : Option Value → St → Prop} (σ : St) 
    (k1 : Run MX11_allBits d 4 [some (.ref 88), some (.int 0), some (.int 0)] [] σ Q)
    : Run MX11_allBits d 0 [some (.ref 88), none, none] [] σ Q := by
  refine (go_iconst (v := 0) eX11_allBits_0 rfl).run ?_
  refine (go_istore_n 1 (L' := [some (.ref 88), some (.int 0), none]) eX11_allBits_1 rfl (Nat.le_of_ble_eq_true rfl) rfl).run ?_
  refine (go_iconst (v := 0) eX11_allBits_2 rfl).run ?_
  refine (go_istore_n 2 (L' := [some (.ref 88), some (.int 0), some (.int 0)]) eX11_allBits_3 rfl (Nat.le_of_ble_eq_true rfl) rfl).run ?_
  exact k1

set_option maxRecDepth 20000 in
theorem bX11_allBits_4 {d : Nat} {Q : Option Value → St → Prop} (x1 : Int32) (x2 : Int32) (σ : St) 
    (g1 : x2 < 12 → vp_in x2 12)
    (k1 : (12 : Int32) ≤ x2 → Q (some (.int x1)) σ)
    (k2 : x2 < 12 → Run MX11_allBits d 4 [some (.ref 88), some (.int (x1 + (σ.1 106 x2.toNatClampNeg))), some (.int (x2 + 1))] [] σ Q)
    : Run MX11_allBits d 4 [some (.ref 88), some (.int x1), some (.int x2)] [] σ Q := by
  refine (go_iload_n 2 eX11_allBits_4 rfl rfl).run ?_
  refine (go_bipush (v := 12) eX11_allBits_5 rfl).run ?_
  refine (bi_ge 25 eX11_allBits_7 rfl).run (fun h1 => ?_) (fun h1 => ?_)
  · refine (go_iload_n 1 eX11_allBits_25 rfl rfl).run ?_
    exact Run.ret (v := some (.int x1)) (k1 h1) ⟨Or.inl rfl, eX11_allBits_26⟩ rfl
  · refine (go_iload_n 1 eX11_allBits_10 rfl rfl).run ?_
    refine (go_aload_n 0 eX11_allBits_11 rfl rfl).run ?_
    refine (go_getr flX11_76 rf_10_30 kd_88 gr_88_30 eX11_allBits_12).run ?_
    refine (go_iload_n 2 eX11_allBits_15 rfl rfl).run ?_
    refine (go_iald kd_106 ln_106 (g1 h1) eX11_allBits_16).run ?_
    refine (go_iadd eX11_allBits_17).run ?_
    refine (go_istore_n 1 (L' := [some (.ref 88), some (.int (x1 + (σ.1 106 x2.toNatClampNeg))), some (.int x2)]) eX11_allBits_18 rfl (Nat.le_of_ble_eq_true rfl) rfl).run ?_
    refine (go_iinc 2 (v := (x2 + 1)) (L' := [some (.ref 88), some (.int (x1 + (σ.1 106 x2.toNatClampNeg))), some (.int (x2 + 1))]) eX11_allBits_19 rfl rfl (Nat.le_of_ble_eq_true rfl) rfl).run ?_
    refine (go_goto 4 eX11_allBits_22 rfl).run ?_
    exact (k2 h1)

/-! CarryNetsModel.heap -/
theorem eX11_heap_0 : decode MX11_heap.2.1 0 = .ok (.iload_n 1, 1) := by decide +kernel
theorem eX11_heap_1 : decode MX11_heap.2.1 1 = .ok (.i2l, 1) := by decide +kernel
theorem eX11_heap_2 : decode MX11_heap.2.1 2 = .ok (.lconst 0, 1) := by decide +kernel
theorem eX11_heap_3 : decode MX11_heap.2.1 3 = .ok (.ldc2_w 263, 3) := by decide +kernel
theorem eX11_heap_6 : decode MX11_heap.2.1 6 = .ok (.invokestatic 109, 3) := by decide +kernel
theorem eX11_heap_9 : decode MX11_heap.2.1 9 = .ok (.ifCond .eq 10, 3) := by decide +kernel
theorem eX11_heap_12 : decode MX11_heap.2.1 12 = .ok (.aload_n 0, 1) := by decide +kernel
theorem eX11_heap_13 : decode MX11_heap.2.1 13 = .ok (.getfield 76, 3) := by decide +kernel
theorem eX11_heap_16 : decode MX11_heap.2.1 16 = .ok (.iload_n 1, 1) := by decide +kernel
theorem eX11_heap_17 : decode MX11_heap.2.1 17 = .ok (.iaload, 1) := by decide +kernel
theorem eX11_heap_18 : decode MX11_heap.2.1 18 = .ok (.ireturn, 1) := by decide +kernel
theorem eX11_heap_19 : decode MX11_heap.2.1 19 = .ok (.iconst 0, 1) := by decide +kernel
theorem eX11_heap_20 : decode MX11_heap.2.1 20 = .ok (.istore_n 2, 1) := by decide +kernel
theorem eX11_heap_21 : decode MX11_heap.2.1 21 = .ok (.iconst 0, 1) := by decide +kernel
theorem eX11_heap_22 : decode MX11_heap.2.1 22 = .ok (.istore_n 3, 1) := by decide +kernel
theorem eX11_heap_23 : decode MX11_heap.2.1 23 = .ok (.iload_n 3, 1) := by decide +kernel
theorem eX11_heap_24 : decode MX11_heap.2.1 24 = .ok (.bipush 12, 2) := by decide +kernel
theorem eX11_heap_26 : decode MX11_heap.2.1 26 = .ok (.if_icmp .ge 26, 3) := by decide +kernel
theorem eX11_heap_29 : decode MX11_heap.2.1 29 = .ok (.iload_n 2, 1) := by decide +kernel
theorem eX11_heap_30 : decode MX11_heap.2.1 30 = .ok (.aload_n 0, 1) := by decide +kernel
theorem eX11_heap_31 : decode MX11_heap.2.1 31 = .ok (.getfield 76, 3) := by decide +kernel
theorem eX11_heap_34 : decode MX11_heap.2.1 34 = .ok (.iload_n 3, 1) := by decide +kernel
theorem eX11_heap_35 : decode MX11_heap.2.1 35 = .ok (.iaload, 1) := by decide +kernel
theorem eX11_heap_36 : decode MX11_heap.2.1 36 = .ok (.ifCond .le 7, 3) := by decide +kernel
theorem eX11_heap_39 : decode MX11_heap.2.1 39 = .ok (.iconst 1, 1) := by decide +kernel
theorem eX11_heap_40 : decode MX11_heap.2.1 40 = .ok (.goto 4, 3) := by decide +kernel
theorem eX11_heap_43 : decode MX11_heap.2.1 43 = .ok (.iconst 0, 1) := by decide +kernel
theorem eX11_heap_44 : decode MX11_heap.2.1 44 = .ok (.iadd, 1) := by decide +kernel
theorem eX11_heap_45 : decode MX11_heap.2.1 45 = .ok (.istore_n 2, 1) := by decide +kernel
theorem eX11_heap_46 : decode MX11_heap.2.1 46 = .ok (.iinc 3 1, 3) := by decide +kernel
theorem eX11_heap_49 : decode MX11_heap.2.1 49 = .ok (.goto (-26), 3) := by decide +kernel
theorem eX11_heap_52 : decode MX11_heap.2.1 52 = .ok (.iload_n 1, 1) := by decide +kernel
theorem eX11_heap_53 : decode MX11_heap.2.1 53 = .ok (.bipush 20, 2) := by decide +kernel
theorem eX11_heap_55 : decode MX11_heap.2.1 55 = .ok (.if_icmp .ne 13, 3) := by decide +kernel
theorem eX11_heap_58 : decode MX11_heap.2.1 58 = .ok (.aload_n 0, 1) := by decide +kernel
theorem eX11_heap_59 : decode MX11_heap.2.1 59 = .ok (.getfield 76, 3) := by decide +kernel
theorem eX11_heap_62 : decode MX11_heap.2.1 62 = .ok (.invokestatic 267, 3) := by decide +kernel
theorem eX11_heap_65 : decode MX11_heap.2.1 65 = .ok (.goto 52, 3) := by decide +kernel
theorem eX11_heap_68 : decode MX11_heap.2.1 68 = .ok (.iload_n 1, 1) := by decide +kernel
theorem eX11_heap_69 : decode MX11_heap.2.1 69 = .ok (.bipush 21, 2) := by decide +kernel
theorem eX11_heap_71 : decode MX11_heap.2.1 71 = .ok (.if_icmp .ne 10, 3) := by decide +kernel
theorem eX11_heap_74 : decode MX11_heap.2.1 74 = .ok (.aload_n 0, 1) := by decide +kernel
theorem eX11_heap_75 : decode MX11_heap.2.1 75 = .ok (.invokevirtual 288, 3) := by decide +kernel
theorem eX11_heap_78 : decode MX11_heap.2.1 78 = .ok (.goto 39, 3) := by decide +kernel
theorem eX11_heap_81 : decode MX11_heap.2.1 81 = .ok (.iload_n 1, 1) := by decide +kernel
theorem eX11_heap_82 : decode MX11_heap.2.1 82 = .ok (.bipush 22, 2) := by decide +kernel
theorem eX11_heap_84 : decode MX11_heap.2.1 84 = .ok (.if_icmp .ne 22, 3) := by decide +kernel
theorem eX11_heap_87 : decode MX11_heap.2.1 87 = .ok (.aload_n 0, 1) := by decide +kernel
theorem eX11_heap_88 : decode MX11_heap.2.1 88 = .ok (.getfield 76, 3) := by decide +kernel
theorem eX11_heap_91 : decode MX11_heap.2.1 91 = .ok (.invokestatic 267, 3) := by decide +kernel
theorem eX11_heap_94 : decode MX11_heap.2.1 94 = .ok (.iconst 3, 1) := by decide +kernel
theorem eX11_heap_95 : decode MX11_heap.2.1 95 = .ok (.if_icmp .ge 7, 3) := by decide +kernel
theorem eX11_heap_98 : decode MX11_heap.2.1 98 = .ok (.iconst 1, 1) := by decide +kernel
theorem eX11_heap_99 : decode MX11_heap.2.1 99 = .ok (.goto 18, 3) := by decide +kernel
theorem eX11_heap_102 : decode MX11_heap.2.1 102 = .ok (.iconst 0, 1) := by decide +kernel
theorem eX11_heap_103 : decode MX11_heap.2.1 103 = .ok (.goto 14, 3) := by decide +kernel
theorem eX11_heap_106 : decode MX11_heap.2.1 106 = .ok (.iload_n 1, 1) := by decide +kernel
theorem eX11_heap_107 : decode MX11_heap.2.1 107 = .ok (.bipush 23, 2) := by decide +kernel
theorem eX11_heap_109 : decode MX11_heap.2.1 109 = .ok (.if_icmp .ne 7, 3) := by decide +kernel
theorem eX11_heap_112 : decode MX11_heap.2.1 112 = .ok (.iload_n 2, 1) := by decide +kernel
theorem eX11_heap_113 : decode MX11_heap.2.1 113 = .ok (.goto 4, 3) := by decide +kernel
theorem eX11_heap_116 : decode MX11_heap.2.1 116 = .ok (.iconst (-1), 1) := by decide +kernel
theorem eX11_heap_117 : decode MX11_heap.2.1 117 = .ok (.ireturn, 1) := by decide +kernel
set_option maxRecDepth 20000 in
theorem bX11_heap_0 {d : Nat} {Q : Option Value → St → Prop} (x1 : Int32) (σ : St) 
    (g1 : ((0 : Int64) ≤ x1.toInt64 ∧ x1.toInt64 ≤ (11 : Int64)) → vp_in x1 12)
    (k1 : (¬ ((0 : Int64) ≤ x1.toInt64 ∧ x1.toInt64 ≤ (11 : Int64))) → Run MX11_heap (d + 1) 23 [some (.ref 88), some (.int x1), some (.int 0), some (.int 0)] [] σ Q)
    (k2 : ((0 : Int64) ≤ x1.toInt64 ∧ x1.toInt64 ≤ (11 : Int64)) → Q (some (.int (σ.1 106 x1.toNatClampNeg))) σ)
    : Run MX11_heap (d + 1) 0 [some (.ref 88), some (.int x1), none, none] [] σ Q := by
  refine (go_iload_n 1 eX11_heap_0 rfl rfl).run ?_
  refine (go_i2l eX11_heap_1).run ?_
  refine (go_lconst (v := 0) eX11_heap_2 rfl).run ?_
  refine (go_ldc2 csX11_263 eX11_heap_3).run ?_
  refine Run.callS1 (d := d) (As := [.long x1.toInt64, .long 0, .long (11)]) (r := .int (bI ((0 : Int64) ≤ x1.toInt64 ∧ x1.toInt64 ≤ (11 : Int64)))) mX11_in lkX11_109 rfl rfl rfl (Nat.le_of_ble_eq_true rfl) eX11_heap_6 (qX11_in d x1.toInt64 (0 : Int64) (11 : Int64) σ  ) ?_
  refine (br_ifeq_b 19 eX11_heap_9 rfl).run (fun h1 => ?_) (fun h1 => ?_)
  · refine (go_iconst (v := 0) eX11_heap_19 rfl).run ?_
    refine (go_istore_n 2 (L' := [some (.ref 88), some (.int x1), some (.int 0), none]) eX11_heap_20 rfl (Nat.le_of_ble_eq_true rfl) rfl).run ?_
    refine (go_iconst (v := 0) eX11_heap_21 rfl).run ?_
    refine (go_istore_n 3 (L' := [some (.ref 88), some (.int x1), some (.int 0), some (.int 0)]) eX11_heap_22 rfl (Nat.le_of_ble_eq_true rfl) rfl).run ?_
    exact (k1 h1)
  · refine (go_aload_n 0 eX11_heap_12 rfl rfl).run ?_
    refine (go_getr flX11_76 rf_10_30 kd_88 gr_88_30 eX11_heap_13).run ?_
    refine (go_iload_n 1 eX11_heap_16 rfl rfl).run ?_
    refine (go_iald kd_106 ln_106 (g1 h1) eX11_heap_17).run ?_
    exact Run.ret (v := some (.int (σ.1 106 x1.toNatClampNeg))) (k2 h1) ⟨Or.inl rfl, eX11_heap_18⟩ rfl

set_option maxRecDepth 20000 in
theorem bX11_heap_23 {d : Nat} {Q : Option Value → St → Prop} (x1 : Int32) (x2 : Int32) (x3 : Int32) (σ : St) 
    (g1 : x3 < 12 → vp_in x3 12)
    (k1 : (12 : Int32) ≤ x3 → ¬ x1 = 20 → ¬ x1 = 21 → ¬ x1 = 22 → Q (some (.int (if x1 = 23 then x2 else (-1)))) σ)
    (k2 : (12 : Int32) ≤ x3 → ¬ x1 = 20 → ¬ x1 = 21 → x1 = 22 → Ct yX11_greatest MX11_greatest d [.ref 106] σ (fun v σ1 => Run MX11_heap (d + 1) 94 [none, none, none, none] (v.toList ++ []) σ1 Q))
    (k3 : (12 : Int32) ≤ x3 → ¬ x1 = 20 → x1 = 21 → Ct yX11_allBits MX11_allBits d [.ref 88] σ (fun v σ1 => Run MX11_heap (d + 1) 78 [none, none, none, none] (v.toList ++ []) σ1 Q))
    (k4 : (12 : Int32) ≤ x3 → x1 = 20 → Ct yX11_greatest MX11_greatest d [.ref 106] σ (fun v σ1 => Run MX11_heap (d + 1) 65 [none, none, none, none] (v.toList ++ []) σ1 Q))
    (k5 : x3 < 12 → Run MX11_heap (d + 1) 23 [some (.ref 88), some (.int x1), some (.int (x2 + (bI ((0 : Int32) < (σ.1 106 x3.toNatClampNeg))))), some (.int (x3 + 1))] [] σ Q)
    : Run MX11_heap (d + 1) 23 [some (.ref 88), some (.int x1), some (.int x2), some (.int x3)] [] σ Q := by
  refine (go_iload_n 3 eX11_heap_23 rfl rfl).run ?_
  refine (go_bipush (v := 12) eX11_heap_24 rfl).run ?_
  refine (bi_ge 52 eX11_heap_26 rfl).run (fun h1 => ?_) (fun h1 => ?_)
  · refine (go_iload_n 1 eX11_heap_52 rfl rfl).run ?_
    refine (go_bipush (v := 20) eX11_heap_53 rfl).run ?_
    refine (bi_ne 68 eX11_heap_55 rfl).run (fun h2 => ?_) (fun h2 => ?_)
    · refine (go_iload_n 1 eX11_heap_68 rfl rfl).run ?_
      refine (go_bipush (v := 21) eX11_heap_69 rfl).run ?_
      refine (bi_ne 81 eX11_heap_71 rfl).run (fun h3 => ?_) (fun h3 => ?_)
      · refine (go_iload_n 1 eX11_heap_81 rfl rfl).run ?_
        refine (go_bipush (v := 22) eX11_heap_82 rfl).run ?_
        refine (bi_ne 106 eX11_heap_84 rfl).run (fun h4 => ?_) (fun h4 => ?_)
        · refine (go_iload_n 1 eX11_heap_106 rfl rfl).run ?_
          refine (go_bipush (v := 23) eX11_heap_107 rfl).run ?_
          have hJh5 : Run MX11_heap (d + 1) 117 [none, none, none, none] [.int (if x1 = 23 then x2 else (-1))] σ Q := by
            exact Run.ret (v := some (.int (if x1 = 23 then x2 else (-1)))) (k1 h1 h2 h3 h4) ⟨Or.inl rfl, eX11_heap_117⟩ rfl
          refine (bi_ne 116 eX11_heap_109 rfl).run (fun h5 => ?_) (fun h5 => ?_)
          · refine (go_iconst (v := -1) eX11_heap_116 rfl).run ?_
            refine (go_sub (L' := [none, none, none, none]) (lsub_drop (lsub_drop (lsub_drop (lsub_drop lsub_nil))))).run ?_
            first | exact hJh5 | (simp only [if_neg (h5)] at hJh5; exact hJh5) | (simp only [eq_false h5, not_false_eq_true, true_and, and_true, false_and, and_false, true_or, or_true, false_or, or_false, not_true_eq_false, not_false_eq_true] at hJh5; exact hJh5) | exact Run.eq (by simp [eq_false h5, not_false_eq_true, bI]) (by simp [eq_false h5, not_false_eq_true, bI]) rfl hJh5
          · refine (go_iload_n 2 eX11_heap_112 rfl rfl).run ?_
            refine (go_goto 117 eX11_heap_113 rfl).run ?_
            refine (go_sub (L' := [none, none, none, none]) (lsub_drop (lsub_drop (lsub_drop (lsub_drop lsub_nil))))).run ?_
            first | exact hJh5 | (simp only [if_pos h5] at hJh5; exact hJh5) | (simp only [eq_true h5, not_true_eq_false, true_and, and_true, false_and, and_false, true_or, or_true, false_or, or_false, not_true_eq_false, not_false_eq_true] at hJh5; exact hJh5) | exact Run.eq (by simp [eq_true h5, not_true_eq_false, bI]) (by simp [eq_true h5, not_true_eq_false, bI]) rfl hJh5
        · refine (go_aload_n 0 eX11_heap_87 rfl rfl).run ?_
          refine (go_getr flX11_76 rf_10_30 kd_88 gr_88_30 eX11_heap_88).run ?_
          refine (go_sub (L' := [none, none, none, none]) (lsub_drop (lsub_drop (lsub_drop (lsub_drop lsub_nil))))).run ?_
          exact Run.callS (d := d) (As := [.ref 106]) mX11_greatest lkX11_267 rfl rfl rfl (Nat.le_of_ble_eq_true rfl) eX11_heap_91 (k2 h1 h2 h3 h4)
      · refine (go_aload_n 0 eX11_heap_74 rfl rfl).run ?_
        refine (go_sub (L' := [none, none, none, none]) (lsub_drop (lsub_drop (lsub_drop (lsub_drop lsub_nil))))).run ?_
        exact Run.callV (d := d) (As := []) mX11_allBits lkX11_288 kd_88 (by decide) rfl rfl rfl rfl rfl (Nat.le_of_ble_eq_true rfl) eX11_heap_75 (k3 h1 h2 h3)
    · refine (go_aload_n 0 eX11_heap_58 rfl rfl).run ?_
      refine (go_getr flX11_76 rf_10_30 kd_88 gr_88_30 eX11_heap_59).run ?_
      refine (go_sub (L' := [none, none, none, none]) (lsub_drop (lsub_drop (lsub_drop (lsub_drop lsub_nil))))).run ?_
      exact Run.callS (d := d) (As := [.ref 106]) mX11_greatest lkX11_267 rfl rfl rfl (Nat.le_of_ble_eq_true rfl) eX11_heap_62 (k4 h1 h2)
  · refine (go_iload_n 2 eX11_heap_29 rfl rfl).run ?_
    refine (go_aload_n 0 eX11_heap_30 rfl rfl).run ?_
    refine (go_getr flX11_76 rf_10_30 kd_88 gr_88_30 eX11_heap_31).run ?_
    refine (go_iload_n 3 eX11_heap_34 rfl rfl).run ?_
    refine (go_iald kd_106 ln_106 (g1 h1) eX11_heap_35).run ?_
    have hJh6 : Run MX11_heap (d + 1) 44 [some (.ref 88), some (.int x1), none, some (.int x3)] [.int (bI ((0 : Int32) < (σ.1 106 x3.toNatClampNeg))), .int x2] σ Q := by
      refine (go_iadd eX11_heap_44).run ?_
      refine (go_istore_n 2 (L' := [some (.ref 88), some (.int x1), some (.int (x2 + (bI ((0 : Int32) < (σ.1 106 x3.toNatClampNeg))))), some (.int x3)]) eX11_heap_45 rfl (Nat.le_of_ble_eq_true rfl) rfl).run ?_
      refine (go_iinc 3 (v := (x3 + 1)) (L' := [some (.ref 88), some (.int x1), some (.int (x2 + (bI ((0 : Int32) < (σ.1 106 x3.toNatClampNeg))))), some (.int (x3 + 1))]) eX11_heap_46 rfl rfl (Nat.le_of_ble_eq_true rfl) rfl).run ?_
      refine (go_goto 23 eX11_heap_49 rfl).run ?_
      exact (k5 h1)
    refine (bz_le 43 eX11_heap_36 rfl).run (fun h6 => ?_) (fun h6 => ?_)
    · refine (go_iconst (v := 0) eX11_heap_43 rfl).run ?_
      refine (go_sub (L' := [some (.ref 88), some (.int x1), none, some (.int x3)]) (lsub_keep (lsub_keep (lsub_drop (lsub_keep lsub_nil))))).run ?_
      first | exact hJh6 | (simp only [if_pos h6] at hJh6; exact hJh6) | (simp only [eq_true h6, eq_false (i32_nlt.mpr h6), true_and, and_true, false_and, and_false, true_or, or_true, false_or, or_false, not_true_eq_false, not_false_eq_true] at hJh6; exact hJh6) | exact Run.eq (by simp [eq_true h6, eq_false (i32_nlt.mpr h6), bI]) (by simp [eq_true h6, eq_false (i32_nlt.mpr h6), bI]) rfl hJh6
    · refine (go_iconst (v := 1) eX11_heap_39 rfl).run ?_
      refine (go_goto 44 eX11_heap_40 rfl).run ?_
      refine (go_sub (L' := [some (.ref 88), some (.int x1), none, some (.int x3)]) (lsub_keep (lsub_keep (lsub_drop (lsub_keep lsub_nil))))).run ?_
      first | exact hJh6 | (simp only [if_neg (i32_nle.mpr h6)] at hJh6; exact hJh6) | (simp only [eq_true h6, eq_false (i32_nle.mpr h6), true_and, and_true, false_and, and_false, true_or, or_true, false_or, or_false, not_true_eq_false, not_false_eq_true] at hJh6; exact hJh6) | exact Run.eq (by simp [eq_true h6, eq_false (i32_nle.mpr h6), bI]) (by simp [eq_true h6, eq_false (i32_nle.mpr h6), bI]) rfl hJh6

set_option maxRecDepth 20000 in
theorem bX11_heap_94 {d : Nat} {Q : Option Value → St → Prop} (s0 : Int32) (σ : St) 
    (k1 : Q (some (.int (bI (s0 < 3)))) σ)
    : Run MX11_heap (d + 1) 94 [none, none, none, none] [.int s0] σ Q := by
  refine (go_iconst (v := 3) eX11_heap_94 rfl).run ?_
  have hJh1 : Run MX11_heap (d + 1) 117 [none, none, none, none] [.int (bI (s0 < 3))] σ Q := by
    exact Run.ret (v := some (.int (bI (s0 < 3)))) k1 ⟨Or.inl rfl, eX11_heap_117⟩ rfl
  refine (bi_ge 102 eX11_heap_95 rfl).run (fun h1 => ?_) (fun h1 => ?_)
  · refine (go_iconst (v := 0) eX11_heap_102 rfl).run ?_
    refine (go_goto 117 eX11_heap_103 rfl).run ?_
    first | exact hJh1 | (simp only [if_pos h1] at hJh1; exact hJh1) | (simp only [eq_true h1, eq_false (i32_nlt.mpr h1), true_and, and_true, false_and, and_false, true_or, or_true, false_or, or_false, not_true_eq_false, not_false_eq_true] at hJh1; exact hJh1) | exact Run.eq (by simp [eq_true h1, eq_false (i32_nlt.mpr h1), bI]) (by simp [eq_true h1, eq_false (i32_nlt.mpr h1), bI]) rfl hJh1
  · refine (go_iconst (v := 1) eX11_heap_98 rfl).run ?_
    refine (go_goto 117 eX11_heap_99 rfl).run ?_
    first | exact hJh1 | (simp only [if_neg (i32_nle.mpr h1)] at hJh1; exact hJh1) | (simp only [eq_true h1, eq_false (i32_nle.mpr h1), true_and, and_true, false_and, and_false, true_or, or_true, false_or, or_false, not_true_eq_false, not_false_eq_true] at hJh1; exact hJh1) | exact Run.eq (by simp [eq_true h1, eq_false (i32_nle.mpr h1), bI]) (by simp [eq_true h1, eq_false (i32_nle.mpr h1), bI]) rfl hJh1

set_option maxRecDepth 20000 in
theorem bX11_heap_78 {d : Nat} {Q : Option Value → St → Prop} (s0 : Int32) (σ : St) 
    (k1 : Q (some (.int s0)) σ)
    : Run MX11_heap (d + 1) 78 [none, none, none, none] [.int s0] σ Q := by
  refine (go_goto 117 eX11_heap_78 rfl).run ?_
  exact Run.ret (v := some (.int s0)) k1 ⟨Or.inl rfl, eX11_heap_117⟩ rfl

set_option maxRecDepth 20000 in
theorem bX11_heap_65 {d : Nat} {Q : Option Value → St → Prop} (s0 : Int32) (σ : St) 
    (k1 : Q (some (.int s0)) σ)
    : Run MX11_heap (d + 1) 65 [none, none, none, none] [.int s0] σ Q := by
  refine (go_goto 117 eX11_heap_65 rfl).run ?_
  exact Run.ret (v := some (.int s0)) k1 ⟨Or.inl rfl, eX11_heap_117⟩ rfl

/-! CarryNetsModel.digitOf -/
theorem eX11_digitOf_0 : decode MX11_digitOf.2.1 0 = .ok (.iload_n 1, 1) := by decide +kernel
theorem eX11_digitOf_1 : decode MX11_digitOf.2.1 1 = .ok (.ifCond .ne 7, 3) := by decide +kernel
theorem eX11_digitOf_4 : decode MX11_digitOf.2.1 4 = .ok (.iconst 0, 1) := by decide +kernel
theorem eX11_digitOf_5 : decode MX11_digitOf.2.1 5 = .ok (.goto 12, 3) := by decide +kernel
theorem eX11_digitOf_8 : decode MX11_digitOf.2.1 8 = .ok (.iload_n 0, 1) := by decide +kernel
theorem eX11_digitOf_9 : decode MX11_digitOf.2.1 9 = .ok (.iconst 2, 1) := by decide +kernel
theorem eX11_digitOf_10 : decode MX11_digitOf.2.1 10 = .ok (.iload_n 1, 1) := by decide +kernel
theorem eX11_digitOf_11 : decode MX11_digitOf.2.1 11 = .ok (.imul, 1) := by decide +kernel
theorem eX11_digitOf_12 : decode MX11_digitOf.2.1 12 = .ok (.iconst 1, 1) := by decide +kernel
theorem eX11_digitOf_13 : decode MX11_digitOf.2.1 13 = .ok (.isub, 1) := by decide +kernel
theorem eX11_digitOf_14 : decode MX11_digitOf.2.1 14 = .ok (.ishr, 1) := by decide +kernel
theorem eX11_digitOf_15 : decode MX11_digitOf.2.1 15 = .ok (.iconst 1, 1) := by decide +kernel
theorem eX11_digitOf_16 : decode MX11_digitOf.2.1 16 = .ok (.iand, 1) := by decide +kernel
theorem eX11_digitOf_17 : decode MX11_digitOf.2.1 17 = .ok (.istore_n 2, 1) := by decide +kernel
theorem eX11_digitOf_18 : decode MX11_digitOf.2.1 18 = .ok (.iload_n 2, 1) := by decide +kernel
theorem eX11_digitOf_19 : decode MX11_digitOf.2.1 19 = .ok (.iload_n 0, 1) := by decide +kernel
theorem eX11_digitOf_20 : decode MX11_digitOf.2.1 20 = .ok (.iconst 2, 1) := by decide +kernel
theorem eX11_digitOf_21 : decode MX11_digitOf.2.1 21 = .ok (.iload_n 1, 1) := by decide +kernel
theorem eX11_digitOf_22 : decode MX11_digitOf.2.1 22 = .ok (.imul, 1) := by decide +kernel
theorem eX11_digitOf_23 : decode MX11_digitOf.2.1 23 = .ok (.ishr, 1) := by decide +kernel
theorem eX11_digitOf_24 : decode MX11_digitOf.2.1 24 = .ok (.iconst 1, 1) := by decide +kernel
theorem eX11_digitOf_25 : decode MX11_digitOf.2.1 25 = .ok (.iand, 1) := by decide +kernel
theorem eX11_digitOf_26 : decode MX11_digitOf.2.1 26 = .ok (.iadd, 1) := by decide +kernel
theorem eX11_digitOf_27 : decode MX11_digitOf.2.1 27 = .ok (.iconst 2, 1) := by decide +kernel
theorem eX11_digitOf_28 : decode MX11_digitOf.2.1 28 = .ok (.iload_n 0, 1) := by decide +kernel
theorem eX11_digitOf_29 : decode MX11_digitOf.2.1 29 = .ok (.iconst 2, 1) := by decide +kernel
theorem eX11_digitOf_30 : decode MX11_digitOf.2.1 30 = .ok (.iload_n 1, 1) := by decide +kernel
theorem eX11_digitOf_31 : decode MX11_digitOf.2.1 31 = .ok (.imul, 1) := by decide +kernel
theorem eX11_digitOf_32 : decode MX11_digitOf.2.1 32 = .ok (.iconst 1, 1) := by decide +kernel
theorem eX11_digitOf_33 : decode MX11_digitOf.2.1 33 = .ok (.iadd, 1) := by decide +kernel
theorem eX11_digitOf_34 : decode MX11_digitOf.2.1 34 = .ok (.ishr, 1) := by decide +kernel
theorem eX11_digitOf_35 : decode MX11_digitOf.2.1 35 = .ok (.iconst 1, 1) := by decide +kernel
theorem eX11_digitOf_36 : decode MX11_digitOf.2.1 36 = .ok (.iand, 1) := by decide +kernel
theorem eX11_digitOf_37 : decode MX11_digitOf.2.1 37 = .ok (.imul, 1) := by decide +kernel
theorem eX11_digitOf_38 : decode MX11_digitOf.2.1 38 = .ok (.isub, 1) := by decide +kernel
theorem eX11_digitOf_39 : decode MX11_digitOf.2.1 39 = .ok (.ireturn, 1) := by decide +kernel
set_option maxRecDepth 20000 in
theorem bX11_digitOf_0 {d : Nat} {Q : Option Value → St → Prop} (x0 : Int32) (x1 : Int32) (σ : St) 
    (k1 : Q (some (.int (((if x1 = 0 then (0 : Int32) else ((x0 >>> ((((2 : Int32) * x1) - 1) &&& 31)) &&& 1)) + ((x0 >>> (((2 : Int32) * x1) &&& 31)) &&& 1)) - ((2 : Int32) * ((x0 >>> ((((2 : Int32) * x1) + 1) &&& 31)) &&& 1))))) σ)
    : Run MX11_digitOf d 0 [some (.int x0), some (.int x1), none] [] σ Q := by
  refine (go_iload_n 1 eX11_digitOf_0 rfl rfl).run ?_
  have hJh1 : Run MX11_digitOf d 17 [some (.int x0), some (.int x1), none] [.int (if x1 = 0 then (0 : Int32) else ((x0 >>> ((((2 : Int32) * x1) - 1) &&& 31)) &&& 1))] σ Q := by
    refine (go_istore_n 2 (L' := [some (.int x0), some (.int x1), some (.int (if x1 = 0 then (0 : Int32) else ((x0 >>> ((((2 : Int32) * x1) - 1) &&& 31)) &&& 1)))]) eX11_digitOf_17 rfl (Nat.le_of_ble_eq_true rfl) rfl).run ?_
    refine (go_iload_n 2 eX11_digitOf_18 rfl rfl).run ?_
    refine (go_iload_n 0 eX11_digitOf_19 rfl rfl).run ?_
    refine (go_iconst (v := 2) eX11_digitOf_20 rfl).run ?_
    refine (go_iload_n 1 eX11_digitOf_21 rfl rfl).run ?_
    refine (go_imul eX11_digitOf_22).run ?_
    refine (go_ishr eX11_digitOf_23).run ?_
    refine (go_iconst (v := 1) eX11_digitOf_24 rfl).run ?_
    refine (go_iand eX11_digitOf_25).run ?_
    refine (go_iadd eX11_digitOf_26).run ?_
    refine (go_iconst (v := 2) eX11_digitOf_27 rfl).run ?_
    refine (go_iload_n 0 eX11_digitOf_28 rfl rfl).run ?_
    refine (go_iconst (v := 2) eX11_digitOf_29 rfl).run ?_
    refine (go_iload_n 1 eX11_digitOf_30 rfl rfl).run ?_
    refine (go_imul eX11_digitOf_31).run ?_
    refine (go_iconst (v := 1) eX11_digitOf_32 rfl).run ?_
    refine (go_iadd eX11_digitOf_33).run ?_
    refine (go_ishr eX11_digitOf_34).run ?_
    refine (go_iconst (v := 1) eX11_digitOf_35 rfl).run ?_
    refine (go_iand eX11_digitOf_36).run ?_
    refine (go_imul eX11_digitOf_37).run ?_
    refine (go_isub eX11_digitOf_38).run ?_
    exact Run.ret (v := some (.int (((if x1 = 0 then (0 : Int32) else ((x0 >>> ((((2 : Int32) * x1) - 1) &&& 31)) &&& 1)) + ((x0 >>> (((2 : Int32) * x1) &&& 31)) &&& 1)) - ((2 : Int32) * ((x0 >>> ((((2 : Int32) * x1) + 1) &&& 31)) &&& 1))))) k1 ⟨Or.inl rfl, eX11_digitOf_39⟩ rfl
  refine (bz_ne 8 eX11_digitOf_1 rfl).run (fun h1 => ?_) (fun h1 => ?_)
  · refine (go_iload_n 0 eX11_digitOf_8 rfl rfl).run ?_
    refine (go_iconst (v := 2) eX11_digitOf_9 rfl).run ?_
    refine (go_iload_n 1 eX11_digitOf_10 rfl rfl).run ?_
    refine (go_imul eX11_digitOf_11).run ?_
    refine (go_iconst (v := 1) eX11_digitOf_12 rfl).run ?_
    refine (go_isub eX11_digitOf_13).run ?_
    refine (go_ishr eX11_digitOf_14).run ?_
    refine (go_iconst (v := 1) eX11_digitOf_15 rfl).run ?_
    refine (go_iand eX11_digitOf_16).run ?_
    first | exact hJh1 | (simp only [if_neg (h1)] at hJh1; exact hJh1) | (simp only [eq_false h1, not_false_eq_true, true_and, and_true, false_and, and_false, true_or, or_true, false_or, or_false, not_true_eq_false, not_false_eq_true] at hJh1; exact hJh1) | exact Run.eq (by simp [eq_false h1, not_false_eq_true, bI]) (by simp [eq_false h1, not_false_eq_true, bI]) rfl hJh1
  · refine (go_iconst (v := 0) eX11_digitOf_4 rfl).run ?_
    refine (go_goto 17 eX11_digitOf_5 rfl).run ?_
    first | exact hJh1 | (simp only [if_pos h1] at hJh1; exact hJh1) | (simp only [eq_true h1, not_true_eq_false, true_and, and_true, false_and, and_false, true_or, or_true, false_or, or_false, not_true_eq_false, not_false_eq_true] at hJh1; exact hJh1) | exact Run.eq (by simp [eq_true h1, not_true_eq_false, bI]) (by simp [eq_true h1, not_true_eq_false, bI]) rfl hJh1

def rX11_digitOf (x0 : Int32) (x1 : Int32) (σ : St) : Int32 := (((if x1 = 0 then (0 : Int32) else ((x0 >>> ((((2 : Int32) * x1) - 1) &&& 31)) &&& 1)) + ((x0 >>> (((2 : Int32) * x1) &&& 31)) &&& 1)) - ((2 : Int32) * ((x0 >>> ((((2 : Int32) * x1) + 1) &&& 31)) &&& 1)))
theorem qX11_digitOf (d : Nat) (x0 : Int32) (x1 : Int32) (σ : St) : Ct yX11_digitOf MX11_digitOf d [.int x0, .int x1] σ (fun v σ1 => v = some (.int (rX11_digitOf x0 x1 σ)) ∧ σ1 = σ) :=
  Ct.of mX11_digitOf.1 (Nat.le_of_ble_eq_true rfl) (bX11_digitOf_0 x0 x1 σ   (⟨by first | rfl | (simp only [rX11_digitOf, true_and, and_true, false_and, and_false, true_or, or_true, false_or, or_false, not_true_eq_false, not_false_eq_true, if_true, if_false]; done) | (simp [rX11_digitOf, bI]; done), by first | rfl | (simp only [rX11_digitOf, true_and, and_true, false_and, and_false, true_or, or_true, false_or, or_false, not_true_eq_false, not_false_eq_true, if_true, if_false]; done) | (simp [rX11_digitOf, bI]; done)⟩))

/-! CarryNetsModel.digit -/
theorem eX11_digit_0 : decode MX11_digit.2.1 0 = .ok (.iload_n 1, 1) := by decide +kernel
theorem eX11_digit_1 : decode MX11_digit.2.1 1 = .ok (.i2l, 1) := by decide +kernel
theorem eX11_digit_2 : decode MX11_digit.2.1 2 = .ok (.lconst 0, 1) := by decide +kernel
theorem eX11_digit_3 : decode MX11_digit.2.1 3 = .ok (.ldc2_w 291, 3) := by decide +kernel
theorem eX11_digit_6 : decode MX11_digit.2.1 6 = .ok (.invokestatic 109, 3) := by decide +kernel
theorem eX11_digit_9 : decode MX11_digit.2.1 9 = .ok (.ifCond .eq 23, 3) := by decide +kernel
theorem eX11_digit_12 : decode MX11_digit.2.1 12 = .ok (.iload_n 2, 1) := by decide +kernel
theorem eX11_digit_13 : decode MX11_digit.2.1 13 = .ok (.i2l, 1) := by decide +kernel
theorem eX11_digit_14 : decode MX11_digit.2.1 14 = .ok (.lconst 0, 1) := by decide +kernel
theorem eX11_digit_15 : decode MX11_digit.2.1 15 = .ok (.ldc2_w 293, 3) := by decide +kernel
theorem eX11_digit_18 : decode MX11_digit.2.1 18 = .ok (.invokestatic 109, 3) := by decide +kernel
theorem eX11_digit_21 : decode MX11_digit.2.1 21 = .ok (.ifCond .eq 11, 3) := by decide +kernel
theorem eX11_digit_24 : decode MX11_digit.2.1 24 = .ok (.iload_n 1, 1) := by decide +kernel
theorem eX11_digit_25 : decode MX11_digit.2.1 25 = .ok (.iload_n 2, 1) := by decide +kernel
theorem eX11_digit_26 : decode MX11_digit.2.1 26 = .ok (.invokestatic 295, 3) := by decide +kernel
theorem eX11_digit_29 : decode MX11_digit.2.1 29 = .ok (.goto 5, 3) := by decide +kernel
theorem eX11_digit_32 : decode MX11_digit.2.1 32 = .ok (.bipush (-10), 2) := by decide +kernel
theorem eX11_digit_34 : decode MX11_digit.2.1 34 = .ok (.ireturn, 1) := by decide +kernel
set_option maxRecDepth 20000 in
theorem bX11_digit_0 {d : Nat} {Q : Option Value → St → Prop} (x1 : Int32) (x2 : Int32) (σ : St) 
    (k1 : Q (some (.int (if (0 : Int64) ≤ x1.toInt64 ∧ x1.toInt64 ≤ (65535 : Int64) then (if (0 : Int64) ≤ x2.toInt64 ∧ x2.toInt64 ≤ (8 : Int64) then ((rX11_digitOf x1 x2 σ)) else (-10)) else (-10)))) σ)
    : Run MX11_digit (d + 1) 0 [some (.ref 88), some (.int x1), some (.int x2)] [] σ Q := by
  refine (go_iload_n 1 eX11_digit_0 rfl rfl).run ?_
  refine (go_i2l eX11_digit_1).run ?_
  refine (go_lconst (v := 0) eX11_digit_2 rfl).run ?_
  refine (go_ldc2 csX11_291 eX11_digit_3).run ?_
  refine Run.callS1 (d := d) (As := [.long x1.toInt64, .long 0, .long (65535)]) (r := .int (bI ((0 : Int64) ≤ x1.toInt64 ∧ x1.toInt64 ≤ (65535 : Int64)))) mX11_in lkX11_109 rfl rfl rfl (Nat.le_of_ble_eq_true rfl) eX11_digit_6 (qX11_in d x1.toInt64 (0 : Int64) (65535 : Int64) σ  ) ?_
  have hJh1 : Run MX11_digit (d + 1) 34 [none, none, none] [.int (if (0 : Int64) ≤ x1.toInt64 ∧ x1.toInt64 ≤ (65535 : Int64) then (if (0 : Int64) ≤ x2.toInt64 ∧ x2.toInt64 ≤ (8 : Int64) then ((rX11_digitOf x1 x2 σ)) else (-10)) else (-10))] σ Q := by
    exact Run.ret (v := some (.int (if (0 : Int64) ≤ x1.toInt64 ∧ x1.toInt64 ≤ (65535 : Int64) then (if (0 : Int64) ≤ x2.toInt64 ∧ x2.toInt64 ≤ (8 : Int64) then ((rX11_digitOf x1 x2 σ)) else (-10)) else (-10)))) k1 ⟨Or.inl rfl, eX11_digit_34⟩ rfl
  refine (br_ifeq_b 32 eX11_digit_9 rfl).run (fun h1 => ?_) (fun h1 => ?_)
  · refine (go_bipush (v := -10) eX11_digit_32 rfl).run ?_
    refine (go_sub (L' := [none, none, none]) (lsub_drop (lsub_drop (lsub_drop lsub_nil)))).run ?_
    first | exact hJh1 | (simp only [if_neg (h1)] at hJh1; exact hJh1) | (simp only [eq_false h1, not_false_eq_true, true_and, and_true, false_and, and_false, true_or, or_true, false_or, or_false, not_true_eq_false, not_false_eq_true] at hJh1; exact hJh1) | exact Run.eq (by simp [eq_false h1, not_false_eq_true, bI]) (by simp [eq_false h1, not_false_eq_true, bI]) rfl hJh1
  · refine (go_iload_n 2 eX11_digit_12 rfl rfl).run ?_
    refine (go_i2l eX11_digit_13).run ?_
    refine (go_lconst (v := 0) eX11_digit_14 rfl).run ?_
    refine (go_ldc2 csX11_293 eX11_digit_15).run ?_
    refine Run.callS1 (d := d) (As := [.long x2.toInt64, .long 0, .long (8)]) (r := .int (bI ((0 : Int64) ≤ x2.toInt64 ∧ x2.toInt64 ≤ (8 : Int64)))) mX11_in lkX11_109 rfl rfl rfl (Nat.le_of_ble_eq_true rfl) eX11_digit_18 (qX11_in d x2.toInt64 (0 : Int64) (8 : Int64) σ  ) ?_
    have hJh2 : Run MX11_digit (d + 1) 34 [none, none, none] [.int (if (0 : Int64) ≤ x2.toInt64 ∧ x2.toInt64 ≤ (8 : Int64) then ((rX11_digitOf x1 x2 σ)) else (-10))] σ Q := by
      first | exact hJh1 | (simp only [if_pos h1] at hJh1; exact hJh1) | (simp only [eq_true h1, not_true_eq_false, true_and, and_true, false_and, and_false, true_or, or_true, false_or, or_false, not_true_eq_false, not_false_eq_true] at hJh1; exact hJh1) | exact Run.eq (by simp [eq_true h1, not_true_eq_false, bI]) (by simp [eq_true h1, not_true_eq_false, bI]) rfl hJh1
    refine (br_ifeq_b 32 eX11_digit_21 rfl).run (fun h2 => ?_) (fun h2 => ?_)
    · refine (go_bipush (v := -10) eX11_digit_32 rfl).run ?_
      refine (go_sub (L' := [none, none, none]) (lsub_drop (lsub_drop (lsub_drop lsub_nil)))).run ?_
      first | exact hJh2 | (simp only [if_neg (h2)] at hJh2; exact hJh2) | (simp only [eq_false h2, not_false_eq_true, true_and, and_true, false_and, and_false, true_or, or_true, false_or, or_false, not_true_eq_false, not_false_eq_true] at hJh2; exact hJh2) | exact Run.eq (by simp [eq_false h2, not_false_eq_true, bI]) (by simp [eq_false h2, not_false_eq_true, bI]) rfl hJh2
    · refine (go_iload_n 1 eX11_digit_24 rfl rfl).run ?_
      refine (go_iload_n 2 eX11_digit_25 rfl rfl).run ?_
      refine Run.callS1 (d := d) (As := [.int x1, .int x2]) (r := .int ((rX11_digitOf x1 x2 σ))) mX11_digitOf lkX11_295 rfl rfl rfl (Nat.le_of_ble_eq_true rfl) eX11_digit_26 (qX11_digitOf d x1 x2 σ  ) ?_
      refine (go_goto 34 eX11_digit_29 rfl).run ?_
      refine (go_sub (L' := [none, none, none]) (lsub_drop (lsub_drop (lsub_drop lsub_nil)))).run ?_
      first | exact hJh2 | (simp only [if_pos h2] at hJh2; exact hJh2) | (simp only [eq_true h2, not_true_eq_false, true_and, and_true, false_and, and_false, true_or, or_true, false_or, or_false, not_true_eq_false, not_false_eq_true] at hJh2; exact hJh2) | exact Run.eq (by simp [eq_true h2, not_true_eq_false, bI]) (by simp [eq_true h2, not_true_eq_false, bI]) rfl hJh2

def rX11_digit (x1 : Int32) (x2 : Int32) (σ : St) : Int32 := (if (0 : Int64) ≤ x1.toInt64 ∧ x1.toInt64 ≤ (65535 : Int64) then (if (0 : Int64) ≤ x2.toInt64 ∧ x2.toInt64 ≤ (8 : Int64) then ((rX11_digitOf x1 x2 σ)) else (-10)) else (-10))
theorem qX11_digit (d : Nat) (x1 : Int32) (x2 : Int32) (σ : St) : Ct yX11_digit MX11_digit (d + 1) [.ref 88, .int x1, .int x2] σ (fun v σ1 => v = some (.int (rX11_digit x1 x2 σ)) ∧ σ1 = σ) :=
  Ct.of mX11_digit.1 (Nat.le_of_ble_eq_true rfl) (bX11_digit_0 x1 x2 σ   (⟨by first | rfl | (simp only [rX11_digit, true_and, and_true, false_and, and_false, true_or, or_true, false_or, or_false, not_true_eq_false, not_false_eq_true, if_true, if_false]; done) | (simp [rX11_digit, bI]; done), by first | rfl | (simp only [rX11_digit, true_and, and_true, false_and, and_false, true_or, or_true, false_or, or_false, not_true_eq_false, not_false_eq_true, if_true, if_false]; done) | (simp [rX11_digit, bI]; done)⟩))

/-! CarryNetsModel.times -/
theorem eX11_times_0 : decode MX11_times.2.1 0 = .ok (.iload_n 1, 1) := by decide +kernel
theorem eX11_times_1 : decode MX11_times.2.1 1 = .ok (.i2l, 1) := by decide +kernel
theorem eX11_times_2 : decode MX11_times.2.1 2 = .ok (.lconst 0, 1) := by decide +kernel
theorem eX11_times_3 : decode MX11_times.2.1 3 = .ok (.ldc2_w 291, 3) := by decide +kernel
theorem eX11_times_6 : decode MX11_times.2.1 6 = .ok (.invokestatic 109, 3) := by decide +kernel
theorem eX11_times_9 : decode MX11_times.2.1 9 = .ok (.ifCond .eq 14, 3) := by decide +kernel
theorem eX11_times_12 : decode MX11_times.2.1 12 = .ok (.iload 4, 2) := by decide +kernel
theorem eX11_times_14 : decode MX11_times.2.1 14 = .ok (.i2l, 1) := by decide +kernel
theorem eX11_times_15 : decode MX11_times.2.1 15 = .ok (.lconst 0, 1) := by decide +kernel
theorem eX11_times_16 : decode MX11_times.2.1 16 = .ok (.lconst 1, 1) := by decide +kernel
theorem eX11_times_17 : decode MX11_times.2.1 17 = .ok (.invokestatic 109, 3) := by decide +kernel
theorem eX11_times_20 : decode MX11_times.2.1 20 = .ok (.ifCond .ne 7, 3) := by decide +kernel
theorem eX11_times_23 : decode MX11_times.2.1 23 = .ok (.ldc2_w 205, 3) := by decide +kernel
theorem eX11_times_26 : decode MX11_times.2.1 26 = .ok (.lreturn, 1) := by decide +kernel
theorem eX11_times_27 : decode MX11_times.2.1 27 = .ok (.iload 4, 2) := by decide +kernel
theorem eX11_times_29 : decode MX11_times.2.1 29 = .ok (.ifCond .ne 45, 3) := by decide +kernel
theorem eX11_times_32 : decode MX11_times.2.1 32 = .ok (.iconst 0, 1) := by decide +kernel
theorem eX11_times_33 : decode MX11_times.2.1 33 = .ok (.istore 5, 2) := by decide +kernel
theorem eX11_times_35 : decode MX11_times.2.1 35 = .ok (.iconst 0, 1) := by decide +kernel
theorem eX11_times_36 : decode MX11_times.2.1 36 = .ok (.istore 6, 2) := by decide +kernel
theorem eX11_times_38 : decode MX11_times.2.1 38 = .ok (.iload 6, 2) := by decide +kernel
theorem eX11_times_40 : decode MX11_times.2.1 40 = .ok (.bipush 9, 2) := by decide +kernel
theorem eX11_times_42 : decode MX11_times.2.1 42 = .ok (.if_icmp .ge 28, 3) := by decide +kernel
theorem eX11_times_45 : decode MX11_times.2.1 45 = .ok (.iload 5, 2) := by decide +kernel
theorem eX11_times_47 : decode MX11_times.2.1 47 = .ok (.iload_n 1, 1) := by decide +kernel
theorem eX11_times_48 : decode MX11_times.2.1 48 = .ok (.iload 6, 2) := by decide +kernel
theorem eX11_times_50 : decode MX11_times.2.1 50 = .ok (.invokestatic 295, 3) := by decide +kernel
theorem eX11_times_53 : decode MX11_times.2.1 53 = .ok (.ifCond .ne 7, 3) := by decide +kernel
theorem eX11_times_56 : decode MX11_times.2.1 56 = .ok (.iconst 0, 1) := by decide +kernel
theorem eX11_times_57 : decode MX11_times.2.1 57 = .ok (.goto 4, 3) := by decide +kernel
theorem eX11_times_60 : decode MX11_times.2.1 60 = .ok (.iconst 1, 1) := by decide +kernel
theorem eX11_times_61 : decode MX11_times.2.1 61 = .ok (.iadd, 1) := by decide +kernel
theorem eX11_times_62 : decode MX11_times.2.1 62 = .ok (.istore 5, 2) := by decide +kernel
theorem eX11_times_64 : decode MX11_times.2.1 64 = .ok (.iinc 6 1, 3) := by decide +kernel
theorem eX11_times_67 : decode MX11_times.2.1 67 = .ok (.goto (-29), 3) := by decide +kernel
theorem eX11_times_70 : decode MX11_times.2.1 70 = .ok (.iload 5, 2) := by decide +kernel
theorem eX11_times_72 : decode MX11_times.2.1 72 = .ok (.i2l, 1) := by decide +kernel
theorem eX11_times_73 : decode MX11_times.2.1 73 = .ok (.lreturn, 1) := by decide +kernel
theorem eX11_times_74 : decode MX11_times.2.1 74 = .ok (.iload_n 2, 1) := by decide +kernel
theorem eX11_times_75 : decode MX11_times.2.1 75 = .ok (.i2l, 1) := by decide +kernel
theorem eX11_times_76 : decode MX11_times.2.1 76 = .ok (.lconst 0, 1) := by decide +kernel
theorem eX11_times_77 : decode MX11_times.2.1 77 = .ok (.ldc2_w 298, 3) := by decide +kernel
theorem eX11_times_80 : decode MX11_times.2.1 80 = .ok (.invokestatic 109, 3) := by decide +kernel
theorem eX11_times_83 : decode MX11_times.2.1 83 = .ok (.ifCond .eq 11, 3) := by decide +kernel
theorem eX11_times_86 : decode MX11_times.2.1 86 = .ok (.aload_n 0, 1) := by decide +kernel
theorem eX11_times_87 : decode MX11_times.2.1 87 = .ok (.iload_n 3, 1) := by decide +kernel
theorem eX11_times_88 : decode MX11_times.2.1 88 = .ok (.invokevirtual 175, 3) := by decide +kernel
theorem eX11_times_91 : decode MX11_times.2.1 91 = .ok (.ifCond .ne 7, 3) := by decide +kernel
theorem eX11_times_94 : decode MX11_times.2.1 94 = .ok (.ldc2_w 205, 3) := by decide +kernel
theorem eX11_times_97 : decode MX11_times.2.1 97 = .ok (.lreturn, 1) := by decide +kernel
theorem eX11_times_98 : decode MX11_times.2.1 98 = .ok (.aload_n 0, 1) := by decide +kernel
theorem eX11_times_99 : decode MX11_times.2.1 99 = .ok (.getfield 7, 3) := by decide +kernel
theorem eX11_times_102 : decode MX11_times.2.1 102 = .ok (.iload_n 3, 1) := by decide +kernel
theorem eX11_times_103 : decode MX11_times.2.1 103 = .ok (.iaload, 1) := by decide +kernel
theorem eX11_times_104 : decode MX11_times.2.1 104 = .ok (.bipush 32, 2) := by decide +kernel
theorem eX11_times_106 : decode MX11_times.2.1 106 = .ok (.if_icmp .ne 11, 3) := by decide +kernel
theorem eX11_times_109 : decode MX11_times.2.1 109 = .ok (.aload_n 0, 1) := by decide +kernel
theorem eX11_times_110 : decode MX11_times.2.1 110 = .ok (.iload_n 3, 1) := by decide +kernel
theorem eX11_times_111 : decode MX11_times.2.1 111 = .ok (.invokevirtual 196, 3) := by decide +kernel
theorem eX11_times_114 : decode MX11_times.2.1 114 = .ok (.ifCond .ne 7, 3) := by decide +kernel
theorem eX11_times_117 : decode MX11_times.2.1 117 = .ok (.ldc2_w 207, 3) := by decide +kernel
theorem eX11_times_120 : decode MX11_times.2.1 120 = .ok (.lreturn, 1) := by decide +kernel
theorem eX11_times_121 : decode MX11_times.2.1 121 = .ok (.lconst 0, 1) := by decide +kernel
theorem eX11_times_122 : decode MX11_times.2.1 122 = .ok (.lstore 5, 2) := by decide +kernel
theorem eX11_times_124 : decode MX11_times.2.1 124 = .ok (.iconst 0, 1) := by decide +kernel
theorem eX11_times_125 : decode MX11_times.2.1 125 = .ok (.istore 7, 2) := by decide +kernel
theorem eX11_times_127 : decode MX11_times.2.1 127 = .ok (.iload 7, 2) := by decide +kernel
theorem eX11_times_129 : decode MX11_times.2.1 129 = .ok (.bipush 9, 2) := by decide +kernel
theorem eX11_times_131 : decode MX11_times.2.1 131 = .ok (.if_icmp .ge 33, 3) := by decide +kernel
theorem eX11_times_134 : decode MX11_times.2.1 134 = .ok (.lload 5, 2) := by decide +kernel
theorem eX11_times_136 : decode MX11_times.2.1 136 = .ok (.iload_n 2, 1) := by decide +kernel
theorem eX11_times_137 : decode MX11_times.2.1 137 = .ok (.i2l, 1) := by decide +kernel
theorem eX11_times_138 : decode MX11_times.2.1 138 = .ok (.iload_n 1, 1) := by decide +kernel
theorem eX11_times_139 : decode MX11_times.2.1 139 = .ok (.iload 7, 2) := by decide +kernel
theorem eX11_times_141 : decode MX11_times.2.1 141 = .ok (.invokestatic 295, 3) := by decide +kernel
theorem eX11_times_144 : decode MX11_times.2.1 144 = .ok (.i2l, 1) := by decide +kernel
theorem eX11_times_145 : decode MX11_times.2.1 145 = .ok (.lmul, 1) := by decide +kernel
theorem eX11_times_146 : decode MX11_times.2.1 146 = .ok (.iconst 2, 1) := by decide +kernel
theorem eX11_times_147 : decode MX11_times.2.1 147 = .ok (.iload 7, 2) := by decide +kernel
theorem eX11_times_149 : decode MX11_times.2.1 149 = .ok (.imul, 1) := by decide +kernel
theorem eX11_times_150 : decode MX11_times.2.1 150 = .ok (.lshl, 1) := by decide +kernel
theorem eX11_times_151 : decode MX11_times.2.1 151 = .ok (.ladd, 1) := by decide +kernel
theorem eX11_times_152 : decode MX11_times.2.1 152 = .ok (.ldc2_w 300, 3) := by decide +kernel
theorem eX11_times_155 : decode MX11_times.2.1 155 = .ok (.land, 1) := by decide +kernel
theorem eX11_times_156 : decode MX11_times.2.1 156 = .ok (.lstore 5, 2) := by decide +kernel
theorem eX11_times_158 : decode MX11_times.2.1 158 = .ok (.iinc 7 1, 3) := by decide +kernel
theorem eX11_times_161 : decode MX11_times.2.1 161 = .ok (.goto (-34), 3) := by decide +kernel
theorem eX11_times_164 : decode MX11_times.2.1 164 = .ok (.lload 5, 2) := by decide +kernel
theorem eX11_times_166 : decode MX11_times.2.1 166 = .ok (.lreturn, 1) := by decide +kernel
set_option maxRecDepth 20000 in
theorem bX11_times_0 {d : Nat} {Q : Option Value → St → Prop} (x1 : Int32) (x2 : Int32) (x3 : Int32) (x4 : Int32) (σ : St) 
    (g1 : ((0 : Int64) ≤ x1.toInt64 ∧ x1.toInt64 ≤ (65535 : Int64)) → ((0 : Int64) ≤ x4.toInt64 ∧ x4.toInt64 ≤ (1 : Int64)) → ¬ x4 = 0 → ((0 : Int64) ≤ x2.toInt64 ∧ x2.toInt64 ≤ (32767 : Int64)) → ((0 : Int64) ≤ x3.toInt64 ∧ x3.toInt64 ≤ (((σ.1 88 0) - 1).toInt64)) → vp_in x3 8)
    (k1 : (¬ ((0 : Int64) ≤ x1.toInt64 ∧ x1.toInt64 ≤ (65535 : Int64))) → Q (some (.long (-1))) σ)
    (k2 : ((0 : Int64) ≤ x1.toInt64 ∧ x1.toInt64 ≤ (65535 : Int64)) → ((0 : Int64) ≤ x4.toInt64 ∧ x4.toInt64 ≤ (1 : Int64)) → ¬ x4 = 0 → (¬ ((0 : Int64) ≤ x2.toInt64 ∧ x2.toInt64 ≤ (32767 : Int64))) → Q (some (.long (-1))) σ)
    (k3 : ((0 : Int64) ≤ x1.toInt64 ∧ x1.toInt64 ≤ (65535 : Int64)) → ((0 : Int64) ≤ x4.toInt64 ∧ x4.toInt64 ≤ (1 : Int64)) → ¬ x4 = 0 → ((0 : Int64) ≤ x2.toInt64 ∧ x2.toInt64 ≤ (32767 : Int64)) → ((0 : Int64) ≤ x3.toInt64 ∧ x3.toInt64 ≤ (((σ.1 88 0) - 1).toInt64)) → ¬ (σ.1 89 x3.toNatClampNeg) = 32 → Q (some (.long (-2))) σ)
    (k4 : ((0 : Int64) ≤ x1.toInt64 ∧ x1.toInt64 ≤ (65535 : Int64)) → ((0 : Int64) ≤ x4.toInt64 ∧ x4.toInt64 ≤ (1 : Int64)) → ¬ x4 = 0 → ((0 : Int64) ≤ x2.toInt64 ∧ x2.toInt64 ≤ (32767 : Int64)) → ((0 : Int64) ≤ x3.toInt64 ∧ x3.toInt64 ≤ (((σ.1 88 0) - 1).toInt64)) → (σ.1 89 x3.toNatClampNeg) = 32 → Ct yX11_isWhole MX11_isWhole (d + 2) [.ref 88, .int x3] σ (fun v σ1 => Run MX11_times (d + 3) 114 [none, some (.int x1), some (.int x2), none, none, none, none, none] (v.toList ++ []) σ1 Q))
    (k5 : ((0 : Int64) ≤ x1.toInt64 ∧ x1.toInt64 ≤ (65535 : Int64)) → ((0 : Int64) ≤ x4.toInt64 ∧ x4.toInt64 ≤ (1 : Int64)) → ¬ x4 = 0 → ((0 : Int64) ≤ x2.toInt64 ∧ x2.toInt64 ≤ (32767 : Int64)) → (¬ ((0 : Int64) ≤ x3.toInt64 ∧ x3.toInt64 ≤ (((σ.1 88 0) - 1).toInt64))) → Q (some (.long (-1))) σ)
    (k6 : ((0 : Int64) ≤ x1.toInt64 ∧ x1.toInt64 ≤ (65535 : Int64)) → ((0 : Int64) ≤ x4.toInt64 ∧ x4.toInt64 ≤ (1 : Int64)) → x4 = 0 → Run MX11_times (d + 3) 38 [none, some (.int x1), none, none, none, some (.int 0), some (.int 0), none] [] σ Q)
    (k7 : ((0 : Int64) ≤ x1.toInt64 ∧ x1.toInt64 ≤ (65535 : Int64)) → (¬ ((0 : Int64) ≤ x4.toInt64 ∧ x4.toInt64 ≤ (1 : Int64))) → Q (some (.long (-1))) σ)
    : Run MX11_times (d + 3) 0 [some (.ref 88), some (.int x1), some (.int x2), some (.int x3), some (.int x4), none, none, none] [] σ Q := by
  refine (go_iload_n 1 eX11_times_0 rfl rfl).run ?_
  refine (go_i2l eX11_times_1).run ?_
  refine (go_lconst (v := 0) eX11_times_2 rfl).run ?_
  refine (go_ldc2 csX11_291 eX11_times_3).run ?_
  refine Run.callS1 (d := (d + 2)) (As := [.long x1.toInt64, .long 0, .long (65535)]) (r := .int (bI ((0 : Int64) ≤ x1.toInt64 ∧ x1.toInt64 ≤ (65535 : Int64)))) mX11_in lkX11_109 rfl rfl rfl (Nat.le_of_ble_eq_true rfl) eX11_times_6 (qX11_in (d + 2) x1.toInt64 (0 : Int64) (65535 : Int64) σ  ) ?_
  refine (br_ifeq_b 23 eX11_times_9 rfl).run (fun h1 => ?_) (fun h1 => ?_)
  · refine (go_ldc2 csX11_205 eX11_times_23).run ?_
    exact Run.ret (v := some (.long (-1))) (k1 h1) ⟨rfl, eX11_times_26⟩ rfl
  · refine (go_iload 4 eX11_times_12 rfl).run ?_
    refine (go_i2l eX11_times_14).run ?_
    refine (go_lconst (v := 0) eX11_times_15 rfl).run ?_
    refine (go_lconst (v := 1) eX11_times_16 rfl).run ?_
    refine Run.callS1 (d := (d + 2)) (As := [.long x4.toInt64, .long 0, .long 1]) (r := .int (bI ((0 : Int64) ≤ x4.toInt64 ∧ x4.toInt64 ≤ (1 : Int64)))) mX11_in lkX11_109 rfl rfl rfl (Nat.le_of_ble_eq_true rfl) eX11_times_17 (qX11_in (d + 2) x4.toInt64 (0 : Int64) (1 : Int64) σ  ) ?_
    refine (br_ifne_b 27 eX11_times_20 rfl).run (fun h2 => ?_) (fun h2 => ?_)
    · refine (go_iload 4 eX11_times_27 rfl).run ?_
      refine (bz_ne 74 eX11_times_29 rfl).run (fun h3 => ?_) (fun h3 => ?_)
      · refine (go_iload_n 2 eX11_times_74 rfl rfl).run ?_
        refine (go_i2l eX11_times_75).run ?_
        refine (go_lconst (v := 0) eX11_times_76 rfl).run ?_
        refine (go_ldc2 csX11_298 eX11_times_77).run ?_
        refine Run.callS1 (d := (d + 2)) (As := [.long x2.toInt64, .long 0, .long (32767)]) (r := .int (bI ((0 : Int64) ≤ x2.toInt64 ∧ x2.toInt64 ≤ (32767 : Int64)))) mX11_in lkX11_109 rfl rfl rfl (Nat.le_of_ble_eq_true rfl) eX11_times_80 (qX11_in (d + 2) x2.toInt64 (0 : Int64) (32767 : Int64) σ  ) ?_
        refine (br_ifeq_b 94 eX11_times_83 rfl).run (fun h4 => ?_) (fun h4 => ?_)
        · refine (go_ldc2 csX11_205 eX11_times_94).run ?_
          exact Run.ret (v := some (.long (-1))) (k2 h1 h2 h3 h4) ⟨rfl, eX11_times_97⟩ rfl
        · refine (go_aload_n 0 eX11_times_86 rfl rfl).run ?_
          refine (go_iload_n 3 eX11_times_87 rfl rfl).run ?_
          refine Run.callV1 (d := (d + 2)) (As := [.int x3]) (r := .int (bI ((0 : Int64) ≤ x3.toInt64 ∧ x3.toInt64 ≤ (((σ.1 88 0) - 1).toInt64)))) mX11_isNet lkX11_175 kd_88 (by decide) rfl rfl rfl rfl rfl (Nat.le_of_ble_eq_true rfl) eX11_times_88 (qX11_isNet (d + 1) x3 σ  ) ?_
          refine (br_ifne_b 98 eX11_times_91 rfl).run (fun h5 => ?_) (fun h5 => ?_)
          · refine (go_aload_n 0 eX11_times_98 rfl rfl).run ?_
            refine (go_getr flX11_7 rf_10_1 kd_88 gr_88_1 eX11_times_99).run ?_
            refine (go_iload_n 3 eX11_times_102 rfl rfl).run ?_
            refine (go_iald kd_89 ln_89 (g1 h1 h2 h3 h4 h5) eX11_times_103).run ?_
            refine (go_bipush (v := 32) eX11_times_104 rfl).run ?_
            refine (bi_ne 117 eX11_times_106 rfl).run (fun h6 => ?_) (fun h6 => ?_)
            · refine (go_ldc2 csX11_207 eX11_times_117).run ?_
              exact Run.ret (v := some (.long (-2))) (k3 h1 h2 h3 h4 h5 h6) ⟨rfl, eX11_times_120⟩ rfl
            · refine (go_aload_n 0 eX11_times_109 rfl rfl).run ?_
              refine (go_iload_n 3 eX11_times_110 rfl rfl).run ?_
              refine (go_sub (L' := [none, some (.int x1), some (.int x2), none, none, none, none, none]) (lsub_drop (lsub_keep (lsub_keep (lsub_drop (lsub_drop (lsub_keep (lsub_keep (lsub_keep lsub_nil))))))))).run ?_
              exact Run.callV (d := (d + 2)) (As := [.int x3]) mX11_isWhole lkX11_196 kd_88 (by decide) rfl rfl rfl rfl rfl (Nat.le_of_ble_eq_true rfl) eX11_times_111 (k4 h1 h2 h3 h4 h5 h6)
          · refine (go_ldc2 csX11_205 eX11_times_94).run ?_
            exact Run.ret (v := some (.long (-1))) (k5 h1 h2 h3 h4 h5) ⟨rfl, eX11_times_97⟩ rfl
      · refine (go_iconst (v := 0) eX11_times_32 rfl).run ?_
        refine (go_istore 5 (L' := [some (.ref 88), some (.int x1), some (.int x2), some (.int x3), some (.int x4), some (.int 0), none, none]) eX11_times_33 (Nat.le_of_ble_eq_true rfl) rfl).run ?_
        refine (go_iconst (v := 0) eX11_times_35 rfl).run ?_
        refine (go_istore 6 (L' := [some (.ref 88), some (.int x1), some (.int x2), some (.int x3), some (.int x4), some (.int 0), some (.int 0), none]) eX11_times_36 (Nat.le_of_ble_eq_true rfl) rfl).run ?_
        refine (go_sub (L' := [none, some (.int x1), none, none, none, some (.int 0), some (.int 0), none]) (lsub_drop (lsub_keep (lsub_drop (lsub_drop (lsub_drop (lsub_keep (lsub_keep (lsub_keep lsub_nil))))))))).run ?_
        exact (k6 h1 h2 h3)
    · refine (go_ldc2 csX11_205 eX11_times_23).run ?_
      exact Run.ret (v := some (.long (-1))) (k7 h1 h2) ⟨rfl, eX11_times_26⟩ rfl

set_option maxRecDepth 20000 in
theorem bX11_times_114 {d : Nat} {Q : Option Value → St → Prop} (x1 : Int32) (x2 : Int32) (s0 : Int32) (σ : St) 
    (k1 : ¬ s0 = 0 → Run MX11_times (d + 3) 127 [none, some (.int x1), some (.int x2), none, none, some (.long 0), none, some (.int 0)] [] σ Q)
    (k2 : s0 = 0 → Q (some (.long (-2))) σ)
    : Run MX11_times (d + 3) 114 [none, some (.int x1), some (.int x2), none, none, none, none, none] [.int s0] σ Q := by
  refine (bz_ne 121 eX11_times_114 rfl).run (fun h1 => ?_) (fun h1 => ?_)
  · refine (go_lconst (v := 0) eX11_times_121 rfl).run ?_
    refine (go_lstore 5 (L' := [none, some (.int x1), some (.int x2), none, none, some (.long 0), none, none]) eX11_times_122 (Nat.le_of_ble_eq_true rfl) rfl).run ?_
    refine (go_iconst (v := 0) eX11_times_124 rfl).run ?_
    refine (go_istore 7 (L' := [none, some (.int x1), some (.int x2), none, none, some (.long 0), none, some (.int 0)]) eX11_times_125 (Nat.le_of_ble_eq_true rfl) rfl).run ?_
    exact (k1 h1)
  · refine (go_ldc2 csX11_207 eX11_times_117).run ?_
    exact Run.ret (v := some (.long (-2))) (k2 h1) ⟨rfl, eX11_times_120⟩ rfl

set_option maxRecDepth 20000 in
theorem bX11_times_38 {d : Nat} {Q : Option Value → St → Prop} (x1 : Int32) (x5 : Int32) (x6 : Int32) (σ : St) 
    (k1 : (9 : Int32) ≤ x6 → Q (some (.long x5.toInt64)) σ)
    (k2 : x6 < 9 → Run MX11_times (d + 3) 38 [none, some (.int x1), none, none, none, some (.int (x5 + (bI (¬ ((rX11_digitOf x1 x6 σ)) = 0)))), some (.int (x6 + 1)), none] [] σ Q)
    : Run MX11_times (d + 3) 38 [none, some (.int x1), none, none, none, some (.int x5), some (.int x6), none] [] σ Q := by
  refine (go_iload 6 eX11_times_38 rfl).run ?_
  refine (go_bipush (v := 9) eX11_times_40 rfl).run ?_
  refine (bi_ge 70 eX11_times_42 rfl).run (fun h1 => ?_) (fun h1 => ?_)
  · refine (go_iload 5 eX11_times_70 rfl).run ?_
    refine (go_i2l eX11_times_72).run ?_
    exact Run.ret (v := some (.long x5.toInt64)) (k1 h1) ⟨rfl, eX11_times_73⟩ rfl
  · refine (go_iload 5 eX11_times_45 rfl).run ?_
    refine (go_iload_n 1 eX11_times_47 rfl rfl).run ?_
    refine (go_iload 6 eX11_times_48 rfl).run ?_
    refine Run.callS1 (d := (d + 2)) (As := [.int x1, .int x6]) (r := .int ((rX11_digitOf x1 x6 σ))) mX11_digitOf lkX11_295 rfl rfl rfl (Nat.le_of_ble_eq_true rfl) eX11_times_50 (qX11_digitOf (d + 2) x1 x6 σ  ) ?_
    have hJh2 : Run MX11_times (d + 3) 61 [none, some (.int x1), none, none, none, none, some (.int x6), none] [.int (bI (¬ ((rX11_digitOf x1 x6 σ)) = 0)), .int x5] σ Q := by
      refine (go_iadd eX11_times_61).run ?_
      refine (go_istore 5 (L' := [none, some (.int x1), none, none, none, some (.int (x5 + (bI (¬ ((rX11_digitOf x1 x6 σ)) = 0)))), some (.int x6), none]) eX11_times_62 (Nat.le_of_ble_eq_true rfl) rfl).run ?_
      refine (go_iinc 6 (v := (x6 + 1)) (L' := [none, some (.int x1), none, none, none, some (.int (x5 + (bI (¬ ((rX11_digitOf x1 x6 σ)) = 0)))), some (.int (x6 + 1)), none]) eX11_times_64 rfl rfl (Nat.le_of_ble_eq_true rfl) rfl).run ?_
      refine (go_goto 38 eX11_times_67 rfl).run ?_
      exact (k2 h1)
    refine (bz_ne 60 eX11_times_53 rfl).run (fun h2 => ?_) (fun h2 => ?_)
    · refine (go_iconst (v := 1) eX11_times_60 rfl).run ?_
      refine (go_sub (L' := [none, some (.int x1), none, none, none, none, some (.int x6), none]) (lsub_keep (lsub_keep (lsub_keep (lsub_keep (lsub_keep (lsub_drop (lsub_keep (lsub_keep lsub_nil))))))))).run ?_
      first | exact hJh2 | (simp only [if_neg (h2)] at hJh2; exact hJh2) | (simp only [eq_false h2, not_false_eq_true, true_and, and_true, false_and, and_false, true_or, or_true, false_or, or_false, not_true_eq_false, not_false_eq_true] at hJh2; exact hJh2) | exact Run.eq (by simp [eq_false h2, not_false_eq_true, bI]) (by simp [eq_false h2, not_false_eq_true, bI]) rfl hJh2
    · refine (go_iconst (v := 0) eX11_times_56 rfl).run ?_
      refine (go_goto 61 eX11_times_57 rfl).run ?_
      refine (go_sub (L' := [none, some (.int x1), none, none, none, none, some (.int x6), none]) (lsub_keep (lsub_keep (lsub_keep (lsub_keep (lsub_keep (lsub_drop (lsub_keep (lsub_keep lsub_nil))))))))).run ?_
      first | exact hJh2 | (simp only [if_pos h2] at hJh2; exact hJh2) | (simp only [eq_true h2, not_true_eq_false, true_and, and_true, false_and, and_false, true_or, or_true, false_or, or_false, not_true_eq_false, not_false_eq_true] at hJh2; exact hJh2) | exact Run.eq (by simp [eq_true h2, not_true_eq_false, bI]) (by simp [eq_true h2, not_true_eq_false, bI]) rfl hJh2

set_option maxRecDepth 20000 in
theorem bX11_times_127 {d : Nat} {Q : Option Value → St → Prop} (x1 : Int32) (x2 : Int32) (x5 : Int64) (x7 : Int32) (σ : St) 
    (k1 : (9 : Int32) ≤ x7 → Q (some (.long x5)) σ)
    (k2 : x7 < 9 → Run MX11_times (d + 3) 127 [none, some (.int x1), some (.int x2), none, none, some (.long ((x5 + ((x2.toInt64 * (((rX11_digitOf x1 x7 σ)).toInt64)) <<< (((2 : Int32) * x7).toInt64 &&& 63))) &&& (4294967295))), none, some (.int (x7 + 1))] [] σ Q)
    : Run MX11_times (d + 3) 127 [none, some (.int x1), some (.int x2), none, none, some (.long x5), none, some (.int x7)] [] σ Q := by
  refine (go_iload 7 eX11_times_127 rfl).run ?_
  refine (go_bipush (v := 9) eX11_times_129 rfl).run ?_
  refine (bi_ge 164 eX11_times_131 rfl).run (fun h1 => ?_) (fun h1 => ?_)
  · refine (go_lload 5 eX11_times_164 rfl).run ?_
    exact Run.ret (v := some (.long x5)) (k1 h1) ⟨rfl, eX11_times_166⟩ rfl
  · refine (go_lload 5 eX11_times_134 rfl).run ?_
    refine (go_iload_n 2 eX11_times_136 rfl rfl).run ?_
    refine (go_i2l eX11_times_137).run ?_
    refine (go_iload_n 1 eX11_times_138 rfl rfl).run ?_
    refine (go_iload 7 eX11_times_139 rfl).run ?_
    refine Run.callS1 (d := (d + 2)) (As := [.int x1, .int x7]) (r := .int ((rX11_digitOf x1 x7 σ))) mX11_digitOf lkX11_295 rfl rfl rfl (Nat.le_of_ble_eq_true rfl) eX11_times_141 (qX11_digitOf (d + 2) x1 x7 σ  ) ?_
    refine (go_i2l eX11_times_144).run ?_
    refine (go_lmul eX11_times_145).run ?_
    refine (go_iconst (v := 2) eX11_times_146 rfl).run ?_
    refine (go_iload 7 eX11_times_147 rfl).run ?_
    refine (go_imul eX11_times_149).run ?_
    refine (go_lshl eX11_times_150).run ?_
    refine (go_ladd eX11_times_151).run ?_
    refine (go_ldc2 csX11_300 eX11_times_152).run ?_
    refine (go_land eX11_times_155).run ?_
    refine (go_lstore 5 (L' := [none, some (.int x1), some (.int x2), none, none, some (.long ((x5 + ((x2.toInt64 * (((rX11_digitOf x1 x7 σ)).toInt64)) <<< (((2 : Int32) * x7).toInt64 &&& 63))) &&& (4294967295))), none, some (.int x7)]) eX11_times_156 (Nat.le_of_ble_eq_true rfl) rfl).run ?_
    refine (go_iinc 7 (v := (x7 + 1)) (L' := [none, some (.int x1), some (.int x2), none, none, some (.long ((x5 + ((x2.toInt64 * (((rX11_digitOf x1 x7 σ)).toInt64)) <<< (((2 : Int32) * x7).toInt64 &&& 63))) &&& (4294967295))), none, some (.int (x7 + 1))]) eX11_times_158 rfl rfl (Nat.le_of_ble_eq_true rfl) rfl).run ?_
    refine (go_goto 127 eX11_times_161 rfl).run ?_
    exact (k2 h1)

/-! CarryNetsModel.isSheet -/
theorem eX11_isSheet_0 : decode MX11_isSheet.2.1 0 = .ok (.iload_n 0, 1) := by decide +kernel
theorem eX11_isSheet_1 : decode MX11_isSheet.2.1 1 = .ok (.i2l, 1) := by decide +kernel
theorem eX11_isSheet_2 : decode MX11_isSheet.2.1 2 = .ok (.lconst 0, 1) := by decide +kernel
theorem eX11_isSheet_3 : decode MX11_isSheet.2.1 3 = .ok (.ldc2_w 286, 3) := by decide +kernel
theorem eX11_isSheet_6 : decode MX11_isSheet.2.1 6 = .ok (.invokestatic 109, 3) := by decide +kernel
theorem eX11_isSheet_9 : decode MX11_isSheet.2.1 9 = .ok (.ifCond .eq 19, 3) := by decide +kernel
theorem eX11_isSheet_12 : decode MX11_isSheet.2.1 12 = .ok (.iload_n 1, 1) := by decide +kernel
theorem eX11_isSheet_13 : decode MX11_isSheet.2.1 13 = .ok (.i2l, 1) := by decide +kernel
theorem eX11_isSheet_14 : decode MX11_isSheet.2.1 14 = .ok (.lconst 0, 1) := by decide +kernel
theorem eX11_isSheet_15 : decode MX11_isSheet.2.1 15 = .ok (.ldc2_w 155, 3) := by decide +kernel
theorem eX11_isSheet_18 : decode MX11_isSheet.2.1 18 = .ok (.invokestatic 109, 3) := by decide +kernel
theorem eX11_isSheet_21 : decode MX11_isSheet.2.1 21 = .ok (.ifCond .eq 7, 3) := by decide +kernel
theorem eX11_isSheet_24 : decode MX11_isSheet.2.1 24 = .ok (.iconst 1, 1) := by decide +kernel
theorem eX11_isSheet_25 : decode MX11_isSheet.2.1 25 = .ok (.goto 4, 3) := by decide +kernel
theorem eX11_isSheet_28 : decode MX11_isSheet.2.1 28 = .ok (.iconst 0, 1) := by decide +kernel
theorem eX11_isSheet_29 : decode MX11_isSheet.2.1 29 = .ok (.ireturn, 1) := by decide +kernel
set_option maxRecDepth 20000 in
theorem bX11_isSheet_0 {d : Nat} {Q : Option Value → St → Prop} (x0 : Int32) (x1 : Int32) (σ : St) 
    (k1 : Q (some (.int (bI (((0 : Int64) ≤ x0.toInt64 ∧ x0.toInt64 ≤ (3 : Int64)) ∧ ((0 : Int64) ≤ x1.toInt64 ∧ x1.toInt64 ≤ (2 : Int64)))))) σ)
    : Run MX11_isSheet (d + 1) 0 [some (.int x0), some (.int x1)] [] σ Q := by
  refine (go_iload_n 0 eX11_isSheet_0 rfl rfl).run ?_
  refine (go_i2l eX11_isSheet_1).run ?_
  refine (go_lconst (v := 0) eX11_isSheet_2 rfl).run ?_
  refine (go_ldc2 csX11_286 eX11_isSheet_3).run ?_
  refine Run.callS1 (d := d) (As := [.long x0.toInt64, .long 0, .long (3)]) (r := .int (bI ((0 : Int64) ≤ x0.toInt64 ∧ x0.toInt64 ≤ (3 : Int64)))) mX11_in lkX11_109 rfl rfl rfl (Nat.le_of_ble_eq_true rfl) eX11_isSheet_6 (qX11_in d x0.toInt64 (0 : Int64) (3 : Int64) σ  ) ?_
  have hJh1 : Run MX11_isSheet (d + 1) 29 [none, none] [.int (bI (((0 : Int64) ≤ x0.toInt64 ∧ x0.toInt64 ≤ (3 : Int64)) ∧ ((0 : Int64) ≤ x1.toInt64 ∧ x1.toInt64 ≤ (2 : Int64))))] σ Q := by
    exact Run.ret (v := some (.int (bI (((0 : Int64) ≤ x0.toInt64 ∧ x0.toInt64 ≤ (3 : Int64)) ∧ ((0 : Int64) ≤ x1.toInt64 ∧ x1.toInt64 ≤ (2 : Int64)))))) k1 ⟨Or.inr ⟨rfl, bI_01⟩, eX11_isSheet_29⟩ rfl
  refine (br_ifeq_b 28 eX11_isSheet_9 rfl).run (fun h1 => ?_) (fun h1 => ?_)
  · refine (go_iconst (v := 0) eX11_isSheet_28 rfl).run ?_
    refine (go_sub (L' := [none, none]) (lsub_drop (lsub_drop lsub_nil))).run ?_
    first | exact hJh1 | (simp only [if_neg (h1)] at hJh1; exact hJh1) | (simp only [eq_false h1, not_false_eq_true, true_and, and_true, false_and, and_false, true_or, or_true, false_or, or_false, not_true_eq_false, not_false_eq_true] at hJh1; exact hJh1) | exact Run.eq (by simp [eq_false h1, not_false_eq_true, bI]) (by simp [eq_false h1, not_false_eq_true, bI]) rfl hJh1
  · refine (go_iload_n 1 eX11_isSheet_12 rfl rfl).run ?_
    refine (go_i2l eX11_isSheet_13).run ?_
    refine (go_lconst (v := 0) eX11_isSheet_14 rfl).run ?_
    refine (go_ldc2 csX11_155 eX11_isSheet_15).run ?_
    refine Run.callS1 (d := d) (As := [.long x1.toInt64, .long 0, .long (2)]) (r := .int (bI ((0 : Int64) ≤ x1.toInt64 ∧ x1.toInt64 ≤ (2 : Int64)))) mX11_in lkX11_109 rfl rfl rfl (Nat.le_of_ble_eq_true rfl) eX11_isSheet_18 (qX11_in d x1.toInt64 (0 : Int64) (2 : Int64) σ  ) ?_
    have hJh2 : Run MX11_isSheet (d + 1) 29 [none, none] [.int (bI ((0 : Int64) ≤ x1.toInt64 ∧ x1.toInt64 ≤ (2 : Int64)))] σ Q := by
      first | exact hJh1 | (simp only [if_pos h1] at hJh1; exact hJh1) | (simp only [eq_true h1, not_true_eq_false, true_and, and_true, false_and, and_false, true_or, or_true, false_or, or_false, not_true_eq_false, not_false_eq_true] at hJh1; exact hJh1) | exact Run.eq (by simp [eq_true h1, not_true_eq_false, bI]) (by simp [eq_true h1, not_true_eq_false, bI]) rfl hJh1
    refine (br_ifeq_b 28 eX11_isSheet_21 rfl).run (fun h2 => ?_) (fun h2 => ?_)
    · refine (go_iconst (v := 0) eX11_isSheet_28 rfl).run ?_
      refine (go_sub (L' := [none, none]) (lsub_drop (lsub_drop lsub_nil))).run ?_
      first | exact hJh2 | (simp only [if_neg (h2)] at hJh2; exact hJh2) | (simp only [eq_false h2, not_false_eq_true, true_and, and_true, false_and, and_false, true_or, or_true, false_or, or_false, not_true_eq_false, not_false_eq_true] at hJh2; exact hJh2) | exact Run.eq (by simp [eq_false h2, not_false_eq_true, bI]) (by simp [eq_false h2, not_false_eq_true, bI]) rfl hJh2
    · refine (go_iconst (v := 1) eX11_isSheet_24 rfl).run ?_
      refine (go_goto 29 eX11_isSheet_25 rfl).run ?_
      refine (go_sub (L' := [none, none]) (lsub_drop (lsub_drop lsub_nil))).run ?_
      first | exact hJh2 | (simp only [if_pos h2] at hJh2; exact hJh2) | (simp only [eq_true h2, not_true_eq_false, true_and, and_true, false_and, and_false, true_or, or_true, false_or, or_false, not_true_eq_false, not_false_eq_true] at hJh2; exact hJh2) | exact Run.eq (by simp [eq_true h2, not_true_eq_false, bI]) (by simp [eq_true h2, not_true_eq_false, bI]) rfl hJh2

theorem qX11_isSheet (d : Nat) (x0 : Int32) (x1 : Int32) (σ : St) : Ct yX11_isSheet MX11_isSheet (d + 1) [.int x0, .int x1] σ (fun v σ1 => v = some (.int (bI (((0 : Int64) ≤ x0.toInt64 ∧ x0.toInt64 ≤ (3 : Int64)) ∧ ((0 : Int64) ≤ x1.toInt64 ∧ x1.toInt64 ≤ (2 : Int64))))) ∧ σ1 = σ) :=
  Ct.of mX11_isSheet.1 (Nat.le_of_ble_eq_true rfl) (bX11_isSheet_0 x0 x1 σ   (⟨by first | rfl | (simp only [bI, true_and, and_true, false_and, and_false, true_or, or_true, false_or, or_false, not_true_eq_false, not_false_eq_true, if_true, if_false]; done) | (simp [bI]; done), by first | rfl | (simp only [bI, true_and, and_true, false_and, and_false, true_or, or_true, false_or, or_false, not_true_eq_false, not_false_eq_true, if_true, if_false]; done) | (simp [bI]; done)⟩))

/-! CarryNetsModel.sheet -/
theorem eX11_sheet_0 : decode MX11_sheet.2.1 0 = .ok (.iload_n 1, 1) := by decide +kernel
theorem eX11_sheet_1 : decode MX11_sheet.2.1 1 = .ok (.iload_n 2, 1) := by decide +kernel
theorem eX11_sheet_2 : decode MX11_sheet.2.1 2 = .ok (.invokestatic 302, 3) := by decide +kernel
theorem eX11_sheet_5 : decode MX11_sheet.2.1 5 = .ok (.ifCond .eq 9, 3) := by decide +kernel
theorem eX11_sheet_8 : decode MX11_sheet.2.1 8 = .ok (.iload_n 3, 1) := by decide +kernel
theorem eX11_sheet_9 : decode MX11_sheet.2.1 9 = .ok (.bipush 60, 2) := by decide +kernel
theorem eX11_sheet_11 : decode MX11_sheet.2.1 11 = .ok (.if_icmp .le 5, 3) := by decide +kernel
theorem eX11_sheet_14 : decode MX11_sheet.2.1 14 = .ok (.iconst (-1), 1) := by decide +kernel
theorem eX11_sheet_15 : decode MX11_sheet.2.1 15 = .ok (.ireturn, 1) := by decide +kernel
theorem eX11_sheet_16 : decode MX11_sheet.2.1 16 = .ok (.iload_n 3, 1) := by decide +kernel
theorem eX11_sheet_17 : decode MX11_sheet.2.1 17 = .ok (.ifCond .ge 6, 3) := by decide +kernel
theorem eX11_sheet_20 : decode MX11_sheet.2.1 20 = .ok (.bipush (-14), 2) := by decide +kernel
theorem eX11_sheet_22 : decode MX11_sheet.2.1 22 = .ok (.ireturn, 1) := by decide +kernel
theorem eX11_sheet_23 : decode MX11_sheet.2.1 23 = .ok (.aload_n 0, 1) := by decide +kernel
theorem eX11_sheet_24 : decode MX11_sheet.2.1 24 = .ok (.getfield 82, 3) := by decide +kernel
theorem eX11_sheet_27 : decode MX11_sheet.2.1 27 = .ok (.iload_n 1, 1) := by decide +kernel
theorem eX11_sheet_28 : decode MX11_sheet.2.1 28 = .ok (.iload_n 2, 1) := by decide +kernel
theorem eX11_sheet_29 : decode MX11_sheet.2.1 29 = .ok (.iastore, 1) := by decide +kernel
theorem eX11_sheet_30 : decode MX11_sheet.2.1 30 = .ok (.aload_n 0, 1) := by decide +kernel
theorem eX11_sheet_31 : decode MX11_sheet.2.1 31 = .ok (.getfield 85, 3) := by decide +kernel
theorem eX11_sheet_34 : decode MX11_sheet.2.1 34 = .ok (.iload_n 1, 1) := by decide +kernel
theorem eX11_sheet_35 : decode MX11_sheet.2.1 35 = .ok (.iload_n 3, 1) := by decide +kernel
theorem eX11_sheet_36 : decode MX11_sheet.2.1 36 = .ok (.iastore, 1) := by decide +kernel
theorem eX11_sheet_37 : decode MX11_sheet.2.1 37 = .ok (.iconst 0, 1) := by decide +kernel
theorem eX11_sheet_38 : decode MX11_sheet.2.1 38 = .ok (.istore 4, 2) := by decide +kernel
theorem eX11_sheet_40 : decode MX11_sheet.2.1 40 = .ok (.iload 4, 2) := by decide +kernel
theorem eX11_sheet_42 : decode MX11_sheet.2.1 42 = .ok (.bipush 60, 2) := by decide +kernel
theorem eX11_sheet_44 : decode MX11_sheet.2.1 44 = .ok (.if_icmp .ge 22, 3) := by decide +kernel
theorem eX11_sheet_47 : decode MX11_sheet.2.1 47 = .ok (.aload_n 0, 1) := by decide +kernel
theorem eX11_sheet_48 : decode MX11_sheet.2.1 48 = .ok (.getfield 88, 3) := by decide +kernel
theorem eX11_sheet_51 : decode MX11_sheet.2.1 51 = .ok (.bipush 60, 2) := by decide +kernel
theorem eX11_sheet_53 : decode MX11_sheet.2.1 53 = .ok (.iload_n 1, 1) := by decide +kernel
theorem eX11_sheet_54 : decode MX11_sheet.2.1 54 = .ok (.imul, 1) := by decide +kernel
theorem eX11_sheet_55 : decode MX11_sheet.2.1 55 = .ok (.iload 4, 2) := by decide +kernel
theorem eX11_sheet_57 : decode MX11_sheet.2.1 57 = .ok (.iadd, 1) := by decide +kernel
theorem eX11_sheet_58 : decode MX11_sheet.2.1 58 = .ok (.iconst 0, 1) := by decide +kernel
theorem eX11_sheet_59 : decode MX11_sheet.2.1 59 = .ok (.iastore, 1) := by decide +kernel
theorem eX11_sheet_60 : decode MX11_sheet.2.1 60 = .ok (.iinc 4 1, 3) := by decide +kernel
theorem eX11_sheet_63 : decode MX11_sheet.2.1 63 = .ok (.goto (-23), 3) := by decide +kernel
theorem eX11_sheet_66 : decode MX11_sheet.2.1 66 = .ok (.iconst 1, 1) := by decide +kernel
theorem eX11_sheet_67 : decode MX11_sheet.2.1 67 = .ok (.ireturn, 1) := by decide +kernel
set_option maxRecDepth 20000 in
theorem bX11_sheet_0 {d : Nat} {Q : Option Value → St → Prop} (x1 : Int32) (x2 : Int32) (x3 : Int32) (σ : St) 
    (g1 : (((0 : Int64) ≤ x1.toInt64 ∧ x1.toInt64 ≤ (3 : Int64)) ∧ ((0 : Int64) ≤ x2.toInt64 ∧ x2.toInt64 ≤ (2 : Int64))) → x3 ≤ 60 → (0 : Int32) ≤ x3 → vp_in x1 4)
    (k1 : (¬ (((0 : Int64) ≤ x1.toInt64 ∧ x1.toInt64 ≤ (3 : Int64)) ∧ ((0 : Int64) ≤ x2.toInt64 ∧ x2.toInt64 ≤ (2 : Int64)))) → Q (some (.int (-1))) σ)
    (k2 : (((0 : Int64) ≤ x1.toInt64 ∧ x1.toInt64 ≤ (3 : Int64)) ∧ ((0 : Int64) ≤ x2.toInt64 ∧ x2.toInt64 ≤ (2 : Int64))) → x3 ≤ 60 → (0 : Int32) ≤ x3 → Run MX11_sheet (d + 2) 40 [some (.ref 88), some (.int x1), none, none, some (.int 0)] [] (sA (sA σ 108 (upd (σ.1 108) x1.toNatClampNeg x2)) 109 (upd (σ.1 109) x1.toNatClampNeg x3)) Q)
    (k3 : (((0 : Int64) ≤ x1.toInt64 ∧ x1.toInt64 ≤ (3 : Int64)) ∧ ((0 : Int64) ≤ x2.toInt64 ∧ x2.toInt64 ≤ (2 : Int64))) → x3 ≤ 60 → x3 < 0 → Q (some (.int (-14))) σ)
    (k4 : (((0 : Int64) ≤ x1.toInt64 ∧ x1.toInt64 ≤ (3 : Int64)) ∧ ((0 : Int64) ≤ x2.toInt64 ∧ x2.toInt64 ≤ (2 : Int64))) → (60 : Int32) < x3 → Q (some (.int (-1))) σ)
    : Run MX11_sheet (d + 2) 0 [some (.ref 88), some (.int x1), some (.int x2), some (.int x3), none] [] σ Q := by
  refine (go_iload_n 1 eX11_sheet_0 rfl rfl).run ?_
  refine (go_iload_n 2 eX11_sheet_1 rfl rfl).run ?_
  refine Run.callS1 (d := (d + 1)) (As := [.int x1, .int x2]) (r := .int (bI (((0 : Int64) ≤ x1.toInt64 ∧ x1.toInt64 ≤ (3 : Int64)) ∧ ((0 : Int64) ≤ x2.toInt64 ∧ x2.toInt64 ≤ (2 : Int64))))) mX11_isSheet lkX11_302 rfl rfl rfl (Nat.le_of_ble_eq_true rfl) eX11_sheet_2 (qX11_isSheet d x1 x2 σ  ) ?_
  refine (br_ifeq_b 14 eX11_sheet_5 rfl).run (fun h1 => ?_) (fun h1 => ?_)
  · refine (go_iconst (v := -1) eX11_sheet_14 rfl).run ?_
    exact Run.ret (v := some (.int (-1))) (k1 h1) ⟨Or.inl rfl, eX11_sheet_15⟩ rfl
  · refine (go_iload_n 3 eX11_sheet_8 rfl rfl).run ?_
    refine (go_bipush (v := 60) eX11_sheet_9 rfl).run ?_
    refine (bi_le 16 eX11_sheet_11 rfl).run (fun h2 => ?_) (fun h2 => ?_)
    · refine (go_iload_n 3 eX11_sheet_16 rfl rfl).run ?_
      refine (bz_ge 23 eX11_sheet_17 rfl).run (fun h3 => ?_) (fun h3 => ?_)
      · refine (go_aload_n 0 eX11_sheet_23 rfl rfl).run ?_
        refine (go_getr flX11_82 rf_10_35 kd_88 gr_88_35 eX11_sheet_24).run ?_
        refine (go_iload_n 1 eX11_sheet_27 rfl rfl).run ?_
        refine (go_iload_n 2 eX11_sheet_28 rfl rfl).run ?_
        refine (go_iast kd_108 ln_108 (g1 h1 h2 h3) eX11_sheet_29).run ?_
        refine (go_aload_n 0 eX11_sheet_30 rfl rfl).run ?_
        refine (go_getr flX11_85 rf_10_36 kd_88 gr_88_36 eX11_sheet_31).run ?_
        refine (go_iload_n 1 eX11_sheet_34 rfl rfl).run ?_
        refine (go_iload_n 3 eX11_sheet_35 rfl rfl).run ?_
        refine (go_iast kd_109 ln_109 (g1 h1 h2 h3) eX11_sheet_36).run ?_
        refine (go_iconst (v := 0) eX11_sheet_37 rfl).run ?_
        refine (go_istore 4 (L' := [some (.ref 88), some (.int x1), some (.int x2), some (.int x3), some (.int 0)]) eX11_sheet_38 (Nat.le_of_ble_eq_true rfl) rfl).run ?_
        refine (go_sub (L' := [some (.ref 88), some (.int x1), none, none, some (.int 0)]) (lsub_keep (lsub_keep (lsub_drop (lsub_drop (lsub_keep lsub_nil)))))).run ?_
        exact (k2 h1 h2 h3)
      · refine (go_bipush (v := -14) eX11_sheet_20 rfl).run ?_
        exact Run.ret (v := some (.int (-14))) (k3 h1 h2 h3) ⟨Or.inl rfl, eX11_sheet_22⟩ rfl
    · refine (go_iconst (v := -1) eX11_sheet_14 rfl).run ?_
      exact Run.ret (v := some (.int (-1))) (k4 h1 h2) ⟨Or.inl rfl, eX11_sheet_15⟩ rfl

set_option maxRecDepth 20000 in
theorem bX11_sheet_40 {d : Nat} {Q : Option Value → St → Prop} (x1 : Int32) (x4 : Int32) (σ : St) 
    (g1 : x4 < 60 → vp_in (((60 : Int32) * x1) + x4) 240)
    (k1 : (60 : Int32) ≤ x4 → Q (some (.int 1)) σ)
    (k2 : x4 < 60 → Run MX11_sheet (d + 2) 40 [some (.ref 88), some (.int x1), none, none, some (.int (x4 + 1))] [] (sA σ 110 (upd (σ.1 110) (((60 : Int32) * x1) + x4).toNatClampNeg 0)) Q)
    : Run MX11_sheet (d + 2) 40 [some (.ref 88), some (.int x1), none, none, some (.int x4)] [] σ Q := by
  refine (go_iload 4 eX11_sheet_40 rfl).run ?_
  refine (go_bipush (v := 60) eX11_sheet_42 rfl).run ?_
  refine (bi_ge 66 eX11_sheet_44 rfl).run (fun h1 => ?_) (fun h1 => ?_)
  · refine (go_iconst (v := 1) eX11_sheet_66 rfl).run ?_
    exact Run.ret (v := some (.int 1)) (k1 h1) ⟨Or.inl rfl, eX11_sheet_67⟩ rfl
  · refine (go_aload_n 0 eX11_sheet_47 rfl rfl).run ?_
    refine (go_getr flX11_88 rf_10_37 kd_88 gr_88_37 eX11_sheet_48).run ?_
    refine (go_bipush (v := 60) eX11_sheet_51 rfl).run ?_
    refine (go_iload_n 1 eX11_sheet_53 rfl rfl).run ?_
    refine (go_imul eX11_sheet_54).run ?_
    refine (go_iload 4 eX11_sheet_55 rfl).run ?_
    refine (go_iadd eX11_sheet_57).run ?_
    refine (go_iconst (v := 0) eX11_sheet_58 rfl).run ?_
    refine (go_iast kd_110 ln_110 (g1 h1) eX11_sheet_59).run ?_
    refine (go_iinc 4 (v := (x4 + 1)) (L' := [some (.ref 88), some (.int x1), none, none, some (.int (x4 + 1))]) eX11_sheet_60 rfl rfl (Nat.le_of_ble_eq_true rfl) rfl).run ?_
    refine (go_goto 40 eX11_sheet_63 rfl).run ?_
    exact (k2 h1)

/-! CarryNetsModel.lay -/
theorem eX11_lay_0 : decode MX11_lay.2.1 0 = .ok (.iload_n 1, 1) := by decide +kernel
theorem eX11_lay_1 : decode MX11_lay.2.1 1 = .ok (.iconst 0, 1) := by decide +kernel
theorem eX11_lay_2 : decode MX11_lay.2.1 2 = .ok (.invokestatic 302, 3) := by decide +kernel
theorem eX11_lay_5 : decode MX11_lay.2.1 5 = .ok (.ifCond .ne 5, 3) := by decide +kernel
theorem eX11_lay_8 : decode MX11_lay.2.1 8 = .ok (.iconst (-1), 1) := by decide +kernel
theorem eX11_lay_9 : decode MX11_lay.2.1 9 = .ok (.ireturn, 1) := by decide +kernel
theorem eX11_lay_10 : decode MX11_lay.2.1 10 = .ok (.aload_n 0, 1) := by decide +kernel
theorem eX11_lay_11 : decode MX11_lay.2.1 11 = .ok (.getfield 82, 3) := by decide +kernel
theorem eX11_lay_14 : decode MX11_lay.2.1 14 = .ok (.iload_n 1, 1) := by decide +kernel
theorem eX11_lay_15 : decode MX11_lay.2.1 15 = .ok (.iaload, 1) := by decide +kernel
theorem eX11_lay_16 : decode MX11_lay.2.1 16 = .ok (.bipush (-4), 2) := by decide +kernel
theorem eX11_lay_18 : decode MX11_lay.2.1 18 = .ok (.if_icmp .ne 6, 3) := by decide +kernel
theorem eX11_lay_21 : decode MX11_lay.2.1 21 = .ok (.bipush (-11), 2) := by decide +kernel
theorem eX11_lay_23 : decode MX11_lay.2.1 23 = .ok (.ireturn, 1) := by decide +kernel
theorem eX11_lay_24 : decode MX11_lay.2.1 24 = .ok (.iload_n 2, 1) := by decide +kernel
theorem eX11_lay_25 : decode MX11_lay.2.1 25 = .ok (.i2l, 1) := by decide +kernel
theorem eX11_lay_26 : decode MX11_lay.2.1 26 = .ok (.lconst 0, 1) := by decide +kernel
theorem eX11_lay_27 : decode MX11_lay.2.1 27 = .ok (.aload_n 0, 1) := by decide +kernel
theorem eX11_lay_28 : decode MX11_lay.2.1 28 = .ok (.getfield 85, 3) := by decide +kernel
theorem eX11_lay_31 : decode MX11_lay.2.1 31 = .ok (.iload_n 1, 1) := by decide +kernel
theorem eX11_lay_32 : decode MX11_lay.2.1 32 = .ok (.iaload, 1) := by decide +kernel
theorem eX11_lay_33 : decode MX11_lay.2.1 33 = .ok (.iconst 1, 1) := by decide +kernel
theorem eX11_lay_34 : decode MX11_lay.2.1 34 = .ok (.isub, 1) := by decide +kernel
theorem eX11_lay_35 : decode MX11_lay.2.1 35 = .ok (.i2l, 1) := by decide +kernel
theorem eX11_lay_36 : decode MX11_lay.2.1 36 = .ok (.invokestatic 109, 3) := by decide +kernel
theorem eX11_lay_39 : decode MX11_lay.2.1 39 = .ok (.ifCond .ne 6, 3) := by decide +kernel
theorem eX11_lay_42 : decode MX11_lay.2.1 42 = .ok (.bipush (-12), 2) := by decide +kernel
theorem eX11_lay_44 : decode MX11_lay.2.1 44 = .ok (.ireturn, 1) := by decide +kernel
theorem eX11_lay_45 : decode MX11_lay.2.1 45 = .ok (.aload_n 0, 1) := by decide +kernel
theorem eX11_lay_46 : decode MX11_lay.2.1 46 = .ok (.getfield 88, 3) := by decide +kernel
theorem eX11_lay_49 : decode MX11_lay.2.1 49 = .ok (.bipush 60, 2) := by decide +kernel
theorem eX11_lay_51 : decode MX11_lay.2.1 51 = .ok (.iload_n 1, 1) := by decide +kernel
theorem eX11_lay_52 : decode MX11_lay.2.1 52 = .ok (.imul, 1) := by decide +kernel
theorem eX11_lay_53 : decode MX11_lay.2.1 53 = .ok (.iload_n 2, 1) := by decide +kernel
theorem eX11_lay_54 : decode MX11_lay.2.1 54 = .ok (.iadd, 1) := by decide +kernel
theorem eX11_lay_55 : decode MX11_lay.2.1 55 = .ok (.aload_n 0, 1) := by decide +kernel
theorem eX11_lay_56 : decode MX11_lay.2.1 56 = .ok (.getfield 82, 3) := by decide +kernel
theorem eX11_lay_59 : decode MX11_lay.2.1 59 = .ok (.iload_n 1, 1) := by decide +kernel
theorem eX11_lay_60 : decode MX11_lay.2.1 60 = .ok (.iaload, 1) := by decide +kernel
theorem eX11_lay_61 : decode MX11_lay.2.1 61 = .ok (.ifCond .ne 8, 3) := by decide +kernel
theorem eX11_lay_64 : decode MX11_lay.2.1 64 = .ok (.iload_n 3, 1) := by decide +kernel
theorem eX11_lay_65 : decode MX11_lay.2.1 65 = .ok (.i2b, 1) := by decide +kernel
theorem eX11_lay_66 : decode MX11_lay.2.1 66 = .ok (.goto 19, 3) := by decide +kernel
theorem eX11_lay_69 : decode MX11_lay.2.1 69 = .ok (.aload_n 0, 1) := by decide +kernel
theorem eX11_lay_70 : decode MX11_lay.2.1 70 = .ok (.getfield 82, 3) := by decide +kernel
theorem eX11_lay_73 : decode MX11_lay.2.1 73 = .ok (.iload_n 1, 1) := by decide +kernel
theorem eX11_lay_74 : decode MX11_lay.2.1 74 = .ok (.iaload, 1) := by decide +kernel
theorem eX11_lay_75 : decode MX11_lay.2.1 75 = .ok (.iconst 1, 1) := by decide +kernel
theorem eX11_lay_76 : decode MX11_lay.2.1 76 = .ok (.if_icmp .ne 8, 3) := by decide +kernel
theorem eX11_lay_79 : decode MX11_lay.2.1 79 = .ok (.iload_n 3, 1) := by decide +kernel
theorem eX11_lay_80 : decode MX11_lay.2.1 80 = .ok (.i2s, 1) := by decide +kernel
theorem eX11_lay_81 : decode MX11_lay.2.1 81 = .ok (.goto 4, 3) := by decide +kernel
theorem eX11_lay_84 : decode MX11_lay.2.1 84 = .ok (.iload_n 3, 1) := by decide +kernel
theorem eX11_lay_85 : decode MX11_lay.2.1 85 = .ok (.iastore, 1) := by decide +kernel
theorem eX11_lay_86 : decode MX11_lay.2.1 86 = .ok (.iconst 1, 1) := by decide +kernel
theorem eX11_lay_87 : decode MX11_lay.2.1 87 = .ok (.ireturn, 1) := by decide +kernel
set_option maxRecDepth 20000 in
theorem bX11_lay_0 {d : Nat} {Q : Option Value → St → Prop} (x1 : Int32) (x2 : Int32) (x3 : Int32) (σ : St) 
    (g1 : (((0 : Int64) ≤ x1.toInt64 ∧ x1.toInt64 ≤ (3 : Int64)) ∧ ((0 : Int64) ≤ (0 : Int32).toInt64 ∧ (0 : Int32).toInt64 ≤ (2 : Int64))) → vp_in x1 4)
    (g2 : (((0 : Int64) ≤ x1.toInt64 ∧ x1.toInt64 ≤ (3 : Int64)) ∧ ((0 : Int64) ≤ (0 : Int32).toInt64 ∧ (0 : Int32).toInt64 ≤ (2 : Int64))) → ¬ (σ.1 108 x1.toNatClampNeg) = (-4) → ((0 : Int64) ≤ x2.toInt64 ∧ x2.toInt64 ≤ (((σ.1 109 x1.toNatClampNeg) - 1).toInt64)) → vp_in (((60 : Int32) * x1) + x2) 240)
    (k1 : (((0 : Int64) ≤ x1.toInt64 ∧ x1.toInt64 ≤ (3 : Int64)) ∧ ((0 : Int64) ≤ (0 : Int32).toInt64 ∧ (0 : Int32).toInt64 ≤ (2 : Int64))) → ¬ (σ.1 108 x1.toNatClampNeg) = (-4) → ((0 : Int64) ≤ x2.toInt64 ∧ x2.toInt64 ≤ (((σ.1 109 x1.toNatClampNeg) - 1).toInt64)) → Q (some (.int 1)) (sA σ 110 (upd (σ.1 110) (((60 : Int32) * x1) + x2).toNatClampNeg (if (σ.1 108 x1.toNatClampNeg) = 0 then x3.toInt8.toInt32 else (if (σ.1 108 x1.toNatClampNeg) = 1 then x3.toInt16.toInt32 else x3)))))
    (k2 : (((0 : Int64) ≤ x1.toInt64 ∧ x1.toInt64 ≤ (3 : Int64)) ∧ ((0 : Int64) ≤ (0 : Int32).toInt64 ∧ (0 : Int32).toInt64 ≤ (2 : Int64))) → ¬ (σ.1 108 x1.toNatClampNeg) = (-4) → (¬ ((0 : Int64) ≤ x2.toInt64 ∧ x2.toInt64 ≤ (((σ.1 109 x1.toNatClampNeg) - 1).toInt64))) → Q (some (.int (-12))) σ)
    (k3 : (((0 : Int64) ≤ x1.toInt64 ∧ x1.toInt64 ≤ (3 : Int64)) ∧ ((0 : Int64) ≤ (0 : Int32).toInt64 ∧ (0 : Int32).toInt64 ≤ (2 : Int64))) → (σ.1 108 x1.toNatClampNeg) = (-4) → Q (some (.int (-11))) σ)
    (k4 : (¬ (((0 : Int64) ≤ x1.toInt64 ∧ x1.toInt64 ≤ (3 : Int64)) ∧ ((0 : Int64) ≤ (0 : Int32).toInt64 ∧ (0 : Int32).toInt64 ≤ (2 : Int64)))) → Q (some (.int (-1))) σ)
    : Run MX11_lay (d + 2) 0 [some (.ref 88), some (.int x1), some (.int x2), some (.int x3)] [] σ Q := by
  refine (go_iload_n 1 eX11_lay_0 rfl rfl).run ?_
  refine (go_iconst (v := 0) eX11_lay_1 rfl).run ?_
  refine Run.callS1 (d := (d + 1)) (As := [.int x1, .int 0]) (r := .int (bI (((0 : Int64) ≤ x1.toInt64 ∧ x1.toInt64 ≤ (3 : Int64)) ∧ ((0 : Int64) ≤ (0 : Int32).toInt64 ∧ (0 : Int32).toInt64 ≤ (2 : Int64))))) mX11_isSheet lkX11_302 rfl rfl rfl (Nat.le_of_ble_eq_true rfl) eX11_lay_2 (qX11_isSheet d x1 (0 : Int32) σ  ) ?_
  refine (br_ifne_b 10 eX11_lay_5 rfl).run (fun h1 => ?_) (fun h1 => ?_)
  · refine (go_aload_n 0 eX11_lay_10 rfl rfl).run ?_
    refine (go_getr flX11_82 rf_10_35 kd_88 gr_88_35 eX11_lay_11).run ?_
    refine (go_iload_n 1 eX11_lay_14 rfl rfl).run ?_
    refine (go_iald kd_108 ln_108 (g1 h1) eX11_lay_15).run ?_
    refine (go_bipush (v := -4) eX11_lay_16 rfl).run ?_
    refine (bi_ne 24 eX11_lay_18 rfl).run (fun h2 => ?_) (fun h2 => ?_)
    · refine (go_iload_n 2 eX11_lay_24 rfl rfl).run ?_
      refine (go_i2l eX11_lay_25).run ?_
      refine (go_lconst (v := 0) eX11_lay_26 rfl).run ?_
      refine (go_aload_n 0 eX11_lay_27 rfl rfl).run ?_
      refine (go_getr flX11_85 rf_10_36 kd_88 gr_88_36 eX11_lay_28).run ?_
      refine (go_iload_n 1 eX11_lay_31 rfl rfl).run ?_
      refine (go_iald kd_109 ln_109 (g1 h1) eX11_lay_32).run ?_
      refine (go_iconst (v := 1) eX11_lay_33 rfl).run ?_
      refine (go_isub eX11_lay_34).run ?_
      refine (go_i2l eX11_lay_35).run ?_
      refine Run.callS1 (d := (d + 1)) (As := [.long x2.toInt64, .long 0, .long (((σ.1 109 x1.toNatClampNeg) - 1).toInt64)]) (r := .int (bI ((0 : Int64) ≤ x2.toInt64 ∧ x2.toInt64 ≤ (((σ.1 109 x1.toNatClampNeg) - 1).toInt64)))) mX11_in lkX11_109 rfl rfl rfl (Nat.le_of_ble_eq_true rfl) eX11_lay_36 (qX11_in (d + 1) x2.toInt64 (0 : Int64) (((σ.1 109 x1.toNatClampNeg) - 1).toInt64) σ  ) ?_
      refine (br_ifne_b 45 eX11_lay_39 rfl).run (fun h3 => ?_) (fun h3 => ?_)
      · refine (go_aload_n 0 eX11_lay_45 rfl rfl).run ?_
        refine (go_getr flX11_88 rf_10_37 kd_88 gr_88_37 eX11_lay_46).run ?_
        refine (go_bipush (v := 60) eX11_lay_49 rfl).run ?_
        refine (go_iload_n 1 eX11_lay_51 rfl rfl).run ?_
        refine (go_imul eX11_lay_52).run ?_
        refine (go_iload_n 2 eX11_lay_53 rfl rfl).run ?_
        refine (go_iadd eX11_lay_54).run ?_
        refine (go_aload_n 0 eX11_lay_55 rfl rfl).run ?_
        refine (go_getr flX11_82 rf_10_35 kd_88 gr_88_35 eX11_lay_56).run ?_
        refine (go_iload_n 1 eX11_lay_59 rfl rfl).run ?_
        refine (go_iald kd_108 ln_108 (g1 h1) eX11_lay_60).run ?_
        have hJh4 : Run MX11_lay (d + 2) 85 [none, none, none, none] [.int (if (σ.1 108 x1.toNatClampNeg) = 0 then x3.toInt8.toInt32 else (if (σ.1 108 x1.toNatClampNeg) = 1 then x3.toInt16.toInt32 else x3)), .int (((60 : Int32) * x1) + x2), .ref 110] σ Q := by
          refine (go_iast kd_110 ln_110 (g2 h1 h2 h3) eX11_lay_85).run ?_
          refine (go_iconst (v := 1) eX11_lay_86 rfl).run ?_
          exact Run.ret (v := some (.int 1)) (k1 h1 h2 h3) ⟨Or.inl rfl, eX11_lay_87⟩ rfl
        refine (bz_ne 69 eX11_lay_61 rfl).run (fun h4 => ?_) (fun h4 => ?_)
        · refine (go_aload_n 0 eX11_lay_69 rfl rfl).run ?_
          refine (go_getr flX11_82 rf_10_35 kd_88 gr_88_35 eX11_lay_70).run ?_
          refine (go_iload_n 1 eX11_lay_73 rfl rfl).run ?_
          refine (go_iald kd_108 ln_108 (g1 h1) eX11_lay_74).run ?_
          refine (go_iconst (v := 1) eX11_lay_75 rfl).run ?_
          have hJh5 : Run MX11_lay (d + 2) 85 [none, none, none, none] [.int (if (σ.1 108 x1.toNatClampNeg) = 1 then x3.toInt16.toInt32 else x3), .int (((60 : Int32) * x1) + x2), .ref 110] σ Q := by
            first | exact hJh4 | (simp only [if_neg (h4)] at hJh4; exact hJh4) | (simp only [eq_false h4, not_false_eq_true, true_and, and_true, false_and, and_false, true_or, or_true, false_or, or_false, not_true_eq_false, not_false_eq_true] at hJh4; exact hJh4) | exact Run.eq (by simp [eq_false h4, not_false_eq_true, bI]) (by simp [eq_false h4, not_false_eq_true, bI]) rfl hJh4
          refine (bi_ne 84 eX11_lay_76 rfl).run (fun h5 => ?_) (fun h5 => ?_)
          · refine (go_iload_n 3 eX11_lay_84 rfl rfl).run ?_
            refine (go_sub (L' := [none, none, none, none]) (lsub_drop (lsub_drop (lsub_drop (lsub_drop lsub_nil))))).run ?_
            first | exact hJh5 | (simp only [if_neg (h5)] at hJh5; exact hJh5) | (simp only [eq_false h5, not_false_eq_true, true_and, and_true, false_and, and_false, true_or, or_true, false_or, or_false, not_true_eq_false, not_false_eq_true] at hJh5; exact hJh5) | exact Run.eq (by simp [eq_false h5, not_false_eq_true, bI]) (by simp [eq_false h5, not_false_eq_true, bI]) rfl hJh5
          · refine (go_iload_n 3 eX11_lay_79 rfl rfl).run ?_
            refine (go_i2s eX11_lay_80).run ?_
            refine (go_goto 85 eX11_lay_81 rfl).run ?_
            refine (go_sub (L' := [none, none, none, none]) (lsub_drop (lsub_drop (lsub_drop (lsub_drop lsub_nil))))).run ?_
            first | exact hJh5 | (simp only [if_pos h5] at hJh5; exact hJh5) | (simp only [eq_true h5, not_true_eq_false, true_and, and_true, false_and, and_false, true_or, or_true, false_or, or_false, not_true_eq_false, not_false_eq_true] at hJh5; exact hJh5) | exact Run.eq (by simp [eq_true h5, not_true_eq_false, bI]) (by simp [eq_true h5, not_true_eq_false, bI]) rfl hJh5
        · refine (go_iload_n 3 eX11_lay_64 rfl rfl).run ?_
          refine (go_i2b eX11_lay_65).run ?_
          refine (go_goto 85 eX11_lay_66 rfl).run ?_
          refine (go_sub (L' := [none, none, none, none]) (lsub_drop (lsub_drop (lsub_drop (lsub_drop lsub_nil))))).run ?_
          first | exact hJh4 | (simp only [if_pos h4] at hJh4; exact hJh4) | (simp only [eq_true h4, not_true_eq_false, true_and, and_true, false_and, and_false, true_or, or_true, false_or, or_false, not_true_eq_false, not_false_eq_true] at hJh4; exact hJh4) | exact Run.eq (by simp [eq_true h4, not_true_eq_false, bI]) (by simp [eq_true h4, not_true_eq_false, bI]) rfl hJh4
      · refine (go_bipush (v := -12) eX11_lay_42 rfl).run ?_
        exact Run.ret (v := some (.int (-12))) (k2 h1 h2 h3) ⟨Or.inl rfl, eX11_lay_44⟩ rfl
    · refine (go_bipush (v := -11) eX11_lay_21 rfl).run ?_
      exact Run.ret (v := some (.int (-11))) (k3 h1 h2) ⟨Or.inl rfl, eX11_lay_23⟩ rfl
  · refine (go_iconst (v := -1) eX11_lay_8 rfl).run ?_
    exact Run.ret (v := some (.int (-1))) (k4 h1) ⟨Or.inl rfl, eX11_lay_9⟩ rfl

def sX11_lay (x1 : Int32) (x2 : Int32) (x3 : Int32) (σ : St) : St := (if ((0 : Int64) ≤ x1.toInt64 ∧ x1.toInt64 ≤ (3 : Int64)) ∧ ((0 : Int64) ≤ (0 : Int32).toInt64 ∧ (0 : Int32).toInt64 ≤ (2 : Int64)) then (if (σ.1 108 x1.toNatClampNeg) = (-4) then σ else (if (0 : Int64) ≤ x2.toInt64 ∧ x2.toInt64 ≤ (((σ.1 109 x1.toNatClampNeg) - 1).toInt64) then sA σ 110 (upd (σ.1 110) (((60 : Int32) * x1) + x2).toNatClampNeg (if (σ.1 108 x1.toNatClampNeg) = 0 then x3.toInt8.toInt32 else (if (σ.1 108 x1.toNatClampNeg) = 1 then x3.toInt16.toInt32 else x3))) else σ)) else σ)
def rX11_lay (x1 : Int32) (x2 : Int32) (x3 : Int32) (σ : St) : Int32 := (if ((0 : Int64) ≤ x1.toInt64 ∧ x1.toInt64 ≤ (3 : Int64)) ∧ ((0 : Int64) ≤ (0 : Int32).toInt64 ∧ (0 : Int32).toInt64 ≤ (2 : Int64)) then (if (σ.1 108 x1.toNatClampNeg) = (-4) then (-11 : Int32) else (if (0 : Int64) ≤ x2.toInt64 ∧ x2.toInt64 ≤ (((σ.1 109 x1.toNatClampNeg) - 1).toInt64) then (1 : Int32) else (-12 : Int32))) else (-1 : Int32))
theorem qX11_lay (d : Nat) (x1 : Int32) (x2 : Int32) (x3 : Int32) (σ : St) (g1 : (((0 : Int64) ≤ x1.toInt64 ∧ x1.toInt64 ≤ (3 : Int64)) ∧ ((0 : Int64) ≤ (0 : Int32).toInt64 ∧ (0 : Int32).toInt64 ≤ (2 : Int64))) → vp_in x1 4) (g2 : (((0 : Int64) ≤ x1.toInt64 ∧ x1.toInt64 ≤ (3 : Int64)) ∧ ((0 : Int64) ≤ (0 : Int32).toInt64 ∧ (0 : Int32).toInt64 ≤ (2 : Int64))) → ¬ (σ.1 108 x1.toNatClampNeg) = (-4) → ((0 : Int64) ≤ x2.toInt64 ∧ x2.toInt64 ≤ (((σ.1 109 x1.toNatClampNeg) - 1).toInt64)) → vp_in (((60 : Int32) * x1) + x2) 240) : Ct yX11_lay MX11_lay (d + 2) [.ref 88, .int x1, .int x2, .int x3] σ (fun v σ1 => v = some (.int (rX11_lay x1 x2 x3 σ)) ∧ σ1 = sX11_lay x1 x2 x3 σ) :=
  Ct.of mX11_lay.1 (Nat.le_of_ble_eq_true rfl) (bX11_lay_0 x1 x2 x3 σ  g1 g2 (fun h1 h2 h3 => ⟨by first | rfl | (simp only [sX11_lay, rX11_lay, eq_true h1, not_true_eq_false, eq_false h2, not_false_eq_true, eq_true h3, not_true_eq_false, true_and, and_true, false_and, and_false, true_or, or_true, false_or, or_false, not_true_eq_false, not_false_eq_true, if_true, if_false]; done) | (simp [sX11_lay, rX11_lay, eq_true h1, not_true_eq_false, eq_false h2, not_false_eq_true, eq_true h3, not_true_eq_false, bI]; done), by first | rfl | (simp only [sX11_lay, rX11_lay, eq_true h1, not_true_eq_false, eq_false h2, not_false_eq_true, eq_true h3, not_true_eq_false, true_and, and_true, false_and, and_false, true_or, or_true, false_or, or_false, not_true_eq_false, not_false_eq_true, if_true, if_false]; done) | (simp [sX11_lay, rX11_lay, eq_true h1, not_true_eq_false, eq_false h2, not_false_eq_true, eq_true h3, not_true_eq_false, bI]; done)⟩) (fun h1 h2 h3 => ⟨by first | rfl | (simp only [sX11_lay, rX11_lay, eq_true h1, not_true_eq_false, eq_false h2, not_false_eq_true, eq_false h3, not_false_eq_true, true_and, and_true, false_and, and_false, true_or, or_true, false_or, or_false, not_true_eq_false, not_false_eq_true, if_true, if_false]; done) | (simp [sX11_lay, rX11_lay, eq_true h1, not_true_eq_false, eq_false h2, not_false_eq_true, eq_false h3, not_false_eq_true, bI]; done), by first | rfl | (simp only [sX11_lay, rX11_lay, eq_true h1, not_true_eq_false, eq_false h2, not_false_eq_true, eq_false h3, not_false_eq_true, true_and, and_true, false_and, and_false, true_or, or_true, false_or, or_false, not_true_eq_false, not_false_eq_true, if_true, if_false]; done) | (simp [sX11_lay, rX11_lay, eq_true h1, not_true_eq_false, eq_false h2, not_false_eq_true, eq_false h3, not_false_eq_true, bI]; done)⟩) (fun h1 h2 => ⟨by first | rfl | (simp only [sX11_lay, rX11_lay, eq_true h1, not_true_eq_false, eq_true h2, not_true_eq_false, true_and, and_true, false_and, and_false, true_or, or_true, false_or, or_false, not_true_eq_false, not_false_eq_true, if_true, if_false]; done) | (simp [sX11_lay, rX11_lay, eq_true h1, not_true_eq_false, eq_true h2, not_true_eq_false, bI]; done), by first | rfl | (simp only [sX11_lay, rX11_lay, eq_true h1, not_true_eq_false, eq_true h2, not_true_eq_false, true_and, and_true, false_and, and_false, true_or, or_true, false_or, or_false, not_true_eq_false, not_false_eq_true, if_true, if_false]; done) | (simp [sX11_lay, rX11_lay, eq_true h1, not_true_eq_false, eq_true h2, not_true_eq_false, bI]; done)⟩) (fun h1 => ⟨by first | rfl | (simp only [sX11_lay, rX11_lay, eq_false h1, not_false_eq_true, true_and, and_true, false_and, and_false, true_or, or_true, false_or, or_false, not_true_eq_false, not_false_eq_true, if_true, if_false]; done) | (simp [sX11_lay, rX11_lay, eq_false h1, not_false_eq_true, bI]; done), by first | rfl | (simp only [sX11_lay, rX11_lay, eq_false h1, not_false_eq_true, true_and, and_true, false_and, and_false, true_or, or_true, false_or, or_false, not_true_eq_false, not_false_eq_true, if_true, if_false]; done) | (simp [sX11_lay, rX11_lay, eq_false h1, not_false_eq_true, bI]; done)⟩))

/-! CarryNetsModel.heights -/
theorem eX11_heights_0 : decode MX11_heights.2.1 0 = .ok (.iload_n 1, 1) := by decide +kernel
theorem eX11_heights_1 : decode MX11_heights.2.1 1 = .ok (.iload_n 2, 1) := by decide +kernel
theorem eX11_heights_2 : decode MX11_heights.2.1 2 = .ok (.invokestatic 302, 3) := by decide +kernel
theorem eX11_heights_5 : decode MX11_heights.2.1 5 = .ok (.ifCond .eq 16, 3) := by decide +kernel
theorem eX11_heights_8 : decode MX11_heights.2.1 8 = .ok (.iload 4, 2) := by decide +kernel
theorem eX11_heights_10 : decode MX11_heights.2.1 10 = .ok (.i2l, 1) := by decide +kernel
theorem eX11_heights_11 : decode MX11_heights.2.1 11 = .ok (.lconst 1, 1) := by decide +kernel
theorem eX11_heights_12 : decode MX11_heights.2.1 12 = .ok (.ldc2_w 265, 3) := by decide +kernel
theorem eX11_heights_15 : decode MX11_heights.2.1 15 = .ok (.invokestatic 109, 3) := by decide +kernel
theorem eX11_heights_18 : decode MX11_heights.2.1 18 = .ok (.ifCond .ne 5, 3) := by decide +kernel
theorem eX11_heights_21 : decode MX11_heights.2.1 21 = .ok (.iconst (-1), 1) := by decide +kernel
theorem eX11_heights_22 : decode MX11_heights.2.1 22 = .ok (.ireturn, 1) := by decide +kernel
theorem eX11_heights_23 : decode MX11_heights.2.1 23 = .ok (.aload_n 0, 1) := by decide +kernel
theorem eX11_heights_24 : decode MX11_heights.2.1 24 = .ok (.getfield 82, 3) := by decide +kernel
theorem eX11_heights_27 : decode MX11_heights.2.1 27 = .ok (.iload_n 1, 1) := by decide +kernel
theorem eX11_heights_28 : decode MX11_heights.2.1 28 = .ok (.iaload, 1) := by decide +kernel
theorem eX11_heights_29 : decode MX11_heights.2.1 29 = .ok (.iload_n 2, 1) := by decide +kernel
theorem eX11_heights_30 : decode MX11_heights.2.1 30 = .ok (.if_icmp .eq 22, 3) := by decide +kernel
theorem eX11_heights_33 : decode MX11_heights.2.1 33 = .ok (.aload_n 0, 1) := by decide +kernel
theorem eX11_heights_34 : decode MX11_heights.2.1 34 = .ok (.getfield 82, 3) := by decide +kernel
theorem eX11_heights_37 : decode MX11_heights.2.1 37 = .ok (.iload_n 1, 1) := by decide +kernel
theorem eX11_heights_38 : decode MX11_heights.2.1 38 = .ok (.iaload, 1) := by decide +kernel
theorem eX11_heights_39 : decode MX11_heights.2.1 39 = .ok (.bipush (-4), 2) := by decide +kernel
theorem eX11_heights_41 : decode MX11_heights.2.1 41 = .ok (.if_icmp .ne 8, 3) := by decide +kernel
theorem eX11_heights_44 : decode MX11_heights.2.1 44 = .ok (.bipush (-11), 2) := by decide +kernel
theorem eX11_heights_46 : decode MX11_heights.2.1 46 = .ok (.goto 5, 3) := by decide +kernel
theorem eX11_heights_49 : decode MX11_heights.2.1 49 = .ok (.bipush (-13), 2) := by decide +kernel
theorem eX11_heights_51 : decode MX11_heights.2.1 51 = .ok (.ireturn, 1) := by decide +kernel
theorem eX11_heights_52 : decode MX11_heights.2.1 52 = .ok (.iconst 0, 1) := by decide +kernel
theorem eX11_heights_53 : decode MX11_heights.2.1 53 = .ok (.istore 5, 2) := by decide +kernel
theorem eX11_heights_55 : decode MX11_heights.2.1 55 = .ok (.iload 5, 2) := by decide +kernel
theorem eX11_heights_57 : decode MX11_heights.2.1 57 = .ok (.iload 4, 2) := by decide +kernel
theorem eX11_heights_59 : decode MX11_heights.2.1 59 = .ok (.if_icmp .ge 70, 3) := by decide +kernel
theorem eX11_heights_62 : decode MX11_heights.2.1 62 = .ok (.iload_n 3, 1) := by decide +kernel
theorem eX11_heights_63 : decode MX11_heights.2.1 63 = .ok (.i2l, 1) := by decide +kernel
theorem eX11_heights_64 : decode MX11_heights.2.1 64 = .ok (.iload 5, 2) := by decide +kernel
theorem eX11_heights_66 : decode MX11_heights.2.1 66 = .ok (.i2l, 1) := by decide +kernel
theorem eX11_heights_67 : decode MX11_heights.2.1 67 = .ok (.ladd, 1) := by decide +kernel
theorem eX11_heights_68 : decode MX11_heights.2.1 68 = .ok (.lstore 6, 2) := by decide +kernel
theorem eX11_heights_70 : decode MX11_heights.2.1 70 = .ok (.lload 6, 2) := by decide +kernel
theorem eX11_heights_72 : decode MX11_heights.2.1 72 = .ok (.lconst 0, 1) := by decide +kernel
theorem eX11_heights_73 : decode MX11_heights.2.1 73 = .ok (.lcmp, 1) := by decide +kernel
theorem eX11_heights_74 : decode MX11_heights.2.1 74 = .ok (.ifCond .lt 16, 3) := by decide +kernel
theorem eX11_heights_77 : decode MX11_heights.2.1 77 = .ok (.lload 6, 2) := by decide +kernel
theorem eX11_heights_79 : decode MX11_heights.2.1 79 = .ok (.aload_n 0, 1) := by decide +kernel
theorem eX11_heights_80 : decode MX11_heights.2.1 80 = .ok (.getfield 85, 3) := by decide +kernel
theorem eX11_heights_83 : decode MX11_heights.2.1 83 = .ok (.iload_n 1, 1) := by decide +kernel
theorem eX11_heights_84 : decode MX11_heights.2.1 84 = .ok (.iaload, 1) := by decide +kernel
theorem eX11_heights_85 : decode MX11_heights.2.1 85 = .ok (.i2l, 1) := by decide +kernel
theorem eX11_heights_86 : decode MX11_heights.2.1 86 = .ok (.lcmp, 1) := by decide +kernel
theorem eX11_heights_87 : decode MX11_heights.2.1 87 = .ok (.ifCond .lt 6, 3) := by decide +kernel
theorem eX11_heights_90 : decode MX11_heights.2.1 90 = .ok (.bipush (-12), 2) := by decide +kernel
theorem eX11_heights_92 : decode MX11_heights.2.1 92 = .ok (.ireturn, 1) := by decide +kernel
theorem eX11_heights_93 : decode MX11_heights.2.1 93 = .ok (.aload_n 0, 1) := by decide +kernel
theorem eX11_heights_94 : decode MX11_heights.2.1 94 = .ok (.getfield 88, 3) := by decide +kernel
theorem eX11_heights_97 : decode MX11_heights.2.1 97 = .ok (.bipush 60, 2) := by decide +kernel
theorem eX11_heights_99 : decode MX11_heights.2.1 99 = .ok (.iload_n 1, 1) := by decide +kernel
theorem eX11_heights_100 : decode MX11_heights.2.1 100 = .ok (.imul, 1) := by decide +kernel
theorem eX11_heights_101 : decode MX11_heights.2.1 101 = .ok (.lload 6, 2) := by decide +kernel
theorem eX11_heights_103 : decode MX11_heights.2.1 103 = .ok (.l2i, 1) := by decide +kernel
theorem eX11_heights_104 : decode MX11_heights.2.1 104 = .ok (.iadd, 1) := by decide +kernel
theorem eX11_heights_105 : decode MX11_heights.2.1 105 = .ok (.iaload, 1) := by decide +kernel
theorem eX11_heights_106 : decode MX11_heights.2.1 106 = .ok (.i2l, 1) := by decide +kernel
theorem eX11_heights_107 : decode MX11_heights.2.1 107 = .ok (.lconst 0, 1) := by decide +kernel
theorem eX11_heights_108 : decode MX11_heights.2.1 108 = .ok (.ldc2_w 265, 3) := by decide +kernel
theorem eX11_heights_111 : decode MX11_heights.2.1 111 = .ok (.invokestatic 109, 3) := by decide +kernel
theorem eX11_heights_114 : decode MX11_heights.2.1 114 = .ok (.ifCond .ne 9, 3) := by decide +kernel
theorem eX11_heights_117 : decode MX11_heights.2.1 117 = .ok (.bipush (-20), 2) := by decide +kernel
theorem eX11_heights_119 : decode MX11_heights.2.1 119 = .ok (.iload 5, 2) := by decide +kernel
theorem eX11_heights_121 : decode MX11_heights.2.1 121 = .ok (.isub, 1) := by decide +kernel
theorem eX11_heights_122 : decode MX11_heights.2.1 122 = .ok (.ireturn, 1) := by decide +kernel
theorem eX11_heights_123 : decode MX11_heights.2.1 123 = .ok (.iinc 5 1, 3) := by decide +kernel
theorem eX11_heights_126 : decode MX11_heights.2.1 126 = .ok (.goto (-71), 3) := by decide +kernel
theorem eX11_heights_129 : decode MX11_heights.2.1 129 = .ok (.iconst 0, 1) := by decide +kernel
theorem eX11_heights_130 : decode MX11_heights.2.1 130 = .ok (.istore 5, 2) := by decide +kernel
theorem eX11_heights_132 : decode MX11_heights.2.1 132 = .ok (.iload 5, 2) := by decide +kernel
theorem eX11_heights_134 : decode MX11_heights.2.1 134 = .ok (.bipush 12, 2) := by decide +kernel
theorem eX11_heights_136 : decode MX11_heights.2.1 136 = .ok (.if_icmp .ge 41, 3) := by decide +kernel
theorem eX11_heights_139 : decode MX11_heights.2.1 139 = .ok (.aload_n 0, 1) := by decide +kernel
theorem eX11_heights_140 : decode MX11_heights.2.1 140 = .ok (.getfield 76, 3) := by decide +kernel
theorem eX11_heights_143 : decode MX11_heights.2.1 143 = .ok (.iload 5, 2) := by decide +kernel
theorem eX11_heights_145 : decode MX11_heights.2.1 145 = .ok (.iload 5, 2) := by decide +kernel
theorem eX11_heights_147 : decode MX11_heights.2.1 147 = .ok (.iload 4, 2) := by decide +kernel
theorem eX11_heights_149 : decode MX11_heights.2.1 149 = .ok (.if_icmp .ge 20, 3) := by decide +kernel
theorem eX11_heights_152 : decode MX11_heights.2.1 152 = .ok (.aload_n 0, 1) := by decide +kernel
theorem eX11_heights_153 : decode MX11_heights.2.1 153 = .ok (.getfield 88, 3) := by decide +kernel
theorem eX11_heights_156 : decode MX11_heights.2.1 156 = .ok (.bipush 60, 2) := by decide +kernel
theorem eX11_heights_158 : decode MX11_heights.2.1 158 = .ok (.iload_n 1, 1) := by decide +kernel
theorem eX11_heights_159 : decode MX11_heights.2.1 159 = .ok (.imul, 1) := by decide +kernel
theorem eX11_heights_160 : decode MX11_heights.2.1 160 = .ok (.iload_n 3, 1) := by decide +kernel
theorem eX11_heights_161 : decode MX11_heights.2.1 161 = .ok (.iadd, 1) := by decide +kernel
theorem eX11_heights_162 : decode MX11_heights.2.1 162 = .ok (.iload 5, 2) := by decide +kernel
theorem eX11_heights_164 : decode MX11_heights.2.1 164 = .ok (.iadd, 1) := by decide +kernel
theorem eX11_heights_165 : decode MX11_heights.2.1 165 = .ok (.iaload, 1) := by decide +kernel
theorem eX11_heights_166 : decode MX11_heights.2.1 166 = .ok (.goto 4, 3) := by decide +kernel
theorem eX11_heights_169 : decode MX11_heights.2.1 169 = .ok (.iconst 0, 1) := by decide +kernel
theorem eX11_heights_170 : decode MX11_heights.2.1 170 = .ok (.iastore, 1) := by decide +kernel
theorem eX11_heights_171 : decode MX11_heights.2.1 171 = .ok (.iinc 5 1, 3) := by decide +kernel
theorem eX11_heights_174 : decode MX11_heights.2.1 174 = .ok (.goto (-42), 3) := by decide +kernel
theorem eX11_heights_177 : decode MX11_heights.2.1 177 = .ok (.aload_n 0, 1) := by decide +kernel
theorem eX11_heights_178 : decode MX11_heights.2.1 178 = .ok (.invokevirtual 288, 3) := by decide +kernel
theorem eX11_heights_181 : decode MX11_heights.2.1 181 = .ok (.ireturn, 1) := by decide +kernel
set_option maxRecDepth 20000 in
theorem bX11_heights_0 {d : Nat} {Q : Option Value → St → Prop} (x1 : Int32) (x2 : Int32) (x3 : Int32) (x4 : Int32) (σ : St) 
    (g1 : (((0 : Int64) ≤ x1.toInt64 ∧ x1.toInt64 ≤ (3 : Int64)) ∧ ((0 : Int64) ≤ x2.toInt64 ∧ x2.toInt64 ≤ (2 : Int64))) → ((1 : Int64) ≤ x4.toInt64 ∧ x4.toInt64 ≤ (12 : Int64)) → vp_in x1 4)
    (k1 : (¬ (((0 : Int64) ≤ x1.toInt64 ∧ x1.toInt64 ≤ (3 : Int64)) ∧ ((0 : Int64) ≤ x2.toInt64 ∧ x2.toInt64 ≤ (2 : Int64)))) → Q (some (.int (-1))) σ)
    (k2 : (((0 : Int64) ≤ x1.toInt64 ∧ x1.toInt64 ≤ (3 : Int64)) ∧ ((0 : Int64) ≤ x2.toInt64 ∧ x2.toInt64 ≤ (2 : Int64))) → ((1 : Int64) ≤ x4.toInt64 ∧ x4.toInt64 ≤ (12 : Int64)) → (σ.1 108 x1.toNatClampNeg) = x2 → Run MX11_heights (d + 2) 55 [some (.ref 88), some (.int x1), none, some (.int x3), some (.int x4), some (.int 0), none, none] [] σ Q)
    (k3 : (((0 : Int64) ≤ x1.toInt64 ∧ x1.toInt64 ≤ (3 : Int64)) ∧ ((0 : Int64) ≤ x2.toInt64 ∧ x2.toInt64 ≤ (2 : Int64))) → ((1 : Int64) ≤ x4.toInt64 ∧ x4.toInt64 ≤ (12 : Int64)) → ¬ (σ.1 108 x1.toNatClampNeg) = x2 → Q (some (.int (if (σ.1 108 x1.toNatClampNeg) = (-4) then (-11 : Int32) else (-13)))) σ)
    (k4 : (((0 : Int64) ≤ x1.toInt64 ∧ x1.toInt64 ≤ (3 : Int64)) ∧ ((0 : Int64) ≤ x2.toInt64 ∧ x2.toInt64 ≤ (2 : Int64))) → (¬ ((1 : Int64) ≤ x4.toInt64 ∧ x4.toInt64 ≤ (12 : Int64))) → Q (some (.int (-1))) σ)
    : Run MX11_heights (d + 2) 0 [some (.ref 88), some (.int x1), some (.int x2), some (.int x3), some (.int x4), none, none, none] [] σ Q := by
  refine (go_iload_n 1 eX11_heights_0 rfl rfl).run ?_
  refine (go_iload_n 2 eX11_heights_1 rfl rfl).run ?_
  refine Run.callS1 (d := (d + 1)) (As := [.int x1, .int x2]) (r := .int (bI (((0 : Int64) ≤ x1.toInt64 ∧ x1.toInt64 ≤ (3 : Int64)) ∧ ((0 : Int64) ≤ x2.toInt64 ∧ x2.toInt64 ≤ (2 : Int64))))) mX11_isSheet lkX11_302 rfl rfl rfl (Nat.le_of_ble_eq_true rfl) eX11_heights_2 (qX11_isSheet d x1 x2 σ  ) ?_
  refine (br_ifeq_b 21 eX11_heights_5 rfl).run (fun h1 => ?_) (fun h1 => ?_)
  · refine (go_iconst (v := -1) eX11_heights_21 rfl).run ?_
    exact Run.ret (v := some (.int (-1))) (k1 h1) ⟨Or.inl rfl, eX11_heights_22⟩ rfl
  · refine (go_iload 4 eX11_heights_8 rfl).run ?_
    refine (go_i2l eX11_heights_10).run ?_
    refine (go_lconst (v := 1) eX11_heights_11 rfl).run ?_
    refine (go_ldc2 csX11_265 eX11_heights_12).run ?_
    refine Run.callS1 (d := (d + 1)) (As := [.long x4.toInt64, .long 1, .long (12)]) (r := .int (bI ((1 : Int64) ≤ x4.toInt64 ∧ x4.toInt64 ≤ (12 : Int64)))) mX11_in lkX11_109 rfl rfl rfl (Nat.le_of_ble_eq_true rfl) eX11_heights_15 (qX11_in (d + 1) x4.toInt64 (1 : Int64) (12 : Int64) σ  ) ?_
    refine (br_ifne_b 23 eX11_heights_18 rfl).run (fun h2 => ?_) (fun h2 => ?_)
    · refine (go_aload_n 0 eX11_heights_23 rfl rfl).run ?_
      refine (go_getr flX11_82 rf_10_35 kd_88 gr_88_35 eX11_heights_24).run ?_
      refine (go_iload_n 1 eX11_heights_27 rfl rfl).run ?_
      refine (go_iald kd_108 ln_108 (g1 h1 h2) eX11_heights_28).run ?_
      refine (go_iload_n 2 eX11_heights_29 rfl rfl).run ?_
      refine (bi_eq 52 eX11_heights_30 rfl).run (fun h3 => ?_) (fun h3 => ?_)
      · refine (go_iconst (v := 0) eX11_heights_52 rfl).run ?_
        refine (go_istore 5 (L' := [some (.ref 88), some (.int x1), some (.int x2), some (.int x3), some (.int x4), some (.int 0), none, none]) eX11_heights_53 (Nat.le_of_ble_eq_true rfl) rfl).run ?_
        refine (go_sub (L' := [some (.ref 88), some (.int x1), none, some (.int x3), some (.int x4), some (.int 0), none, none]) (lsub_keep (lsub_keep (lsub_drop (lsub_keep (lsub_keep (lsub_keep (lsub_keep (lsub_keep lsub_nil))))))))).run ?_
        exact (k2 h1 h2 h3)
      · refine (go_aload_n 0 eX11_heights_33 rfl rfl).run ?_
        refine (go_getr flX11_82 rf_10_35 kd_88 gr_88_35 eX11_heights_34).run ?_
        refine (go_iload_n 1 eX11_heights_37 rfl rfl).run ?_
        refine (go_iald kd_108 ln_108 (g1 h1 h2) eX11_heights_38).run ?_
        refine (go_bipush (v := -4) eX11_heights_39 rfl).run ?_
        have hJh4 : Run MX11_heights (d + 2) 51 [none, none, none, none, none, none, none, none] [.int (if (σ.1 108 x1.toNatClampNeg) = (-4) then (-11 : Int32) else (-13))] σ Q := by
          exact Run.ret (v := some (.int (if (σ.1 108 x1.toNatClampNeg) = (-4) then (-11 : Int32) else (-13)))) (k3 h1 h2 h3) ⟨Or.inl rfl, eX11_heights_51⟩ rfl
        refine (bi_ne 49 eX11_heights_41 rfl).run (fun h4 => ?_) (fun h4 => ?_)
        · refine (go_bipush (v := -13) eX11_heights_49 rfl).run ?_
          refine (go_sub (L' := [none, none, none, none, none, none, none, none]) (lsub_drop (lsub_drop (lsub_drop (lsub_drop (lsub_drop (lsub_keep (lsub_keep (lsub_keep lsub_nil))))))))).run ?_
          first | exact hJh4 | (simp only [if_neg (h4)] at hJh4; exact hJh4) | (simp only [eq_false h4, not_false_eq_true, true_and, and_true, false_and, and_false, true_or, or_true, false_or, or_false, not_true_eq_false, not_false_eq_true] at hJh4; exact hJh4) | exact Run.eq (by simp [eq_false h4, not_false_eq_true, bI]) (by simp [eq_false h4, not_false_eq_true, bI]) rfl hJh4
        · refine (go_bipush (v := -11) eX11_heights_44 rfl).run ?_
          refine (go_goto 51 eX11_heights_46 rfl).run ?_
          refine (go_sub (L' := [none, none, none, none, none, none, none, none]) (lsub_drop (lsub_drop (lsub_drop (lsub_drop (lsub_drop (lsub_keep (lsub_keep (lsub_keep lsub_nil))))))))).run ?_
          first | exact hJh4 | (simp only [if_pos h4] at hJh4; exact hJh4) | (simp only [eq_true h4, not_true_eq_false, true_and, and_true, false_and, and_false, true_or, or_true, false_or, or_false, not_true_eq_false, not_false_eq_true] at hJh4; exact hJh4) | exact Run.eq (by simp [eq_true h4, not_true_eq_false, bI]) (by simp [eq_true h4, not_true_eq_false, bI]) rfl hJh4
    · refine (go_iconst (v := -1) eX11_heights_21 rfl).run ?_
      exact Run.ret (v := some (.int (-1))) (k4 h1 h2) ⟨Or.inl rfl, eX11_heights_22⟩ rfl

set_option maxRecDepth 20000 in
theorem bX11_heights_55 {d : Nat} {Q : Option Value → St → Prop} (x1 : Int32) (x3 : Int32) (x4 : Int32) (x5 : Int32) (σ : St) 
    (g1 : x5 < x4 → (0 : Int64) ≤ (x3.toInt64 + x5.toInt64) → vp_in x1 4)
    (g2 : x5 < x4 → (0 : Int64) ≤ (x3.toInt64 + x5.toInt64) → (x3.toInt64 + x5.toInt64) < ((σ.1 109 x1.toNatClampNeg).toInt64) → vp_in (((60 : Int32) * x1) + ((x3.toInt64 + x5.toInt64).toInt32)) 240)
    (k1 : x4 ≤ x5 → Run MX11_heights (d + 2) 132 [some (.ref 88), some (.int x1), none, some (.int x3), some (.int x4), some (.int 0), none, none] [] σ Q)
    (k2 : x5 < x4 → (x3.toInt64 + x5.toInt64) < 0 → Q (some (.int (-12))) σ)
    (k3 : x5 < x4 → (0 : Int64) ≤ (x3.toInt64 + x5.toInt64) → (x3.toInt64 + x5.toInt64) < ((σ.1 109 x1.toNatClampNeg).toInt64) → ((0 : Int64) ≤ ((σ.1 110 (((60 : Int32) * x1) + ((x3.toInt64 + x5.toInt64).toInt32)).toNatClampNeg).toInt64) ∧ ((σ.1 110 (((60 : Int32) * x1) + ((x3.toInt64 + x5.toInt64).toInt32)).toNatClampNeg).toInt64) ≤ (12 : Int64)) → Run MX11_heights (d + 2) 55 [some (.ref 88), some (.int x1), none, some (.int x3), some (.int x4), some (.int (x5 + 1)), none, none] [] σ Q)
    (k4 : x5 < x4 → (0 : Int64) ≤ (x3.toInt64 + x5.toInt64) → (x3.toInt64 + x5.toInt64) < ((σ.1 109 x1.toNatClampNeg).toInt64) → (¬ ((0 : Int64) ≤ ((σ.1 110 (((60 : Int32) * x1) + ((x3.toInt64 + x5.toInt64).toInt32)).toNatClampNeg).toInt64) ∧ ((σ.1 110 (((60 : Int32) * x1) + ((x3.toInt64 + x5.toInt64).toInt32)).toNatClampNeg).toInt64) ≤ (12 : Int64))) → Q (some (.int ((-20 : Int32) - x5))) σ)
    (k5 : x5 < x4 → (0 : Int64) ≤ (x3.toInt64 + x5.toInt64) → ((σ.1 109 x1.toNatClampNeg).toInt64) ≤ (x3.toInt64 + x5.toInt64) → Q (some (.int (-12))) σ)
    : Run MX11_heights (d + 2) 55 [some (.ref 88), some (.int x1), none, some (.int x3), some (.int x4), some (.int x5), none, none] [] σ Q := by
  refine (go_iload 5 eX11_heights_55 rfl).run ?_
  refine (go_iload 4 eX11_heights_57 rfl).run ?_
  refine (bi_ge 129 eX11_heights_59 rfl).run (fun h1 => ?_) (fun h1 => ?_)
  · refine (go_iconst (v := 0) eX11_heights_129 rfl).run ?_
    refine (go_istore 5 (L' := [some (.ref 88), some (.int x1), none, some (.int x3), some (.int x4), some (.int 0), none, none]) eX11_heights_130 (Nat.le_of_ble_eq_true rfl) rfl).run ?_
    exact (k1 h1)
  · refine (go_iload_n 3 eX11_heights_62 rfl rfl).run ?_
    refine (go_i2l eX11_heights_63).run ?_
    refine (go_iload 5 eX11_heights_64 rfl).run ?_
    refine (go_i2l eX11_heights_66).run ?_
    refine (go_ladd eX11_heights_67).run ?_
    refine (go_lstore 6 (L' := [some (.ref 88), some (.int x1), none, some (.int x3), some (.int x4), some (.int x5), some (.long (x3.toInt64 + x5.toInt64)), none]) eX11_heights_68 (Nat.le_of_ble_eq_true rfl) rfl).run ?_
    refine (go_lload 6 eX11_heights_70 rfl).run ?_
    refine (go_lconst (v := 0) eX11_heights_72 rfl).run ?_
    refine (go_lcmp eX11_heights_73).run ?_
    refine (brl_lt 90 eX11_heights_74 rfl).run (fun h2 => ?_) (fun h2 => ?_)
    · refine (go_bipush (v := -12) eX11_heights_90 rfl).run ?_
      exact Run.ret (v := some (.int (-12))) (k2 h1 h2) ⟨Or.inl rfl, eX11_heights_92⟩ rfl
    · refine (go_lload 6 eX11_heights_77 rfl).run ?_
      refine (go_aload_n 0 eX11_heights_79 rfl rfl).run ?_
      refine (go_getr flX11_85 rf_10_36 kd_88 gr_88_36 eX11_heights_80).run ?_
      refine (go_iload_n 1 eX11_heights_83 rfl rfl).run ?_
      refine (go_iald kd_109 ln_109 (g1 h1 h2) eX11_heights_84).run ?_
      refine (go_i2l eX11_heights_85).run ?_
      refine (go_lcmp eX11_heights_86).run ?_
      refine (brl_lt 93 eX11_heights_87 rfl).run (fun h3 => ?_) (fun h3 => ?_)
      · refine (go_aload_n 0 eX11_heights_93 rfl rfl).run ?_
        refine (go_getr flX11_88 rf_10_37 kd_88 gr_88_37 eX11_heights_94).run ?_
        refine (go_bipush (v := 60) eX11_heights_97 rfl).run ?_
        refine (go_iload_n 1 eX11_heights_99 rfl rfl).run ?_
        refine (go_imul eX11_heights_100).run ?_
        refine (go_lload 6 eX11_heights_101 rfl).run ?_
        refine (go_l2i eX11_heights_103).run ?_
        refine (go_iadd eX11_heights_104).run ?_
        refine (go_iald kd_110 ln_110 (g2 h1 h2 h3) eX11_heights_105).run ?_
        refine (go_i2l eX11_heights_106).run ?_
        refine (go_lconst (v := 0) eX11_heights_107 rfl).run ?_
        refine (go_ldc2 csX11_265 eX11_heights_108).run ?_
        refine Run.callS1 (d := (d + 1)) (As := [.long ((σ.1 110 (((60 : Int32) * x1) + ((x3.toInt64 + x5.toInt64).toInt32)).toNatClampNeg).toInt64), .long 0, .long (12)]) (r := .int (bI ((0 : Int64) ≤ ((σ.1 110 (((60 : Int32) * x1) + ((x3.toInt64 + x5.toInt64).toInt32)).toNatClampNeg).toInt64) ∧ ((σ.1 110 (((60 : Int32) * x1) + ((x3.toInt64 + x5.toInt64).toInt32)).toNatClampNeg).toInt64) ≤ (12 : Int64)))) mX11_in lkX11_109 rfl rfl rfl (Nat.le_of_ble_eq_true rfl) eX11_heights_111 (qX11_in (d + 1) ((σ.1 110 (((60 : Int32) * x1) + ((x3.toInt64 + x5.toInt64).toInt32)).toNatClampNeg).toInt64) (0 : Int64) (12 : Int64) σ  ) ?_
        refine (br_ifne_b 123 eX11_heights_114 rfl).run (fun h4 => ?_) (fun h4 => ?_)
        · refine (go_iinc 5 (v := (x5 + 1)) (L' := [some (.ref 88), some (.int x1), none, some (.int x3), some (.int x4), some (.int (x5 + 1)), some (.long (x3.toInt64 + x5.toInt64)), none]) eX11_heights_123 rfl rfl (Nat.le_of_ble_eq_true rfl) rfl).run ?_
          refine (go_goto 55 eX11_heights_126 rfl).run ?_
          refine (go_sub (L' := [some (.ref 88), some (.int x1), none, some (.int x3), some (.int x4), some (.int (x5 + 1)), none, none]) (lsub_keep (lsub_keep (lsub_keep (lsub_keep (lsub_keep (lsub_keep (lsub_drop (lsub_keep lsub_nil))))))))).run ?_
          exact (k3 h1 h2 h3 h4)
        · refine (go_bipush (v := -20) eX11_heights_117 rfl).run ?_
          refine (go_iload 5 eX11_heights_119 rfl).run ?_
          refine (go_isub eX11_heights_121).run ?_
          exact Run.ret (v := some (.int ((-20 : Int32) - x5))) (k4 h1 h2 h3 h4) ⟨Or.inl rfl, eX11_heights_122⟩ rfl
      · refine (go_bipush (v := -12) eX11_heights_90 rfl).run ?_
        exact Run.ret (v := some (.int (-12))) (k5 h1 h2 h3) ⟨Or.inl rfl, eX11_heights_92⟩ rfl

set_option maxRecDepth 20000 in
theorem bX11_heights_132 {d : Nat} {Q : Option Value → St → Prop} (x1 : Int32) (x3 : Int32) (x4 : Int32) (x5 : Int32) (σ : St) 
    (g1 : x5 < 12 → x5 < x4 → vp_in ((((60 : Int32) * x1) + x3) + x5) 240)
    (g2 : x5 < 12 → vp_in x5 12)
    (k1 : (12 : Int32) ≤ x5 → Ct yX11_allBits MX11_allBits (d + 1) [.ref 88] σ (fun v σ1 => Run MX11_heights (d + 2) 181 [none, none, none, none, none, none, none, none] (v.toList ++ []) σ1 Q))
    (k2 : x5 < 12 → Run MX11_heights (d + 2) 132 [some (.ref 88), some (.int x1), none, some (.int x3), some (.int x4), some (.int (x5 + 1)), none, none] [] (sA σ 106 (upd (σ.1 106) x5.toNatClampNeg (if x4 ≤ x5 then (0 : Int32) else (σ.1 110 ((((60 : Int32) * x1) + x3) + x5).toNatClampNeg)))) Q)
    : Run MX11_heights (d + 2) 132 [some (.ref 88), some (.int x1), none, some (.int x3), some (.int x4), some (.int x5), none, none] [] σ Q := by
  refine (go_iload 5 eX11_heights_132 rfl).run ?_
  refine (go_bipush (v := 12) eX11_heights_134 rfl).run ?_
  refine (bi_ge 177 eX11_heights_136 rfl).run (fun h1 => ?_) (fun h1 => ?_)
  · refine (go_aload_n 0 eX11_heights_177 rfl rfl).run ?_
    refine (go_sub (L' := [none, none, none, none, none, none, none, none]) (lsub_drop (lsub_drop (lsub_keep (lsub_drop (lsub_drop (lsub_drop (lsub_keep (lsub_keep lsub_nil))))))))).run ?_
    exact Run.callV (d := (d + 1)) (As := []) mX11_allBits lkX11_288 kd_88 (by decide) rfl rfl rfl rfl rfl (Nat.le_of_ble_eq_true rfl) eX11_heights_178 (k1 h1)
  · refine (go_aload_n 0 eX11_heights_139 rfl rfl).run ?_
    refine (go_getr flX11_76 rf_10_30 kd_88 gr_88_30 eX11_heights_140).run ?_
    refine (go_iload 5 eX11_heights_143 rfl).run ?_
    refine (go_iload 5 eX11_heights_145 rfl).run ?_
    refine (go_iload 4 eX11_heights_147 rfl).run ?_
    have hJh2 : Run MX11_heights (d + 2) 170 [some (.ref 88), some (.int x1), none, some (.int x3), some (.int x4), some (.int x5), none, none] [.int (if x4 ≤ x5 then (0 : Int32) else (σ.1 110 ((((60 : Int32) * x1) + x3) + x5).toNatClampNeg)), .int x5, .ref 106] σ Q := by
      refine (go_iast kd_106 ln_106 (g2 h1) eX11_heights_170).run ?_
      refine (go_iinc 5 (v := (x5 + 1)) (L' := [some (.ref 88), some (.int x1), none, some (.int x3), some (.int x4), some (.int (x5 + 1)), none, none]) eX11_heights_171 rfl rfl (Nat.le_of_ble_eq_true rfl) rfl).run ?_
      refine (go_goto 132 eX11_heights_174 rfl).run ?_
      exact (k2 h1)
    refine (bi_ge 169 eX11_heights_149 rfl).run (fun h2 => ?_) (fun h2 => ?_)
    · refine (go_iconst (v := 0) eX11_heights_169 rfl).run ?_
      first | exact hJh2 | (simp only [if_pos h2] at hJh2; exact hJh2) | (simp only [eq_true h2, eq_false (i32_nlt.mpr h2), true_and, and_true, false_and, and_false, true_or, or_true, false_or, or_false, not_true_eq_false, not_false_eq_true] at hJh2; exact hJh2) | exact Run.eq (by simp [eq_true h2, eq_false (i32_nlt.mpr h2), bI]) (by simp [eq_true h2, eq_false (i32_nlt.mpr h2), bI]) rfl hJh2
    · refine (go_aload_n 0 eX11_heights_152 rfl rfl).run ?_
      refine (go_getr flX11_88 rf_10_37 kd_88 gr_88_37 eX11_heights_153).run ?_
      refine (go_bipush (v := 60) eX11_heights_156 rfl).run ?_
      refine (go_iload_n 1 eX11_heights_158 rfl rfl).run ?_
      refine (go_imul eX11_heights_159).run ?_
      refine (go_iload_n 3 eX11_heights_160 rfl rfl).run ?_
      refine (go_iadd eX11_heights_161).run ?_
      refine (go_iload 5 eX11_heights_162 rfl).run ?_
      refine (go_iadd eX11_heights_164).run ?_
      refine (go_iald kd_110 ln_110 (g1 h1 h2) eX11_heights_165).run ?_
      refine (go_goto 170 eX11_heights_166 rfl).run ?_
      first | exact hJh2 | (simp only [if_neg (i32_nle.mpr h2)] at hJh2; exact hJh2) | (simp only [eq_true h2, eq_false (i32_nle.mpr h2), true_and, and_true, false_and, and_false, true_or, or_true, false_or, or_false, not_true_eq_false, not_false_eq_true] at hJh2; exact hJh2) | exact Run.eq (by simp [eq_true h2, eq_false (i32_nle.mpr h2), bI]) (by simp [eq_true h2, eq_false (i32_nle.mpr h2), bI]) rfl hJh2

set_option maxRecDepth 20000 in
theorem bX11_heights_181 {d : Nat} {Q : Option Value → St → Prop} (s0 : Int32) (σ : St) 
    (k1 : Q (some (.int s0)) σ)
    : Run MX11_heights (d + 2) 181 [none, none, none, none, none, none, none, none] [.int s0] σ Q := by
  exact Run.ret (v := some (.int s0)) k1 ⟨Or.inl rfl, eX11_heights_181⟩ rfl


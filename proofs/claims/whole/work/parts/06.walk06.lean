/-! CarryNetsModel.sum -/
theorem eX11_sum_0 : decode MX11_sum.2.1 0 = .ok (.aload_n 0, 1) := by decide +kernel
theorem eX11_sum_1 : decode MX11_sum.2.1 1 = .ok (.iload_n 1, 1) := by decide +kernel
theorem eX11_sum_2 : decode MX11_sum.2.1 2 = .ok (.invokevirtual 175, 3) := by decide +kernel
theorem eX11_sum_5 : decode MX11_sum.2.1 5 = .ok (.ifCond .eq 14, 3) := by decide +kernel
theorem eX11_sum_8 : decode MX11_sum.2.1 8 = .ok (.iload 5, 2) := by decide +kernel
theorem eX11_sum_10 : decode MX11_sum.2.1 10 = .ok (.i2l, 1) := by decide +kernel
theorem eX11_sum_11 : decode MX11_sum.2.1 11 = .ok (.lconst 0, 1) := by decide +kernel
theorem eX11_sum_12 : decode MX11_sum.2.1 12 = .ok (.lconst 1, 1) := by decide +kernel
theorem eX11_sum_13 : decode MX11_sum.2.1 13 = .ok (.invokestatic 109, 3) := by decide +kernel
theorem eX11_sum_16 : decode MX11_sum.2.1 16 = .ok (.ifCond .ne 7, 3) := by decide +kernel
theorem eX11_sum_19 : decode MX11_sum.2.1 19 = .ok (.ldc2_w 205, 3) := by decide +kernel
theorem eX11_sum_22 : decode MX11_sum.2.1 22 = .ok (.lreturn, 1) := by decide +kernel
theorem eX11_sum_23 : decode MX11_sum.2.1 23 = .ok (.aload_n 0, 1) := by decide +kernel
theorem eX11_sum_24 : decode MX11_sum.2.1 24 = .ok (.iload_n 1, 1) := by decide +kernel
theorem eX11_sum_25 : decode MX11_sum.2.1 25 = .ok (.invokevirtual 196, 3) := by decide +kernel
theorem eX11_sum_28 : decode MX11_sum.2.1 28 = .ok (.ifCond .ne 7, 3) := by decide +kernel
theorem eX11_sum_31 : decode MX11_sum.2.1 31 = .ok (.ldc2_w 207, 3) := by decide +kernel
theorem eX11_sum_34 : decode MX11_sum.2.1 34 = .ok (.lreturn, 1) := by decide +kernel
theorem eX11_sum_35 : decode MX11_sum.2.1 35 = .ok (.lconst 0, 1) := by decide +kernel
theorem eX11_sum_36 : decode MX11_sum.2.1 36 = .ok (.lstore 6, 2) := by decide +kernel
theorem eX11_sum_38 : decode MX11_sum.2.1 38 = .ok (.lconst 0, 1) := by decide +kernel
theorem eX11_sum_39 : decode MX11_sum.2.1 39 = .ok (.lstore 8, 2) := by decide +kernel
theorem eX11_sum_41 : decode MX11_sum.2.1 41 = .ok (.iload 4, 2) := by decide +kernel
theorem eX11_sum_43 : decode MX11_sum.2.1 43 = .ok (.ifCond .eq 7, 3) := by decide +kernel
theorem eX11_sum_46 : decode MX11_sum.2.1 46 = .ok (.iconst 1, 1) := by decide +kernel
theorem eX11_sum_47 : decode MX11_sum.2.1 47 = .ok (.goto 4, 3) := by decide +kernel
theorem eX11_sum_50 : decode MX11_sum.2.1 50 = .ok (.iconst 0, 1) := by decide +kernel
theorem eX11_sum_51 : decode MX11_sum.2.1 51 = .ok (.istore 10, 2) := by decide +kernel
theorem eX11_sum_53 : decode MX11_sum.2.1 53 = .ok (.iconst 0, 1) := by decide +kernel
theorem eX11_sum_54 : decode MX11_sum.2.1 54 = .ok (.istore 11, 2) := by decide +kernel
theorem eX11_sum_56 : decode MX11_sum.2.1 56 = .ok (.iload 11, 2) := by decide +kernel
theorem eX11_sum_58 : decode MX11_sum.2.1 58 = .ok (.aload_n 0, 1) := by decide +kernel
theorem eX11_sum_59 : decode MX11_sum.2.1 59 = .ok (.getfield 7, 3) := by decide +kernel
theorem eX11_sum_62 : decode MX11_sum.2.1 62 = .ok (.iload_n 1, 1) := by decide +kernel
theorem eX11_sum_63 : decode MX11_sum.2.1 63 = .ok (.iaload, 1) := by decide +kernel
theorem eX11_sum_64 : decode MX11_sum.2.1 64 = .ok (.if_icmp .ge 57, 3) := by decide +kernel
theorem eX11_sum_67 : decode MX11_sum.2.1 67 = .ok (.iload_n 2, 1) := by decide +kernel
theorem eX11_sum_68 : decode MX11_sum.2.1 68 = .ok (.iload 11, 2) := by decide +kernel
theorem eX11_sum_70 : decode MX11_sum.2.1 70 = .ok (.ishr, 1) := by decide +kernel
theorem eX11_sum_71 : decode MX11_sum.2.1 71 = .ok (.iconst 1, 1) := by decide +kernel
theorem eX11_sum_72 : decode MX11_sum.2.1 72 = .ok (.iand, 1) := by decide +kernel
theorem eX11_sum_73 : decode MX11_sum.2.1 73 = .ok (.iload_n 3, 1) := by decide +kernel
theorem eX11_sum_74 : decode MX11_sum.2.1 74 = .ok (.iload 11, 2) := by decide +kernel
theorem eX11_sum_76 : decode MX11_sum.2.1 76 = .ok (.ishr, 1) := by decide +kernel
theorem eX11_sum_77 : decode MX11_sum.2.1 77 = .ok (.iconst 1, 1) := by decide +kernel
theorem eX11_sum_78 : decode MX11_sum.2.1 78 = .ok (.iand, 1) := by decide +kernel
theorem eX11_sum_79 : decode MX11_sum.2.1 79 = .ok (.iadd, 1) := by decide +kernel
theorem eX11_sum_80 : decode MX11_sum.2.1 80 = .ok (.iload 10, 2) := by decide +kernel
theorem eX11_sum_82 : decode MX11_sum.2.1 82 = .ok (.iadd, 1) := by decide +kernel
theorem eX11_sum_83 : decode MX11_sum.2.1 83 = .ok (.istore 12, 2) := by decide +kernel
theorem eX11_sum_85 : decode MX11_sum.2.1 85 = .ok (.lload 6, 2) := by decide +kernel
theorem eX11_sum_87 : decode MX11_sum.2.1 87 = .ok (.iload 12, 2) := by decide +kernel
theorem eX11_sum_89 : decode MX11_sum.2.1 89 = .ok (.iconst 1, 1) := by decide +kernel
theorem eX11_sum_90 : decode MX11_sum.2.1 90 = .ok (.iand, 1) := by decide +kernel
theorem eX11_sum_91 : decode MX11_sum.2.1 91 = .ok (.i2l, 1) := by decide +kernel
theorem eX11_sum_92 : decode MX11_sum.2.1 92 = .ok (.iload 11, 2) := by decide +kernel
theorem eX11_sum_94 : decode MX11_sum.2.1 94 = .ok (.lshl, 1) := by decide +kernel
theorem eX11_sum_95 : decode MX11_sum.2.1 95 = .ok (.lor, 1) := by decide +kernel
theorem eX11_sum_96 : decode MX11_sum.2.1 96 = .ok (.lstore 6, 2) := by decide +kernel
theorem eX11_sum_98 : decode MX11_sum.2.1 98 = .ok (.iload 12, 2) := by decide +kernel
theorem eX11_sum_100 : decode MX11_sum.2.1 100 = .ok (.iconst 1, 1) := by decide +kernel
theorem eX11_sum_101 : decode MX11_sum.2.1 101 = .ok (.ishr, 1) := by decide +kernel
theorem eX11_sum_102 : decode MX11_sum.2.1 102 = .ok (.istore 10, 2) := by decide +kernel
theorem eX11_sum_104 : decode MX11_sum.2.1 104 = .ok (.lload 8, 2) := by decide +kernel
theorem eX11_sum_106 : decode MX11_sum.2.1 106 = .ok (.iload 10, 2) := by decide +kernel
theorem eX11_sum_108 : decode MX11_sum.2.1 108 = .ok (.i2l, 1) := by decide +kernel
theorem eX11_sum_109 : decode MX11_sum.2.1 109 = .ok (.iload 11, 2) := by decide +kernel
theorem eX11_sum_111 : decode MX11_sum.2.1 111 = .ok (.lshl, 1) := by decide +kernel
theorem eX11_sum_112 : decode MX11_sum.2.1 112 = .ok (.lor, 1) := by decide +kernel
theorem eX11_sum_113 : decode MX11_sum.2.1 113 = .ok (.lstore 8, 2) := by decide +kernel
theorem eX11_sum_115 : decode MX11_sum.2.1 115 = .ok (.iinc 11 1, 3) := by decide +kernel
theorem eX11_sum_118 : decode MX11_sum.2.1 118 = .ok (.goto (-62), 3) := by decide +kernel
theorem eX11_sum_121 : decode MX11_sum.2.1 121 = .ok (.iload 5, 2) := by decide +kernel
theorem eX11_sum_123 : decode MX11_sum.2.1 123 = .ok (.ifCond .ne 8, 3) := by decide +kernel
theorem eX11_sum_126 : decode MX11_sum.2.1 126 = .ok (.lload 6, 2) := by decide +kernel
theorem eX11_sum_128 : decode MX11_sum.2.1 128 = .ok (.goto 5, 3) := by decide +kernel
theorem eX11_sum_131 : decode MX11_sum.2.1 131 = .ok (.lload 8, 2) := by decide +kernel
theorem eX11_sum_133 : decode MX11_sum.2.1 133 = .ok (.lreturn, 1) := by decide +kernel
set_option maxRecDepth 20000 in
theorem bX11_sum_0 {d : Nat} {Q : Option Value → St → Prop} (x1 : Int32) (x2 : Int32) (x3 : Int32) (x4 : Int32) (x5 : Int32) (σ : St) 
    (k1 : (¬ ((0 : Int64) ≤ x1.toInt64 ∧ x1.toInt64 ≤ (((σ.1 88 0) - 1).toInt64))) → Q (some (.long (-1))) σ)
    (k2 : ((0 : Int64) ≤ x1.toInt64 ∧ x1.toInt64 ≤ (((σ.1 88 0) - 1).toInt64)) → ((0 : Int64) ≤ x5.toInt64 ∧ x5.toInt64 ≤ (1 : Int64)) → Ct yX11_isWhole MX11_isWhole (d + 2) [.ref 88, .int x1] σ (fun v σ1 => Run MX11_sum (d + 3) 28 [some (.ref 88), some (.int x1), some (.int x2), some (.int x3), some (.int x4), some (.int x5), none, none, none, none, none, none, none] (v.toList ++ []) σ1 Q))
    (k3 : ((0 : Int64) ≤ x1.toInt64 ∧ x1.toInt64 ≤ (((σ.1 88 0) - 1).toInt64)) → (¬ ((0 : Int64) ≤ x5.toInt64 ∧ x5.toInt64 ≤ (1 : Int64))) → Q (some (.long (-1))) σ)
    : Run MX11_sum (d + 3) 0 [some (.ref 88), some (.int x1), some (.int x2), some (.int x3), some (.int x4), some (.int x5), none, none, none, none, none, none, none] [] σ Q := by
  refine (go_aload_n 0 eX11_sum_0 rfl rfl).run ?_
  refine (go_iload_n 1 eX11_sum_1 rfl rfl).run ?_
  refine Run.callV1 (d := (d + 2)) (As := [.int x1]) (r := .int (bI ((0 : Int64) ≤ x1.toInt64 ∧ x1.toInt64 ≤ (((σ.1 88 0) - 1).toInt64)))) mX11_isNet lkX11_175 kd_88 (by decide) rfl rfl rfl rfl rfl (Nat.le_of_ble_eq_true rfl) eX11_sum_2 (qX11_isNet (d + 1) x1 σ  ) ?_
  refine (br_ifeq_b 19 eX11_sum_5 rfl).run (fun h1 => ?_) (fun h1 => ?_)
  · refine (go_ldc2 csX11_205 eX11_sum_19).run ?_
    exact Run.ret (v := some (.long (-1))) (k1 h1) ⟨rfl, eX11_sum_22⟩ rfl
  · refine (go_iload 5 eX11_sum_8 rfl).run ?_
    refine (go_i2l eX11_sum_10).run ?_
    refine (go_lconst (v := 0) eX11_sum_11 rfl).run ?_
    refine (go_lconst (v := 1) eX11_sum_12 rfl).run ?_
    refine Run.callS1 (d := (d + 2)) (As := [.long x5.toInt64, .long 0, .long 1]) (r := .int (bI ((0 : Int64) ≤ x5.toInt64 ∧ x5.toInt64 ≤ (1 : Int64)))) mX11_in lkX11_109 rfl rfl rfl (Nat.le_of_ble_eq_true rfl) eX11_sum_13 (qX11_in (d + 2) x5.toInt64 (0 : Int64) (1 : Int64) σ  ) ?_
    refine (br_ifne_b 23 eX11_sum_16 rfl).run (fun h2 => ?_) (fun h2 => ?_)
    · refine (go_aload_n 0 eX11_sum_23 rfl rfl).run ?_
      refine (go_iload_n 1 eX11_sum_24 rfl rfl).run ?_
      exact Run.callV (d := (d + 2)) (As := [.int x1]) mX11_isWhole lkX11_196 kd_88 (by decide) rfl rfl rfl rfl rfl (Nat.le_of_ble_eq_true rfl) eX11_sum_25 (k2 h1 h2)
    · refine (go_ldc2 csX11_205 eX11_sum_19).run ?_
      exact Run.ret (v := some (.long (-1))) (k3 h1 h2) ⟨rfl, eX11_sum_22⟩ rfl

set_option maxRecDepth 20000 in
theorem bX11_sum_28 {d : Nat} {Q : Option Value → St → Prop} (x1 : Int32) (x2 : Int32) (x3 : Int32) (x4 : Int32) (x5 : Int32) (s0 : Int32) (σ : St) 
    (k1 : ¬ s0 = 0 → Run MX11_sum (d + 3) 56 [some (.ref 88), some (.int x1), some (.int x2), some (.int x3), none, some (.int x5), some (.long 0), none, some (.long 0), none, some (.int (bI (¬ x4 = 0))), some (.int 0), none] [] σ Q)
    (k2 : s0 = 0 → Q (some (.long (-2))) σ)
    : Run MX11_sum (d + 3) 28 [some (.ref 88), some (.int x1), some (.int x2), some (.int x3), some (.int x4), some (.int x5), none, none, none, none, none, none, none] [.int s0] σ Q := by
  refine (bz_ne 35 eX11_sum_28 rfl).run (fun h1 => ?_) (fun h1 => ?_)
  · refine (go_lconst (v := 0) eX11_sum_35 rfl).run ?_
    refine (go_lstore 6 (L' := [some (.ref 88), some (.int x1), some (.int x2), some (.int x3), some (.int x4), some (.int x5), some (.long 0), none, none, none, none, none, none]) eX11_sum_36 (Nat.le_of_ble_eq_true rfl) rfl).run ?_
    refine (go_lconst (v := 0) eX11_sum_38 rfl).run ?_
    refine (go_lstore 8 (L' := [some (.ref 88), some (.int x1), some (.int x2), some (.int x3), some (.int x4), some (.int x5), some (.long 0), none, some (.long 0), none, none, none, none]) eX11_sum_39 (Nat.le_of_ble_eq_true rfl) rfl).run ?_
    refine (go_iload 4 eX11_sum_41 rfl).run ?_
    have hJh2 : Run MX11_sum (d + 3) 51 [some (.ref 88), some (.int x1), some (.int x2), some (.int x3), none, some (.int x5), some (.long 0), none, some (.long 0), none, none, none, none] [.int (bI (¬ x4 = 0))] σ Q := by
      refine (go_istore 10 (L' := [some (.ref 88), some (.int x1), some (.int x2), some (.int x3), none, some (.int x5), some (.long 0), none, some (.long 0), none, some (.int (bI (¬ x4 = 0))), none, none]) eX11_sum_51 (Nat.le_of_ble_eq_true rfl) rfl).run ?_
      refine (go_iconst (v := 0) eX11_sum_53 rfl).run ?_
      refine (go_istore 11 (L' := [some (.ref 88), some (.int x1), some (.int x2), some (.int x3), none, some (.int x5), some (.long 0), none, some (.long 0), none, some (.int (bI (¬ x4 = 0))), some (.int 0), none]) eX11_sum_54 (Nat.le_of_ble_eq_true rfl) rfl).run ?_
      exact (k1 h1)
    refine (bz_eq 50 eX11_sum_43 rfl).run (fun h2 => ?_) (fun h2 => ?_)
    · refine (go_iconst (v := 0) eX11_sum_50 rfl).run ?_
      refine (go_sub (L' := [some (.ref 88), some (.int x1), some (.int x2), some (.int x3), none, some (.int x5), some (.long 0), none, some (.long 0), none, none, none, none]) (lsub_keep (lsub_keep (lsub_keep (lsub_keep (lsub_drop (lsub_keep (lsub_keep (lsub_keep (lsub_keep (lsub_keep (lsub_keep (lsub_keep (lsub_keep lsub_nil)))))))))))))).run ?_
      first | exact hJh2 | (simp only [if_pos h2] at hJh2; exact hJh2) | (simp only [eq_true h2, not_true_eq_false, true_and, and_true, false_and, and_false, true_or, or_true, false_or, or_false, not_true_eq_false, not_false_eq_true] at hJh2; exact hJh2) | exact Run.eq (by simp [eq_true h2, not_true_eq_false, bI]) (by simp [eq_true h2, not_true_eq_false, bI]) rfl hJh2
    · refine (go_iconst (v := 1) eX11_sum_46 rfl).run ?_
      refine (go_goto 51 eX11_sum_47 rfl).run ?_
      refine (go_sub (L' := [some (.ref 88), some (.int x1), some (.int x2), some (.int x3), none, some (.int x5), some (.long 0), none, some (.long 0), none, none, none, none]) (lsub_keep (lsub_keep (lsub_keep (lsub_keep (lsub_drop (lsub_keep (lsub_keep (lsub_keep (lsub_keep (lsub_keep (lsub_keep (lsub_keep (lsub_keep lsub_nil)))))))))))))).run ?_
      first | exact hJh2 | (simp only [if_neg (h2)] at hJh2; exact hJh2) | (simp only [eq_false h2, not_false_eq_true, true_and, and_true, false_and, and_false, true_or, or_true, false_or, or_false, not_true_eq_false, not_false_eq_true] at hJh2; exact hJh2) | exact Run.eq (by simp [eq_false h2, not_false_eq_true, bI]) (by simp [eq_false h2, not_false_eq_true, bI]) rfl hJh2
  · refine (go_ldc2 csX11_207 eX11_sum_31).run ?_
    exact Run.ret (v := some (.long (-2))) (k2 h1) ⟨rfl, eX11_sum_34⟩ rfl

set_option maxRecDepth 20000 in
theorem bX11_sum_56 {d : Nat} {Q : Option Value → St → Prop} (x1 : Int32) (x2 : Int32) (x3 : Int32) (x5 : Int32) (x6 : Int64) (x8 : Int64) (x10 : Int32) (x11 : Int32) (σ : St) 
    (g1 : vp_in x1 8)
    (k1 : (σ.1 89 x1.toNatClampNeg) ≤ x11 → Q (some (.long (if x5 = 0 then x6 else x8))) σ)
    (k2 : x11 < (σ.1 89 x1.toNatClampNeg) → Run MX11_sum (d + 3) 56 [some (.ref 88), some (.int x1), some (.int x2), some (.int x3), none, some (.int x5), some (.long (x6 ||| (((((((x2 >>> (x11 &&& 31)) &&& 1) + ((x3 >>> (x11 &&& 31)) &&& 1)) + x10) &&& 1).toInt64) <<< (x11.toInt64 &&& 63)))), none, some (.long (x8 ||| (((((((x2 >>> (x11 &&& 31)) &&& 1) + ((x3 >>> (x11 &&& 31)) &&& 1)) + x10) >>> ((1 : Int32) &&& 31)).toInt64) <<< (x11.toInt64 &&& 63)))), none, some (.int (((((x2 >>> (x11 &&& 31)) &&& 1) + ((x3 >>> (x11 &&& 31)) &&& 1)) + x10) >>> ((1 : Int32) &&& 31))), some (.int (x11 + 1)), none] [] σ Q)
    : Run MX11_sum (d + 3) 56 [some (.ref 88), some (.int x1), some (.int x2), some (.int x3), none, some (.int x5), some (.long x6), none, some (.long x8), none, some (.int x10), some (.int x11), none] [] σ Q := by
  refine (go_iload 11 eX11_sum_56 rfl).run ?_
  refine (go_aload_n 0 eX11_sum_58 rfl rfl).run ?_
  refine (go_getr flX11_7 rf_10_1 kd_88 gr_88_1 eX11_sum_59).run ?_
  refine (go_iload_n 1 eX11_sum_62 rfl rfl).run ?_
  refine (go_iald kd_89 ln_89 g1 eX11_sum_63).run ?_
  refine (bi_ge 121 eX11_sum_64 rfl).run (fun h1 => ?_) (fun h1 => ?_)
  · refine (go_iload 5 eX11_sum_121 rfl).run ?_
    have hJh2 : Run MX11_sum (d + 3) 133 [none, none, none, none, none, none, none, none, none, none, none, none, none] [.long (if x5 = 0 then x6 else x8)] σ Q := by
      exact Run.ret (v := some (.long (if x5 = 0 then x6 else x8))) (k1 h1) ⟨rfl, eX11_sum_133⟩ rfl
    refine (bz_ne 131 eX11_sum_123 rfl).run (fun h2 => ?_) (fun h2 => ?_)
    · refine (go_lload 8 eX11_sum_131 rfl).run ?_
      refine (go_sub (L' := [none, none, none, none, none, none, none, none, none, none, none, none, none]) (lsub_drop (lsub_drop (lsub_drop (lsub_drop (lsub_keep (lsub_drop (lsub_drop (lsub_keep (lsub_drop (lsub_keep (lsub_drop (lsub_drop (lsub_keep lsub_nil)))))))))))))).run ?_
      first | exact hJh2 | (simp only [if_neg (h2)] at hJh2; exact hJh2) | (simp only [eq_false h2, not_false_eq_true, true_and, and_true, false_and, and_false, true_or, or_true, false_or, or_false, not_true_eq_false, not_false_eq_true] at hJh2; exact hJh2) | exact Run.eq (by simp [eq_false h2, not_false_eq_true, bI]) (by simp [eq_false h2, not_false_eq_true, bI]) rfl hJh2
    · refine (go_lload 6 eX11_sum_126 rfl).run ?_
      refine (go_goto 133 eX11_sum_128 rfl).run ?_
      refine (go_sub (L' := [none, none, none, none, none, none, none, none, none, none, none, none, none]) (lsub_drop (lsub_drop (lsub_drop (lsub_drop (lsub_keep (lsub_drop (lsub_drop (lsub_keep (lsub_drop (lsub_keep (lsub_drop (lsub_drop (lsub_keep lsub_nil)))))))))))))).run ?_
      first | exact hJh2 | (simp only [if_pos h2] at hJh2; exact hJh2) | (simp only [eq_true h2, not_true_eq_false, true_and, and_true, false_and, and_false, true_or, or_true, false_or, or_false, not_true_eq_false, not_false_eq_true] at hJh2; exact hJh2) | exact Run.eq (by simp [eq_true h2, not_true_eq_false, bI]) (by simp [eq_true h2, not_true_eq_false, bI]) rfl hJh2
  · refine (go_iload_n 2 eX11_sum_67 rfl rfl).run ?_
    refine (go_iload 11 eX11_sum_68 rfl).run ?_
    refine (go_ishr eX11_sum_70).run ?_
    refine (go_iconst (v := 1) eX11_sum_71 rfl).run ?_
    refine (go_iand eX11_sum_72).run ?_
    refine (go_iload_n 3 eX11_sum_73 rfl rfl).run ?_
    refine (go_iload 11 eX11_sum_74 rfl).run ?_
    refine (go_ishr eX11_sum_76).run ?_
    refine (go_iconst (v := 1) eX11_sum_77 rfl).run ?_
    refine (go_iand eX11_sum_78).run ?_
    refine (go_iadd eX11_sum_79).run ?_
    refine (go_iload 10 eX11_sum_80 rfl).run ?_
    refine (go_iadd eX11_sum_82).run ?_
    refine (go_istore 12 (L' := [some (.ref 88), some (.int x1), some (.int x2), some (.int x3), none, some (.int x5), some (.long x6), none, some (.long x8), none, some (.int x10), some (.int x11), some (.int ((((x2 >>> (x11 &&& 31)) &&& 1) + ((x3 >>> (x11 &&& 31)) &&& 1)) + x10))]) eX11_sum_83 (Nat.le_of_ble_eq_true rfl) rfl).run ?_
    refine (go_lload 6 eX11_sum_85 rfl).run ?_
    refine (go_iload 12 eX11_sum_87 rfl).run ?_
    refine (go_iconst (v := 1) eX11_sum_89 rfl).run ?_
    refine (go_iand eX11_sum_90).run ?_
    refine (go_i2l eX11_sum_91).run ?_
    refine (go_iload 11 eX11_sum_92 rfl).run ?_
    refine (go_lshl eX11_sum_94).run ?_
    refine (go_lor eX11_sum_95).run ?_
    refine (go_lstore 6 (L' := [some (.ref 88), some (.int x1), some (.int x2), some (.int x3), none, some (.int x5), some (.long (x6 ||| (((((((x2 >>> (x11 &&& 31)) &&& 1) + ((x3 >>> (x11 &&& 31)) &&& 1)) + x10) &&& 1).toInt64) <<< (x11.toInt64 &&& 63)))), none, some (.long x8), none, some (.int x10), some (.int x11), some (.int ((((x2 >>> (x11 &&& 31)) &&& 1) + ((x3 >>> (x11 &&& 31)) &&& 1)) + x10))]) eX11_sum_96 (Nat.le_of_ble_eq_true rfl) rfl).run ?_
    refine (go_iload 12 eX11_sum_98 rfl).run ?_
    refine (go_iconst (v := 1) eX11_sum_100 rfl).run ?_
    refine (go_ishr eX11_sum_101).run ?_
    refine (go_istore 10 (L' := [some (.ref 88), some (.int x1), some (.int x2), some (.int x3), none, some (.int x5), some (.long (x6 ||| (((((((x2 >>> (x11 &&& 31)) &&& 1) + ((x3 >>> (x11 &&& 31)) &&& 1)) + x10) &&& 1).toInt64) <<< (x11.toInt64 &&& 63)))), none, some (.long x8), none, some (.int (((((x2 >>> (x11 &&& 31)) &&& 1) + ((x3 >>> (x11 &&& 31)) &&& 1)) + x10) >>> ((1 : Int32) &&& 31))), some (.int x11), some (.int ((((x2 >>> (x11 &&& 31)) &&& 1) + ((x3 >>> (x11 &&& 31)) &&& 1)) + x10))]) eX11_sum_102 (Nat.le_of_ble_eq_true rfl) rfl).run ?_
    refine (go_lload 8 eX11_sum_104 rfl).run ?_
    refine (go_iload 10 eX11_sum_106 rfl).run ?_
    refine (go_i2l eX11_sum_108).run ?_
    refine (go_iload 11 eX11_sum_109 rfl).run ?_
    refine (go_lshl eX11_sum_111).run ?_
    refine (go_lor eX11_sum_112).run ?_
    refine (go_lstore 8 (L' := [some (.ref 88), some (.int x1), some (.int x2), some (.int x3), none, some (.int x5), some (.long (x6 ||| (((((((x2 >>> (x11 &&& 31)) &&& 1) + ((x3 >>> (x11 &&& 31)) &&& 1)) + x10) &&& 1).toInt64) <<< (x11.toInt64 &&& 63)))), none, some (.long (x8 ||| (((((((x2 >>> (x11 &&& 31)) &&& 1) + ((x3 >>> (x11 &&& 31)) &&& 1)) + x10) >>> ((1 : Int32) &&& 31)).toInt64) <<< (x11.toInt64 &&& 63)))), none, some (.int (((((x2 >>> (x11 &&& 31)) &&& 1) + ((x3 >>> (x11 &&& 31)) &&& 1)) + x10) >>> ((1 : Int32) &&& 31))), some (.int x11), some (.int ((((x2 >>> (x11 &&& 31)) &&& 1) + ((x3 >>> (x11 &&& 31)) &&& 1)) + x10))]) eX11_sum_113 (Nat.le_of_ble_eq_true rfl) rfl).run ?_
    refine (go_iinc 11 (v := (x11 + 1)) (L' := [some (.ref 88), some (.int x1), some (.int x2), some (.int x3), none, some (.int x5), some (.long (x6 ||| (((((((x2 >>> (x11 &&& 31)) &&& 1) + ((x3 >>> (x11 &&& 31)) &&& 1)) + x10) &&& 1).toInt64) <<< (x11.toInt64 &&& 63)))), none, some (.long (x8 ||| (((((((x2 >>> (x11 &&& 31)) &&& 1) + ((x3 >>> (x11 &&& 31)) &&& 1)) + x10) >>> ((1 : Int32) &&& 31)).toInt64) <<< (x11.toInt64 &&& 63)))), none, some (.int (((((x2 >>> (x11 &&& 31)) &&& 1) + ((x3 >>> (x11 &&& 31)) &&& 1)) + x10) >>> ((1 : Int32) &&& 31))), some (.int (x11 + 1)), some (.int ((((x2 >>> (x11 &&& 31)) &&& 1) + ((x3 >>> (x11 &&& 31)) &&& 1)) + x10))]) eX11_sum_115 rfl rfl (Nat.le_of_ble_eq_true rfl) rfl).run ?_
    refine (go_goto 56 eX11_sum_118 rfl).run ?_
    refine (go_sub (L' := [some (.ref 88), some (.int x1), some (.int x2), some (.int x3), none, some (.int x5), some (.long (x6 ||| (((((((x2 >>> (x11 &&& 31)) &&& 1) + ((x3 >>> (x11 &&& 31)) &&& 1)) + x10) &&& 1).toInt64) <<< (x11.toInt64 &&& 63)))), none, some (.long (x8 ||| (((((((x2 >>> (x11 &&& 31)) &&& 1) + ((x3 >>> (x11 &&& 31)) &&& 1)) + x10) >>> ((1 : Int32) &&& 31)).toInt64) <<< (x11.toInt64 &&& 63)))), none, some (.int (((((x2 >>> (x11 &&& 31)) &&& 1) + ((x3 >>> (x11 &&& 31)) &&& 1)) + x10) >>> ((1 : Int32) &&& 31))), some (.int (x11 + 1)), none]) (lsub_keep (lsub_keep (lsub_keep (lsub_keep (lsub_keep (lsub_keep (lsub_keep (lsub_keep (lsub_keep (lsub_keep (lsub_keep (lsub_keep (lsub_drop lsub_nil)))))))))))))).run ?_
    exact (k2 h1)

/-! CarryNetsModel.spansOf -/
theorem eX11_spansOf_0 : decode MX11_spansOf.2.1 0 = .ok (.iload_n 1, 1) := by decide +kernel
theorem eX11_spansOf_1 : decode MX11_spansOf.2.1 1 = .ok (.istore_n 3, 1) := by decide +kernel
theorem eX11_spansOf_2 : decode MX11_spansOf.2.1 2 = .ok (.iconst 0, 1) := by decide +kernel
theorem eX11_spansOf_3 : decode MX11_spansOf.2.1 3 = .ok (.istore 4, 2) := by decide +kernel
theorem eX11_spansOf_5 : decode MX11_spansOf.2.1 5 = .ok (.iload 4, 2) := by decide +kernel
theorem eX11_spansOf_7 : decode MX11_spansOf.2.1 7 = .ok (.iload_n 2, 1) := by decide +kernel
theorem eX11_spansOf_8 : decode MX11_spansOf.2.1 8 = .ok (.if_icmp .ge 29, 3) := by decide +kernel
theorem eX11_spansOf_11 : decode MX11_spansOf.2.1 11 = .ok (.aload_n 0, 1) := by decide +kernel
theorem eX11_spansOf_12 : decode MX11_spansOf.2.1 12 = .ok (.getfield 30, 3) := by decide +kernel
theorem eX11_spansOf_15 : decode MX11_spansOf.2.1 15 = .ok (.iload 4, 2) := by decide +kernel
theorem eX11_spansOf_17 : decode MX11_spansOf.2.1 17 = .ok (.iload_n 3, 1) := by decide +kernel
theorem eX11_spansOf_18 : decode MX11_spansOf.2.1 18 = .ok (.iload 4, 2) := by decide +kernel
theorem eX11_spansOf_20 : decode MX11_spansOf.2.1 20 = .ok (.iconst 1, 1) := by decide +kernel
theorem eX11_spansOf_21 : decode MX11_spansOf.2.1 21 = .ok (.iadd, 1) := by decide +kernel
theorem eX11_spansOf_22 : decode MX11_spansOf.2.1 22 = .ok (.irem, 1) := by decide +kernel
theorem eX11_spansOf_23 : decode MX11_spansOf.2.1 23 = .ok (.iastore, 1) := by decide +kernel
theorem eX11_spansOf_24 : decode MX11_spansOf.2.1 24 = .ok (.iload_n 3, 1) := by decide +kernel
theorem eX11_spansOf_25 : decode MX11_spansOf.2.1 25 = .ok (.iload 4, 2) := by decide +kernel
theorem eX11_spansOf_27 : decode MX11_spansOf.2.1 27 = .ok (.iconst 1, 1) := by decide +kernel
theorem eX11_spansOf_28 : decode MX11_spansOf.2.1 28 = .ok (.iadd, 1) := by decide +kernel
theorem eX11_spansOf_29 : decode MX11_spansOf.2.1 29 = .ok (.idiv, 1) := by decide +kernel
theorem eX11_spansOf_30 : decode MX11_spansOf.2.1 30 = .ok (.istore_n 3, 1) := by decide +kernel
theorem eX11_spansOf_31 : decode MX11_spansOf.2.1 31 = .ok (.iinc 4 1, 3) := by decide +kernel
theorem eX11_spansOf_34 : decode MX11_spansOf.2.1 34 = .ok (.goto (-29), 3) := by decide +kernel
theorem eX11_spansOf_37 : decode MX11_spansOf.2.1 37 = .ok (.return_, 1) := by decide +kernel
set_option maxRecDepth 20000 in
theorem bX11_spansOf_0 {d : Nat} {Q : Option Value → St → Prop} (x1 : Int32) (x2 : Int32) (σ : St) 
    (k1 : Run MX11_spansOf d 5 [some (.ref 88), none, some (.int x2), some (.int x1), some (.int 0)] [] σ Q)
    : Run MX11_spansOf d 0 [some (.ref 88), some (.int x1), some (.int x2), none, none] [] σ Q := by
  refine (go_iload_n 1 eX11_spansOf_0 rfl rfl).run ?_
  refine (go_istore_n 3 (L' := [some (.ref 88), some (.int x1), some (.int x2), some (.int x1), none]) eX11_spansOf_1 rfl (Nat.le_of_ble_eq_true rfl) rfl).run ?_
  refine (go_iconst (v := 0) eX11_spansOf_2 rfl).run ?_
  refine (go_istore 4 (L' := [some (.ref 88), some (.int x1), some (.int x2), some (.int x1), some (.int 0)]) eX11_spansOf_3 (Nat.le_of_ble_eq_true rfl) rfl).run ?_
  refine (go_sub (L' := [some (.ref 88), none, some (.int x2), some (.int x1), some (.int 0)]) (lsub_keep (lsub_drop (lsub_keep (lsub_keep (lsub_keep lsub_nil)))))).run ?_
  exact k1

set_option maxRecDepth 20000 in
theorem bX11_spansOf_5 {d : Nat} {Q : Option Value → St → Prop} (x2 : Int32) (x3 : Int32) (x4 : Int32) (σ : St) 
    (g1 : x4 < x2 → ¬ (x4 + 1) = 0)
    (g2 : x4 < x2 → vp_in x4 32)
    (k1 : x2 ≤ x4 → Q (none) σ)
    (k2 : x4 < x2 → Run MX11_spansOf d 5 [some (.ref 88), none, some (.int x2), some (.int (x3 / (x4 + 1))), some (.int (x4 + 1))] [] (sA σ 93 (upd (σ.1 93) x4.toNatClampNeg (x3 - x3 / (x4 + 1) * (x4 + 1)))) Q)
    : Run MX11_spansOf d 5 [some (.ref 88), none, some (.int x2), some (.int x3), some (.int x4)] [] σ Q := by
  refine (go_iload 4 eX11_spansOf_5 rfl).run ?_
  refine (go_iload_n 2 eX11_spansOf_7 rfl rfl).run ?_
  refine (bi_ge 37 eX11_spansOf_8 rfl).run (fun h1 => ?_) (fun h1 => ?_)
  · exact Run.ret (v := none) (k1 h1) ⟨rfl, eX11_spansOf_37⟩ rfl
  · refine (go_aload_n 0 eX11_spansOf_11 rfl rfl).run ?_
    refine (go_getr flX11_30 rf_10_7 kd_88 gr_88_7 eX11_spansOf_12).run ?_
    refine (go_iload 4 eX11_spansOf_15 rfl).run ?_
    refine (go_iload_n 3 eX11_spansOf_17 rfl rfl).run ?_
    refine (go_iload 4 eX11_spansOf_18 rfl).run ?_
    refine (go_iconst (v := 1) eX11_spansOf_20 rfl).run ?_
    refine (go_iadd eX11_spansOf_21).run ?_
    refine (go_irem eX11_spansOf_22 (g1 h1)).run ?_
    refine (go_iast kd_93 ln_93 (g2 h1) eX11_spansOf_23).run ?_
    refine (go_iload_n 3 eX11_spansOf_24 rfl rfl).run ?_
    refine (go_iload 4 eX11_spansOf_25 rfl).run ?_
    refine (go_iconst (v := 1) eX11_spansOf_27 rfl).run ?_
    refine (go_iadd eX11_spansOf_28).run ?_
    refine (go_idiv eX11_spansOf_29 (g1 h1)).run ?_
    refine (go_istore_n 3 (L' := [some (.ref 88), none, some (.int x2), some (.int (x3 / (x4 + 1))), some (.int x4)]) eX11_spansOf_30 rfl (Nat.le_of_ble_eq_true rfl) rfl).run ?_
    refine (go_iinc 4 (v := (x4 + 1)) (L' := [some (.ref 88), none, some (.int x2), some (.int (x3 / (x4 + 1))), some (.int (x4 + 1))]) eX11_spansOf_31 rfl rfl (Nat.le_of_ble_eq_true rfl) rfl).run ?_
    refine (go_goto 5 eX11_spansOf_34 rfl).run ?_
    exact (k2 h1)

/-! CarryNetsModel.behind -/
theorem eX11_behind_0 : decode MX11_behind.2.1 0 = .ok (.iconst 1, 1) := by decide +kernel
theorem eX11_behind_1 : decode MX11_behind.2.1 1 = .ok (.istore 4, 2) := by decide +kernel
theorem eX11_behind_3 : decode MX11_behind.2.1 3 = .ok (.iconst 0, 1) := by decide +kernel
theorem eX11_behind_4 : decode MX11_behind.2.1 4 = .ok (.istore 5, 2) := by decide +kernel
theorem eX11_behind_6 : decode MX11_behind.2.1 6 = .ok (.iload 5, 2) := by decide +kernel
theorem eX11_behind_8 : decode MX11_behind.2.1 8 = .ok (.iload_n 2, 1) := by decide +kernel
theorem eX11_behind_9 : decode MX11_behind.2.1 9 = .ok (.if_icmp .ge 17, 3) := by decide +kernel
theorem eX11_behind_12 : decode MX11_behind.2.1 12 = .ok (.aload_n 0, 1) := by decide +kernel
theorem eX11_behind_13 : decode MX11_behind.2.1 13 = .ok (.getfield 61, 3) := by decide +kernel
theorem eX11_behind_16 : decode MX11_behind.2.1 16 = .ok (.iload 5, 2) := by decide +kernel
theorem eX11_behind_18 : decode MX11_behind.2.1 18 = .ok (.iconst 0, 1) := by decide +kernel
theorem eX11_behind_19 : decode MX11_behind.2.1 19 = .ok (.iastore, 1) := by decide +kernel
theorem eX11_behind_20 : decode MX11_behind.2.1 20 = .ok (.iinc 5 1, 3) := by decide +kernel
theorem eX11_behind_23 : decode MX11_behind.2.1 23 = .ok (.goto (-17), 3) := by decide +kernel
theorem eX11_behind_26 : decode MX11_behind.2.1 26 = .ok (.iconst 0, 1) := by decide +kernel
theorem eX11_behind_27 : decode MX11_behind.2.1 27 = .ok (.istore 5, 2) := by decide +kernel
theorem eX11_behind_29 : decode MX11_behind.2.1 29 = .ok (.iconst 1, 1) := by decide +kernel
theorem eX11_behind_30 : decode MX11_behind.2.1 30 = .ok (.istore 6, 2) := by decide +kernel
theorem eX11_behind_32 : decode MX11_behind.2.1 32 = .ok (.iconst 0, 1) := by decide +kernel
theorem eX11_behind_33 : decode MX11_behind.2.1 33 = .ok (.istore 7, 2) := by decide +kernel
theorem eX11_behind_35 : decode MX11_behind.2.1 35 = .ok (.iload 7, 2) := by decide +kernel
theorem eX11_behind_37 : decode MX11_behind.2.1 37 = .ok (.iload_n 2, 1) := by decide +kernel
theorem eX11_behind_38 : decode MX11_behind.2.1 38 = .ok (.if_icmp .ge 113, 3) := by decide +kernel
theorem eX11_behind_41 : decode MX11_behind.2.1 41 = .ok (.aload_n 0, 1) := by decide +kernel
theorem eX11_behind_42 : decode MX11_behind.2.1 42 = .ok (.getfield 30, 3) := by decide +kernel
theorem eX11_behind_45 : decode MX11_behind.2.1 45 = .ok (.iload 7, 2) := by decide +kernel
theorem eX11_behind_47 : decode MX11_behind.2.1 47 = .ok (.iaload, 1) := by decide +kernel
theorem eX11_behind_48 : decode MX11_behind.2.1 48 = .ok (.istore 8, 2) := by decide +kernel
theorem eX11_behind_50 : decode MX11_behind.2.1 50 = .ok (.iload_n 1, 1) := by decide +kernel
theorem eX11_behind_51 : decode MX11_behind.2.1 51 = .ok (.iload 7, 2) := by decide +kernel
theorem eX11_behind_53 : decode MX11_behind.2.1 53 = .ok (.ishr, 1) := by decide +kernel
theorem eX11_behind_54 : decode MX11_behind.2.1 54 = .ok (.iconst 1, 1) := by decide +kernel
theorem eX11_behind_55 : decode MX11_behind.2.1 55 = .ok (.iand, 1) := by decide +kernel
theorem eX11_behind_56 : decode MX11_behind.2.1 56 = .ok (.iconst 1, 1) := by decide +kernel
theorem eX11_behind_57 : decode MX11_behind.2.1 57 = .ok (.if_icmp .ne 69, 3) := by decide +kernel
theorem eX11_behind_60 : decode MX11_behind.2.1 60 = .ok (.iload 4, 2) := by decide +kernel
theorem eX11_behind_62 : decode MX11_behind.2.1 62 = .ok (.ifCond .eq 12, 3) := by decide +kernel
theorem eX11_behind_65 : decode MX11_behind.2.1 65 = .ok (.iload 8, 2) := by decide +kernel
theorem eX11_behind_67 : decode MX11_behind.2.1 67 = .ok (.ifCond .le 7, 3) := by decide +kernel
theorem eX11_behind_70 : decode MX11_behind.2.1 70 = .ok (.iconst 1, 1) := by decide +kernel
theorem eX11_behind_71 : decode MX11_behind.2.1 71 = .ok (.goto 4, 3) := by decide +kernel
theorem eX11_behind_74 : decode MX11_behind.2.1 74 = .ok (.iconst 0, 1) := by decide +kernel
theorem eX11_behind_75 : decode MX11_behind.2.1 75 = .ok (.istore 4, 2) := by decide +kernel
theorem eX11_behind_77 : decode MX11_behind.2.1 77 = .ok (.iload 4, 2) := by decide +kernel
theorem eX11_behind_79 : decode MX11_behind.2.1 79 = .ok (.ifCond .eq 47, 3) := by decide +kernel
theorem eX11_behind_82 : decode MX11_behind.2.1 82 = .ok (.aload_n 0, 1) := by decide +kernel
theorem eX11_behind_83 : decode MX11_behind.2.1 83 = .ok (.getfield 61, 3) := by decide +kernel
theorem eX11_behind_86 : decode MX11_behind.2.1 86 = .ok (.iload 8, 2) := by decide +kernel
theorem eX11_behind_88 : decode MX11_behind.2.1 88 = .ok (.iconst 1, 1) := by decide +kernel
theorem eX11_behind_89 : decode MX11_behind.2.1 89 = .ok (.isub, 1) := by decide +kernel
theorem eX11_behind_90 : decode MX11_behind.2.1 90 = .ok (.dup2, 1) := by decide +kernel
theorem eX11_behind_91 : decode MX11_behind.2.1 91 = .ok (.iaload, 1) := by decide +kernel
theorem eX11_behind_92 : decode MX11_behind.2.1 92 = .ok (.iconst 1, 1) := by decide +kernel
theorem eX11_behind_93 : decode MX11_behind.2.1 93 = .ok (.iadd, 1) := by decide +kernel
theorem eX11_behind_94 : decode MX11_behind.2.1 94 = .ok (.iastore, 1) := by decide +kernel
theorem eX11_behind_95 : decode MX11_behind.2.1 95 = .ok (.aload_n 0, 1) := by decide +kernel
theorem eX11_behind_96 : decode MX11_behind.2.1 96 = .ok (.getfield 61, 3) := by decide +kernel
theorem eX11_behind_99 : decode MX11_behind.2.1 99 = .ok (.iload 8, 2) := by decide +kernel
theorem eX11_behind_101 : decode MX11_behind.2.1 101 = .ok (.iconst 1, 1) := by decide +kernel
theorem eX11_behind_102 : decode MX11_behind.2.1 102 = .ok (.isub, 1) := by decide +kernel
theorem eX11_behind_103 : decode MX11_behind.2.1 103 = .ok (.iaload, 1) := by decide +kernel
theorem eX11_behind_104 : decode MX11_behind.2.1 104 = .ok (.iload_n 3, 1) := by decide +kernel
theorem eX11_behind_105 : decode MX11_behind.2.1 105 = .ok (.if_icmp .gt 7, 3) := by decide +kernel
theorem eX11_behind_108 : decode MX11_behind.2.1 108 = .ok (.iconst 1, 1) := by decide +kernel
theorem eX11_behind_109 : decode MX11_behind.2.1 109 = .ok (.goto 4, 3) := by decide +kernel
theorem eX11_behind_112 : decode MX11_behind.2.1 112 = .ok (.iconst 0, 1) := by decide +kernel
theorem eX11_behind_113 : decode MX11_behind.2.1 113 = .ok (.istore 4, 2) := by decide +kernel
theorem eX11_behind_115 : decode MX11_behind.2.1 115 = .ok (.aload_n 0, 1) := by decide +kernel
theorem eX11_behind_116 : decode MX11_behind.2.1 116 = .ok (.getfield 30, 3) := by decide +kernel
theorem eX11_behind_119 : decode MX11_behind.2.1 119 = .ok (.iload 8, 2) := by decide +kernel
theorem eX11_behind_121 : decode MX11_behind.2.1 121 = .ok (.iconst 1, 1) := by decide +kernel
theorem eX11_behind_122 : decode MX11_behind.2.1 122 = .ok (.isub, 1) := by decide +kernel
theorem eX11_behind_123 : decode MX11_behind.2.1 123 = .ok (.iaload, 1) := by decide +kernel
theorem eX11_behind_124 : decode MX11_behind.2.1 124 = .ok (.istore 8, 2) := by decide +kernel
theorem eX11_behind_126 : decode MX11_behind.2.1 126 = .ok (.iload 5, 2) := by decide +kernel
theorem eX11_behind_128 : decode MX11_behind.2.1 128 = .ok (.iload 6, 2) := by decide +kernel
theorem eX11_behind_130 : decode MX11_behind.2.1 130 = .ok (.iload 8, 2) := by decide +kernel
theorem eX11_behind_132 : decode MX11_behind.2.1 132 = .ok (.imul, 1) := by decide +kernel
theorem eX11_behind_133 : decode MX11_behind.2.1 133 = .ok (.iadd, 1) := by decide +kernel
theorem eX11_behind_134 : decode MX11_behind.2.1 134 = .ok (.istore 5, 2) := by decide +kernel
theorem eX11_behind_136 : decode MX11_behind.2.1 136 = .ok (.iload 6, 2) := by decide +kernel
theorem eX11_behind_138 : decode MX11_behind.2.1 138 = .ok (.iload 7, 2) := by decide +kernel
theorem eX11_behind_140 : decode MX11_behind.2.1 140 = .ok (.iconst 1, 1) := by decide +kernel
theorem eX11_behind_141 : decode MX11_behind.2.1 141 = .ok (.iadd, 1) := by decide +kernel
theorem eX11_behind_142 : decode MX11_behind.2.1 142 = .ok (.imul, 1) := by decide +kernel
theorem eX11_behind_143 : decode MX11_behind.2.1 143 = .ok (.istore 6, 2) := by decide +kernel
theorem eX11_behind_145 : decode MX11_behind.2.1 145 = .ok (.iinc 7 1, 3) := by decide +kernel
theorem eX11_behind_148 : decode MX11_behind.2.1 148 = .ok (.goto (-113), 3) := by decide +kernel
theorem eX11_behind_151 : decode MX11_behind.2.1 151 = .ok (.iload 4, 2) := by decide +kernel
theorem eX11_behind_153 : decode MX11_behind.2.1 153 = .ok (.ifCond .eq 8, 3) := by decide +kernel
theorem eX11_behind_156 : decode MX11_behind.2.1 156 = .ok (.iload 5, 2) := by decide +kernel
theorem eX11_behind_158 : decode MX11_behind.2.1 158 = .ok (.goto 5, 3) := by decide +kernel
theorem eX11_behind_161 : decode MX11_behind.2.1 161 = .ok (.bipush (-4), 2) := by decide +kernel
theorem eX11_behind_163 : decode MX11_behind.2.1 163 = .ok (.ireturn, 1) := by decide +kernel
set_option maxRecDepth 20000 in
theorem bX11_behind_0 {d : Nat} {Q : Option Value → St → Prop} (x1 : Int32) (x2 : Int32) (x3 : Int32) (σ : St) 
    (k1 : Run MX11_behind d 6 [some (.ref 88), some (.int x1), some (.int x2), some (.int x3), some (.int 1), some (.int 0), none, none, none] [] σ Q)
    : Run MX11_behind d 0 [some (.ref 88), some (.int x1), some (.int x2), some (.int x3), none, none, none, none, none] [] σ Q := by
  refine (go_iconst (v := 1) eX11_behind_0 rfl).run ?_
  refine (go_istore 4 (L' := [some (.ref 88), some (.int x1), some (.int x2), some (.int x3), some (.int 1), none, none, none, none]) eX11_behind_1 (Nat.le_of_ble_eq_true rfl) rfl).run ?_
  refine (go_iconst (v := 0) eX11_behind_3 rfl).run ?_
  refine (go_istore 5 (L' := [some (.ref 88), some (.int x1), some (.int x2), some (.int x3), some (.int 1), some (.int 0), none, none, none]) eX11_behind_4 (Nat.le_of_ble_eq_true rfl) rfl).run ?_
  exact k1

set_option maxRecDepth 20000 in
theorem bX11_behind_6 {d : Nat} {Q : Option Value → St → Prop} (x1 : Int32) (x2 : Int32) (x3 : Int32) (x4 : Int32) (x5 : Int32) (σ : St) 
    (g1 : x5 < x2 → vp_in x5 7)
    (k1 : x2 ≤ x5 → Run MX11_behind d 35 [some (.ref 88), some (.int x1), some (.int x2), some (.int x3), some (.int x4), some (.int 0), some (.int 1), some (.int 0), none] [] σ Q)
    (k2 : x5 < x2 → Run MX11_behind d 6 [some (.ref 88), some (.int x1), some (.int x2), some (.int x3), some (.int x4), some (.int (x5 + 1)), none, none, none] [] (sA σ 101 (upd (σ.1 101) x5.toNatClampNeg 0)) Q)
    : Run MX11_behind d 6 [some (.ref 88), some (.int x1), some (.int x2), some (.int x3), some (.int x4), some (.int x5), none, none, none] [] σ Q := by
  refine (go_iload 5 eX11_behind_6 rfl).run ?_
  refine (go_iload_n 2 eX11_behind_8 rfl rfl).run ?_
  refine (bi_ge 26 eX11_behind_9 rfl).run (fun h1 => ?_) (fun h1 => ?_)
  · refine (go_iconst (v := 0) eX11_behind_26 rfl).run ?_
    refine (go_istore 5 (L' := [some (.ref 88), some (.int x1), some (.int x2), some (.int x3), some (.int x4), some (.int 0), none, none, none]) eX11_behind_27 (Nat.le_of_ble_eq_true rfl) rfl).run ?_
    refine (go_iconst (v := 1) eX11_behind_29 rfl).run ?_
    refine (go_istore 6 (L' := [some (.ref 88), some (.int x1), some (.int x2), some (.int x3), some (.int x4), some (.int 0), some (.int 1), none, none]) eX11_behind_30 (Nat.le_of_ble_eq_true rfl) rfl).run ?_
    refine (go_iconst (v := 0) eX11_behind_32 rfl).run ?_
    refine (go_istore 7 (L' := [some (.ref 88), some (.int x1), some (.int x2), some (.int x3), some (.int x4), some (.int 0), some (.int 1), some (.int 0), none]) eX11_behind_33 (Nat.le_of_ble_eq_true rfl) rfl).run ?_
    exact (k1 h1)
  · refine (go_aload_n 0 eX11_behind_12 rfl rfl).run ?_
    refine (go_getr flX11_61 rf_10_25 kd_88 gr_88_25 eX11_behind_13).run ?_
    refine (go_iload 5 eX11_behind_16 rfl).run ?_
    refine (go_iconst (v := 0) eX11_behind_18 rfl).run ?_
    refine (go_iast kd_101 ln_101 (g1 h1) eX11_behind_19).run ?_
    refine (go_iinc 5 (v := (x5 + 1)) (L' := [some (.ref 88), some (.int x1), some (.int x2), some (.int x3), some (.int x4), some (.int (x5 + 1)), none, none, none]) eX11_behind_20 rfl rfl (Nat.le_of_ble_eq_true rfl) rfl).run ?_
    refine (go_goto 6 eX11_behind_23 rfl).run ?_
    exact (k2 h1)

set_option maxRecDepth 20000 in
theorem bX11_behind_35 {d : Nat} {Q : Option Value → St → Prop} (x1 : Int32) (x2 : Int32) (x3 : Int32) (x4 : Int32) (x5 : Int32) (x6 : Int32) (x7 : Int32) (σ : St) 
    (g1 : x7 < x2 → vp_in x7 32)
    (g2 : x7 < x2 → ((x1 >>> (x7 &&& 31)) &&& 1) = 1 → ((¬ x4 = 0) ∧ (0 : Int32) < (σ.1 93 x7.toNatClampNeg)) → vp_in ((σ.1 93 x7.toNatClampNeg) - 1) 7)
    (g3 : x7 < x2 → ((x1 >>> (x7 &&& 31)) &&& 1) = 1 → ((¬ x4 = 0) ∧ (0 : Int32) < (σ.1 93 x7.toNatClampNeg)) → vp_in ((σ.1 93 x7.toNatClampNeg) - 1) 32)
    (k1 : x2 ≤ x7 → Q (some (.int (if x4 = 0 then (-4 : Int32) else x5))) σ)
    (k2 : x7 < x2 → ¬ ((x1 >>> (x7 &&& 31)) &&& 1) = 1 → Run MX11_behind d 35 [some (.ref 88), some (.int x1), some (.int x2), some (.int x3), some (.int x4), some (.int (x5 + (x6 * (σ.1 93 x7.toNatClampNeg)))), some (.int (x6 * (x7 + 1))), some (.int (x7 + 1)), none] [] σ Q)
    (k3 : x7 < x2 → ((x1 >>> (x7 &&& 31)) &&& 1) = 1 → (¬ ((¬ x4 = 0) ∧ (0 : Int32) < (σ.1 93 x7.toNatClampNeg))) → Run MX11_behind d 35 [some (.ref 88), some (.int x1), some (.int x2), some (.int x3), some (.int (bI ((¬ x4 = 0) ∧ (0 : Int32) < (σ.1 93 x7.toNatClampNeg)))), some (.int (x5 + (x6 * (σ.1 93 x7.toNatClampNeg)))), some (.int (x6 * (x7 + 1))), some (.int (x7 + 1)), none] [] σ Q)
    (k4 : x7 < x2 → ((x1 >>> (x7 &&& 31)) &&& 1) = 1 → ((¬ x4 = 0) ∧ (0 : Int32) < (σ.1 93 x7.toNatClampNeg)) → Run MX11_behind d 35 [some (.ref 88), some (.int x1), some (.int x2), some (.int x3), some (.int (bI (((upd (σ.1 101) ((σ.1 93 x7.toNatClampNeg) - 1).toNatClampNeg ((σ.1 101 ((σ.1 93 x7.toNatClampNeg) - 1).toNatClampNeg) + 1)) ((σ.1 93 x7.toNatClampNeg) - 1).toNatClampNeg) ≤ x3))), some (.int (x5 + (x6 * (σ.1 93 ((σ.1 93 x7.toNatClampNeg) - 1).toNatClampNeg)))), some (.int (x6 * (x7 + 1))), some (.int (x7 + 1)), none] [] (sA σ 101 (upd (σ.1 101) ((σ.1 93 x7.toNatClampNeg) - 1).toNatClampNeg ((σ.1 101 ((σ.1 93 x7.toNatClampNeg) - 1).toNatClampNeg) + 1))) Q)
    : Run MX11_behind d 35 [some (.ref 88), some (.int x1), some (.int x2), some (.int x3), some (.int x4), some (.int x5), some (.int x6), some (.int x7), none] [] σ Q := by
  refine (go_iload 7 eX11_behind_35 rfl).run ?_
  refine (go_iload_n 2 eX11_behind_37 rfl rfl).run ?_
  refine (bi_ge 151 eX11_behind_38 rfl).run (fun h1 => ?_) (fun h1 => ?_)
  · refine (go_iload 4 eX11_behind_151 rfl).run ?_
    have hJh2 : Run MX11_behind d 163 [none, none, none, none, none, none, none, none, none] [.int (if x4 = 0 then (-4 : Int32) else x5)] σ Q := by
      exact Run.ret (v := some (.int (if x4 = 0 then (-4 : Int32) else x5))) (k1 h1) ⟨Or.inl rfl, eX11_behind_163⟩ rfl
    refine (bz_eq 161 eX11_behind_153 rfl).run (fun h2 => ?_) (fun h2 => ?_)
    · refine (go_bipush (v := -4) eX11_behind_161 rfl).run ?_
      refine (go_sub (L' := [none, none, none, none, none, none, none, none, none]) (lsub_drop (lsub_drop (lsub_drop (lsub_drop (lsub_drop (lsub_drop (lsub_drop (lsub_drop (lsub_keep lsub_nil)))))))))).run ?_
      first | exact hJh2 | (simp only [if_pos h2] at hJh2; exact hJh2) | (simp only [eq_true h2, not_true_eq_false, true_and, and_true, false_and, and_false, true_or, or_true, false_or, or_false, not_true_eq_false, not_false_eq_true] at hJh2; exact hJh2) | exact Run.eq (by simp [eq_true h2, not_true_eq_false, bI]) (by simp [eq_true h2, not_true_eq_false, bI]) rfl hJh2
    · refine (go_iload 5 eX11_behind_156 rfl).run ?_
      refine (go_goto 163 eX11_behind_158 rfl).run ?_
      refine (go_sub (L' := [none, none, none, none, none, none, none, none, none]) (lsub_drop (lsub_drop (lsub_drop (lsub_drop (lsub_drop (lsub_drop (lsub_drop (lsub_drop (lsub_keep lsub_nil)))))))))).run ?_
      first | exact hJh2 | (simp only [if_neg (h2)] at hJh2; exact hJh2) | (simp only [eq_false h2, not_false_eq_true, true_and, and_true, false_and, and_false, true_or, or_true, false_or, or_false, not_true_eq_false, not_false_eq_true] at hJh2; exact hJh2) | exact Run.eq (by simp [eq_false h2, not_false_eq_true, bI]) (by simp [eq_false h2, not_false_eq_true, bI]) rfl hJh2
  · refine (go_aload_n 0 eX11_behind_41 rfl rfl).run ?_
    refine (go_getr flX11_30 rf_10_7 kd_88 gr_88_7 eX11_behind_42).run ?_
    refine (go_iload 7 eX11_behind_45 rfl).run ?_
    refine (go_iald kd_93 ln_93 (g1 h1) eX11_behind_47).run ?_
    refine (go_istore 8 (L' := [some (.ref 88), some (.int x1), some (.int x2), some (.int x3), some (.int x4), some (.int x5), some (.int x6), some (.int x7), some (.int (σ.1 93 x7.toNatClampNeg))]) eX11_behind_48 (Nat.le_of_ble_eq_true rfl) rfl).run ?_
    refine (go_iload_n 1 eX11_behind_50 rfl rfl).run ?_
    refine (go_iload 7 eX11_behind_51 rfl).run ?_
    refine (go_ishr eX11_behind_53).run ?_
    refine (go_iconst (v := 1) eX11_behind_54 rfl).run ?_
    refine (go_iand eX11_behind_55).run ?_
    refine (go_iconst (v := 1) eX11_behind_56 rfl).run ?_
    refine (bi_ne 126 eX11_behind_57 rfl).run (fun h3 => ?_) (fun h3 => ?_)
    · refine (go_iload 5 eX11_behind_126 rfl).run ?_
      refine (go_iload 6 eX11_behind_128 rfl).run ?_
      refine (go_iload 8 eX11_behind_130 rfl).run ?_
      refine (go_imul eX11_behind_132).run ?_
      refine (go_iadd eX11_behind_133).run ?_
      refine (go_istore 5 (L' := [some (.ref 88), some (.int x1), some (.int x2), some (.int x3), some (.int x4), some (.int (x5 + (x6 * (σ.1 93 x7.toNatClampNeg)))), some (.int x6), some (.int x7), some (.int (σ.1 93 x7.toNatClampNeg))]) eX11_behind_134 (Nat.le_of_ble_eq_true rfl) rfl).run ?_
      refine (go_iload 6 eX11_behind_136 rfl).run ?_
      refine (go_iload 7 eX11_behind_138 rfl).run ?_
      refine (go_iconst (v := 1) eX11_behind_140 rfl).run ?_
      refine (go_iadd eX11_behind_141).run ?_
      refine (go_imul eX11_behind_142).run ?_
      refine (go_istore 6 (L' := [some (.ref 88), some (.int x1), some (.int x2), some (.int x3), some (.int x4), some (.int (x5 + (x6 * (σ.1 93 x7.toNatClampNeg)))), some (.int (x6 * (x7 + 1))), some (.int x7), some (.int (σ.1 93 x7.toNatClampNeg))]) eX11_behind_143 (Nat.le_of_ble_eq_true rfl) rfl).run ?_
      refine (go_iinc 7 (v := (x7 + 1)) (L' := [some (.ref 88), some (.int x1), some (.int x2), some (.int x3), some (.int x4), some (.int (x5 + (x6 * (σ.1 93 x7.toNatClampNeg)))), some (.int (x6 * (x7 + 1))), some (.int (x7 + 1)), some (.int (σ.1 93 x7.toNatClampNeg))]) eX11_behind_145 rfl rfl (Nat.le_of_ble_eq_true rfl) rfl).run ?_
      refine (go_goto 35 eX11_behind_148 rfl).run ?_
      refine (go_sub (L' := [some (.ref 88), some (.int x1), some (.int x2), some (.int x3), some (.int x4), some (.int (x5 + (x6 * (σ.1 93 x7.toNatClampNeg)))), some (.int (x6 * (x7 + 1))), some (.int (x7 + 1)), none]) (lsub_keep (lsub_keep (lsub_keep (lsub_keep (lsub_keep (lsub_keep (lsub_keep (lsub_keep (lsub_drop lsub_nil)))))))))).run ?_
      exact (k2 h1 h3)
    · refine (go_iload 4 eX11_behind_60 rfl).run ?_
      have hJh4 : Run MX11_behind d 75 [some (.ref 88), some (.int x1), some (.int x2), some (.int x3), none, some (.int x5), some (.int x6), some (.int x7), some (.int (σ.1 93 x7.toNatClampNeg))] [.int (bI ((¬ x4 = 0) ∧ (0 : Int32) < (σ.1 93 x7.toNatClampNeg)))] σ Q := by
        refine (go_istore 4 (L' := [some (.ref 88), some (.int x1), some (.int x2), some (.int x3), some (.int (bI ((¬ x4 = 0) ∧ (0 : Int32) < (σ.1 93 x7.toNatClampNeg)))), some (.int x5), some (.int x6), some (.int x7), some (.int (σ.1 93 x7.toNatClampNeg))]) eX11_behind_75 (Nat.le_of_ble_eq_true rfl) rfl).run ?_
        refine (go_iload 4 eX11_behind_77 rfl).run ?_
        refine (br_ifeq_b 126 eX11_behind_79 rfl).run (fun h6 => ?_) (fun h6 => ?_)
        · refine (go_iload 5 eX11_behind_126 rfl).run ?_
          refine (go_iload 6 eX11_behind_128 rfl).run ?_
          refine (go_iload 8 eX11_behind_130 rfl).run ?_
          refine (go_imul eX11_behind_132).run ?_
          refine (go_iadd eX11_behind_133).run ?_
          refine (go_istore 5 (L' := [some (.ref 88), some (.int x1), some (.int x2), some (.int x3), some (.int (bI ((¬ x4 = 0) ∧ (0 : Int32) < (σ.1 93 x7.toNatClampNeg)))), some (.int (x5 + (x6 * (σ.1 93 x7.toNatClampNeg)))), some (.int x6), some (.int x7), some (.int (σ.1 93 x7.toNatClampNeg))]) eX11_behind_134 (Nat.le_of_ble_eq_true rfl) rfl).run ?_
          refine (go_iload 6 eX11_behind_136 rfl).run ?_
          refine (go_iload 7 eX11_behind_138 rfl).run ?_
          refine (go_iconst (v := 1) eX11_behind_140 rfl).run ?_
          refine (go_iadd eX11_behind_141).run ?_
          refine (go_imul eX11_behind_142).run ?_
          refine (go_istore 6 (L' := [some (.ref 88), some (.int x1), some (.int x2), some (.int x3), some (.int (bI ((¬ x4 = 0) ∧ (0 : Int32) < (σ.1 93 x7.toNatClampNeg)))), some (.int (x5 + (x6 * (σ.1 93 x7.toNatClampNeg)))), some (.int (x6 * (x7 + 1))), some (.int x7), some (.int (σ.1 93 x7.toNatClampNeg))]) eX11_behind_143 (Nat.le_of_ble_eq_true rfl) rfl).run ?_
          refine (go_iinc 7 (v := (x7 + 1)) (L' := [some (.ref 88), some (.int x1), some (.int x2), some (.int x3), some (.int (bI ((¬ x4 = 0) ∧ (0 : Int32) < (σ.1 93 x7.toNatClampNeg)))), some (.int (x5 + (x6 * (σ.1 93 x7.toNatClampNeg)))), some (.int (x6 * (x7 + 1))), some (.int (x7 + 1)), some (.int (σ.1 93 x7.toNatClampNeg))]) eX11_behind_145 rfl rfl (Nat.le_of_ble_eq_true rfl) rfl).run ?_
          refine (go_goto 35 eX11_behind_148 rfl).run ?_
          refine (go_sub (L' := [some (.ref 88), some (.int x1), some (.int x2), some (.int x3), some (.int (bI ((¬ x4 = 0) ∧ (0 : Int32) < (σ.1 93 x7.toNatClampNeg)))), some (.int (x5 + (x6 * (σ.1 93 x7.toNatClampNeg)))), some (.int (x6 * (x7 + 1))), some (.int (x7 + 1)), none]) (lsub_keep (lsub_keep (lsub_keep (lsub_keep (lsub_keep (lsub_keep (lsub_keep (lsub_keep (lsub_drop lsub_nil)))))))))).run ?_
          exact (k3 h1 h3 h6)
        · refine (go_aload_n 0 eX11_behind_82 rfl rfl).run ?_
          refine (go_getr flX11_61 rf_10_25 kd_88 gr_88_25 eX11_behind_83).run ?_
          refine (go_iload 8 eX11_behind_86 rfl).run ?_
          refine (go_iconst (v := 1) eX11_behind_88 rfl).run ?_
          refine (go_isub eX11_behind_89).run ?_
          refine (go_dup2 eX11_behind_90 rfl rfl).run ?_
          refine (go_iald kd_101 ln_101 (g2 h1 h3 h6) eX11_behind_91).run ?_
          refine (go_iconst (v := 1) eX11_behind_92 rfl).run ?_
          refine (go_iadd eX11_behind_93).run ?_
          refine (go_iast kd_101 ln_101 (g2 h1 h3 h6) eX11_behind_94).run ?_
          refine (go_aload_n 0 eX11_behind_95 rfl rfl).run ?_
          refine (go_getr flX11_61 rf_10_25 kd_88 gr_88_25 eX11_behind_96).run ?_
          refine (go_iload 8 eX11_behind_99 rfl).run ?_
          refine (go_iconst (v := 1) eX11_behind_101 rfl).run ?_
          refine (go_isub eX11_behind_102).run ?_
          refine (go_iald kd_101 ln_101 (g2 h1 h3 h6) eX11_behind_103).run ?_
          refine (go_iload_n 3 eX11_behind_104 rfl rfl).run ?_
          have hJh7 : Run MX11_behind d 113 [some (.ref 88), some (.int x1), some (.int x2), some (.int x3), none, some (.int x5), some (.int x6), some (.int x7), some (.int (σ.1 93 x7.toNatClampNeg))] [.int (bI (((upd (σ.1 101) ((σ.1 93 x7.toNatClampNeg) - 1).toNatClampNeg ((σ.1 101 ((σ.1 93 x7.toNatClampNeg) - 1).toNatClampNeg) + 1)) ((σ.1 93 x7.toNatClampNeg) - 1).toNatClampNeg) ≤ x3))] (sA σ 101 (upd (σ.1 101) ((σ.1 93 x7.toNatClampNeg) - 1).toNatClampNeg ((σ.1 101 ((σ.1 93 x7.toNatClampNeg) - 1).toNatClampNeg) + 1))) Q := by
            refine (go_istore 4 (L' := [some (.ref 88), some (.int x1), some (.int x2), some (.int x3), some (.int (bI (((upd (σ.1 101) ((σ.1 93 x7.toNatClampNeg) - 1).toNatClampNeg ((σ.1 101 ((σ.1 93 x7.toNatClampNeg) - 1).toNatClampNeg) + 1)) ((σ.1 93 x7.toNatClampNeg) - 1).toNatClampNeg) ≤ x3))), some (.int x5), some (.int x6), some (.int x7), some (.int (σ.1 93 x7.toNatClampNeg))]) eX11_behind_113 (Nat.le_of_ble_eq_true rfl) rfl).run ?_
            refine (go_aload_n 0 eX11_behind_115 rfl rfl).run ?_
            refine (go_getr flX11_30 rf_10_7 kd_88 gr_88_7 eX11_behind_116).run ?_
            refine (go_iload 8 eX11_behind_119 rfl).run ?_
            refine (go_iconst (v := 1) eX11_behind_121 rfl).run ?_
            refine (go_isub eX11_behind_122).run ?_
            refine (go_iald kd_93 ln_93 (g3 h1 h3 h6) eX11_behind_123).run ?_
            refine (go_istore 8 (L' := [some (.ref 88), some (.int x1), some (.int x2), some (.int x3), some (.int (bI (((upd (σ.1 101) ((σ.1 93 x7.toNatClampNeg) - 1).toNatClampNeg ((σ.1 101 ((σ.1 93 x7.toNatClampNeg) - 1).toNatClampNeg) + 1)) ((σ.1 93 x7.toNatClampNeg) - 1).toNatClampNeg) ≤ x3))), some (.int x5), some (.int x6), some (.int x7), some (.int (σ.1 93 ((σ.1 93 x7.toNatClampNeg) - 1).toNatClampNeg))]) eX11_behind_124 (Nat.le_of_ble_eq_true rfl) rfl).run ?_
            refine (go_iload 5 eX11_behind_126 rfl).run ?_
            refine (go_iload 6 eX11_behind_128 rfl).run ?_
            refine (go_iload 8 eX11_behind_130 rfl).run ?_
            refine (go_imul eX11_behind_132).run ?_
            refine (go_iadd eX11_behind_133).run ?_
            refine (go_istore 5 (L' := [some (.ref 88), some (.int x1), some (.int x2), some (.int x3), some (.int (bI (((upd (σ.1 101) ((σ.1 93 x7.toNatClampNeg) - 1).toNatClampNeg ((σ.1 101 ((σ.1 93 x7.toNatClampNeg) - 1).toNatClampNeg) + 1)) ((σ.1 93 x7.toNatClampNeg) - 1).toNatClampNeg) ≤ x3))), some (.int (x5 + (x6 * (σ.1 93 ((σ.1 93 x7.toNatClampNeg) - 1).toNatClampNeg)))), some (.int x6), some (.int x7), some (.int (σ.1 93 ((σ.1 93 x7.toNatClampNeg) - 1).toNatClampNeg))]) eX11_behind_134 (Nat.le_of_ble_eq_true rfl) rfl).run ?_
            refine (go_iload 6 eX11_behind_136 rfl).run ?_
            refine (go_iload 7 eX11_behind_138 rfl).run ?_
            refine (go_iconst (v := 1) eX11_behind_140 rfl).run ?_
            refine (go_iadd eX11_behind_141).run ?_
            refine (go_imul eX11_behind_142).run ?_
            refine (go_istore 6 (L' := [some (.ref 88), some (.int x1), some (.int x2), some (.int x3), some (.int (bI (((upd (σ.1 101) ((σ.1 93 x7.toNatClampNeg) - 1).toNatClampNeg ((σ.1 101 ((σ.1 93 x7.toNatClampNeg) - 1).toNatClampNeg) + 1)) ((σ.1 93 x7.toNatClampNeg) - 1).toNatClampNeg) ≤ x3))), some (.int (x5 + (x6 * (σ.1 93 ((σ.1 93 x7.toNatClampNeg) - 1).toNatClampNeg)))), some (.int (x6 * (x7 + 1))), some (.int x7), some (.int (σ.1 93 ((σ.1 93 x7.toNatClampNeg) - 1).toNatClampNeg))]) eX11_behind_143 (Nat.le_of_ble_eq_true rfl) rfl).run ?_
            refine (go_iinc 7 (v := (x7 + 1)) (L' := [some (.ref 88), some (.int x1), some (.int x2), some (.int x3), some (.int (bI (((upd (σ.1 101) ((σ.1 93 x7.toNatClampNeg) - 1).toNatClampNeg ((σ.1 101 ((σ.1 93 x7.toNatClampNeg) - 1).toNatClampNeg) + 1)) ((σ.1 93 x7.toNatClampNeg) - 1).toNatClampNeg) ≤ x3))), some (.int (x5 + (x6 * (σ.1 93 ((σ.1 93 x7.toNatClampNeg) - 1).toNatClampNeg)))), some (.int (x6 * (x7 + 1))), some (.int (x7 + 1)), some (.int (σ.1 93 ((σ.1 93 x7.toNatClampNeg) - 1).toNatClampNeg))]) eX11_behind_145 rfl rfl (Nat.le_of_ble_eq_true rfl) rfl).run ?_
            refine (go_goto 35 eX11_behind_148 rfl).run ?_
            refine (go_sub (L' := [some (.ref 88), some (.int x1), some (.int x2), some (.int x3), some (.int (bI (((upd (σ.1 101) ((σ.1 93 x7.toNatClampNeg) - 1).toNatClampNeg ((σ.1 101 ((σ.1 93 x7.toNatClampNeg) - 1).toNatClampNeg) + 1)) ((σ.1 93 x7.toNatClampNeg) - 1).toNatClampNeg) ≤ x3))), some (.int (x5 + (x6 * (σ.1 93 ((σ.1 93 x7.toNatClampNeg) - 1).toNatClampNeg)))), some (.int (x6 * (x7 + 1))), some (.int (x7 + 1)), none]) (lsub_keep (lsub_keep (lsub_keep (lsub_keep (lsub_keep (lsub_keep (lsub_keep (lsub_keep (lsub_drop lsub_nil)))))))))).run ?_
            exact (k4 h1 h3 h6)
          refine (bi_gt 112 eX11_behind_105 rfl).run (fun (h7 : x3 < ((upd (σ.1 101) ((σ.1 93 x7.toNatClampNeg) - 1).toNatClampNeg ((σ.1 101 ((σ.1 93 x7.toNatClampNeg) - 1).toNatClampNeg) + 1)) ((σ.1 93 x7.toNatClampNeg) - 1).toNatClampNeg)) => ?_) (fun (h7 : ((upd (σ.1 101) ((σ.1 93 x7.toNatClampNeg) - 1).toNatClampNeg ((σ.1 101 ((σ.1 93 x7.toNatClampNeg) - 1).toNatClampNeg) + 1)) ((σ.1 93 x7.toNatClampNeg) - 1).toNatClampNeg) ≤ x3) => ?_)
          · refine (go_iconst (v := 0) eX11_behind_112 rfl).run ?_
            refine (go_sub (L' := [some (.ref 88), some (.int x1), some (.int x2), some (.int x3), none, some (.int x5), some (.int x6), some (.int x7), some (.int (σ.1 93 x7.toNatClampNeg))]) (lsub_keep (lsub_keep (lsub_keep (lsub_keep (lsub_drop (lsub_keep (lsub_keep (lsub_keep (lsub_keep lsub_nil)))))))))).run ?_
            first | exact hJh7 | (simp only [if_pos h7] at hJh7; exact hJh7) | (simp only [eq_true h7, eq_false (i32_nle.mpr h7), true_and, and_true, false_and, and_false, true_or, or_true, false_or, or_false, not_true_eq_false, not_false_eq_true] at hJh7; exact hJh7) | exact Run.eq (by simp [eq_true h7, eq_false (i32_nle.mpr h7), bI]) (by simp [eq_true h7, eq_false (i32_nle.mpr h7), bI]) rfl hJh7
          · refine (go_iconst (v := 1) eX11_behind_108 rfl).run ?_
            refine (go_goto 113 eX11_behind_109 rfl).run ?_
            refine (go_sub (L' := [some (.ref 88), some (.int x1), some (.int x2), some (.int x3), none, some (.int x5), some (.int x6), some (.int x7), some (.int (σ.1 93 x7.toNatClampNeg))]) (lsub_keep (lsub_keep (lsub_keep (lsub_keep (lsub_drop (lsub_keep (lsub_keep (lsub_keep (lsub_keep lsub_nil)))))))))).run ?_
            first | exact hJh7 | (simp only [if_neg (i32_nlt.mpr h7)] at hJh7; exact hJh7) | (simp only [eq_true h7, eq_false (i32_nlt.mpr h7), true_and, and_true, false_and, and_false, true_or, or_true, false_or, or_false, not_true_eq_false, not_false_eq_true] at hJh7; exact hJh7) | exact Run.eq (by simp [eq_true h7, eq_false (i32_nlt.mpr h7), bI]) (by simp [eq_true h7, eq_false (i32_nlt.mpr h7), bI]) rfl hJh7
      refine (bz_eq 74 eX11_behind_62 rfl).run (fun h4 => ?_) (fun h4 => ?_)
      · refine (go_iconst (v := 0) eX11_behind_74 rfl).run ?_
        refine (go_sub (L' := [some (.ref 88), some (.int x1), some (.int x2), some (.int x3), none, some (.int x5), some (.int x6), some (.int x7), some (.int (σ.1 93 x7.toNatClampNeg))]) (lsub_keep (lsub_keep (lsub_keep (lsub_keep (lsub_drop (lsub_keep (lsub_keep (lsub_keep (lsub_keep lsub_nil)))))))))).run ?_
        first | exact hJh4 | (simp only [if_pos h4] at hJh4; exact hJh4) | (simp only [eq_true h4, not_true_eq_false, true_and, and_true, false_and, and_false, true_or, or_true, false_or, or_false, not_true_eq_false, not_false_eq_true] at hJh4; exact hJh4) | exact Run.eq (by simp [eq_true h4, not_true_eq_false, bI]) (by simp [eq_true h4, not_true_eq_false, bI]) rfl hJh4
      · refine (go_iload 8 eX11_behind_65 rfl).run ?_
        have hJh5 : Run MX11_behind d 75 [some (.ref 88), some (.int x1), some (.int x2), some (.int x3), none, some (.int x5), some (.int x6), some (.int x7), some (.int (σ.1 93 x7.toNatClampNeg))] [.int (bI ((0 : Int32) < (σ.1 93 x7.toNatClampNeg)))] σ Q := by
          first | exact hJh4 | (simp only [if_neg (h4)] at hJh4; exact hJh4) | (simp only [eq_false h4, not_false_eq_true, true_and, and_true, false_and, and_false, true_or, or_true, false_or, or_false, not_true_eq_false, not_false_eq_true] at hJh4; exact hJh4) | exact Run.eq (by simp [eq_false h4, not_false_eq_true, bI]) (by simp [eq_false h4, not_false_eq_true, bI]) rfl hJh4
        refine (bz_le 74 eX11_behind_67 rfl).run (fun h5 => ?_) (fun h5 => ?_)
        · refine (go_iconst (v := 0) eX11_behind_74 rfl).run ?_
          refine (go_sub (L' := [some (.ref 88), some (.int x1), some (.int x2), some (.int x3), none, some (.int x5), some (.int x6), some (.int x7), some (.int (σ.1 93 x7.toNatClampNeg))]) (lsub_keep (lsub_keep (lsub_keep (lsub_keep (lsub_drop (lsub_keep (lsub_keep (lsub_keep (lsub_keep lsub_nil)))))))))).run ?_
          first | exact hJh5 | (simp only [if_pos h5] at hJh5; exact hJh5) | (simp only [eq_true h5, eq_false (i32_nlt.mpr h5), true_and, and_true, false_and, and_false, true_or, or_true, false_or, or_false, not_true_eq_false, not_false_eq_true] at hJh5; exact hJh5) | exact Run.eq (by simp [eq_true h5, eq_false (i32_nlt.mpr h5), bI]) (by simp [eq_true h5, eq_false (i32_nlt.mpr h5), bI]) rfl hJh5
        · refine (go_iconst (v := 1) eX11_behind_70 rfl).run ?_
          refine (go_goto 75 eX11_behind_71 rfl).run ?_
          refine (go_sub (L' := [some (.ref 88), some (.int x1), some (.int x2), some (.int x3), none, some (.int x5), some (.int x6), some (.int x7), some (.int (σ.1 93 x7.toNatClampNeg))]) (lsub_keep (lsub_keep (lsub_keep (lsub_keep (lsub_drop (lsub_keep (lsub_keep (lsub_keep (lsub_keep lsub_nil)))))))))).run ?_
          first | exact hJh5 | (simp only [if_neg (i32_nle.mpr h5)] at hJh5; exact hJh5) | (simp only [eq_true h5, eq_false (i32_nle.mpr h5), true_and, and_true, false_and, and_false, true_or, or_true, false_or, or_false, not_true_eq_false, not_false_eq_true] at hJh5; exact hJh5) | exact Run.eq (by simp [eq_true h5, eq_false (i32_nle.mpr h5), bI]) (by simp [eq_true h5, eq_false (i32_nle.mpr h5), bI]) rfl hJh5

/-! CarryNetsModel.few -/
theorem eX11_few_0 : decode MX11_few.2.1 0 = .ok (.iconst 0, 1) := by decide +kernel
theorem eX11_few_1 : decode MX11_few.2.1 1 = .ok (.istore_n 1, 1) := by decide +kernel
theorem eX11_few_2 : decode MX11_few.2.1 2 = .ok (.iconst 0, 1) := by decide +kernel
theorem eX11_few_3 : decode MX11_few.2.1 3 = .ok (.istore_n 2, 1) := by decide +kernel
theorem eX11_few_4 : decode MX11_few.2.1 4 = .ok (.iload_n 2, 1) := by decide +kernel
theorem eX11_few_5 : decode MX11_few.2.1 5 = .ok (.bipush 7, 2) := by decide +kernel
theorem eX11_few_7 : decode MX11_few.2.1 7 = .ok (.if_icmp .ge 17, 3) := by decide +kernel
theorem eX11_few_10 : decode MX11_few.2.1 10 = .ok (.iload_n 1, 1) := by decide +kernel
theorem eX11_few_11 : decode MX11_few.2.1 11 = .ok (.iload_n 0, 1) := by decide +kernel
theorem eX11_few_12 : decode MX11_few.2.1 12 = .ok (.iload_n 2, 1) := by decide +kernel
theorem eX11_few_13 : decode MX11_few.2.1 13 = .ok (.ishr, 1) := by decide +kernel
theorem eX11_few_14 : decode MX11_few.2.1 14 = .ok (.iconst 1, 1) := by decide +kernel
theorem eX11_few_15 : decode MX11_few.2.1 15 = .ok (.iand, 1) := by decide +kernel
theorem eX11_few_16 : decode MX11_few.2.1 16 = .ok (.iadd, 1) := by decide +kernel
theorem eX11_few_17 : decode MX11_few.2.1 17 = .ok (.istore_n 1, 1) := by decide +kernel
theorem eX11_few_18 : decode MX11_few.2.1 18 = .ok (.iinc 2 1, 3) := by decide +kernel
theorem eX11_few_21 : decode MX11_few.2.1 21 = .ok (.goto (-17), 3) := by decide +kernel
theorem eX11_few_24 : decode MX11_few.2.1 24 = .ok (.iload_n 1, 1) := by decide +kernel
theorem eX11_few_25 : decode MX11_few.2.1 25 = .ok (.ireturn, 1) := by decide +kernel
set_option maxRecDepth 20000 in
theorem bX11_few_0 {d : Nat} {Q : Option Value → St → Prop} (x0 : Int32) (σ : St) 
    (k1 : Run MX11_few d 4 [some (.int x0), some (.int 0), some (.int 0)] [] σ Q)
    : Run MX11_few d 0 [some (.int x0), none, none] [] σ Q := by
  refine (go_iconst (v := 0) eX11_few_0 rfl).run ?_
  refine (go_istore_n 1 (L' := [some (.int x0), some (.int 0), none]) eX11_few_1 rfl (Nat.le_of_ble_eq_true rfl) rfl).run ?_
  refine (go_iconst (v := 0) eX11_few_2 rfl).run ?_
  refine (go_istore_n 2 (L' := [some (.int x0), some (.int 0), some (.int 0)]) eX11_few_3 rfl (Nat.le_of_ble_eq_true rfl) rfl).run ?_
  exact k1

set_option maxRecDepth 20000 in
theorem bX11_few_4 {d : Nat} {Q : Option Value → St → Prop} (x0 : Int32) (x1 : Int32) (x2 : Int32) (σ : St) 
    (k1 : (7 : Int32) ≤ x2 → Q (some (.int x1)) σ)
    (k2 : x2 < 7 → Run MX11_few d 4 [some (.int x0), some (.int (x1 + ((x0 >>> (x2 &&& 31)) &&& 1))), some (.int (x2 + 1))] [] σ Q)
    : Run MX11_few d 4 [some (.int x0), some (.int x1), some (.int x2)] [] σ Q := by
  refine (go_iload_n 2 eX11_few_4 rfl rfl).run ?_
  refine (go_bipush (v := 7) eX11_few_5 rfl).run ?_
  refine (bi_ge 24 eX11_few_7 rfl).run (fun h1 => ?_) (fun h1 => ?_)
  · refine (go_iload_n 1 eX11_few_24 rfl rfl).run ?_
    exact Run.ret (v := some (.int x1)) (k1 h1) ⟨Or.inl rfl, eX11_few_25⟩ rfl
  · refine (go_iload_n 1 eX11_few_10 rfl rfl).run ?_
    refine (go_iload_n 0 eX11_few_11 rfl rfl).run ?_
    refine (go_iload_n 2 eX11_few_12 rfl rfl).run ?_
    refine (go_ishr eX11_few_13).run ?_
    refine (go_iconst (v := 1) eX11_few_14 rfl).run ?_
    refine (go_iand eX11_few_15).run ?_
    refine (go_iadd eX11_few_16).run ?_
    refine (go_istore_n 1 (L' := [some (.int x0), some (.int (x1 + ((x0 >>> (x2 &&& 31)) &&& 1))), some (.int x2)]) eX11_few_17 rfl (Nat.le_of_ble_eq_true rfl) rfl).run ?_
    refine (go_iinc 2 (v := (x2 + 1)) (L' := [some (.int x0), some (.int (x1 + ((x0 >>> (x2 &&& 31)) &&& 1))), some (.int (x2 + 1))]) eX11_few_18 rfl rfl (Nat.le_of_ble_eq_true rfl) rfl).run ?_
    refine (go_goto 4 eX11_few_21 rfl).run ?_
    exact (k2 h1)

/-! CarryNetsModel.fillsRow -/
theorem eX11_fillsRow_0 : decode MX11_fillsRow.2.1 0 = .ok (.iconst 0, 1) := by decide +kernel
theorem eX11_fillsRow_1 : decode MX11_fillsRow.2.1 1 = .ok (.istore 4, 2) := by decide +kernel
theorem eX11_fillsRow_3 : decode MX11_fillsRow.2.1 3 = .ok (.iload 4, 2) := by decide +kernel
theorem eX11_fillsRow_5 : decode MX11_fillsRow.2.1 5 = .ok (.aload_n 0, 1) := by decide +kernel
theorem eX11_fillsRow_6 : decode MX11_fillsRow.2.1 6 = .ok (.getfield 209, 3) := by decide +kernel
theorem eX11_fillsRow_9 : decode MX11_fillsRow.2.1 9 = .ok (.if_icmp .ge 266, 3) := by decide +kernel
theorem eX11_fillsRow_12 : decode MX11_fillsRow.2.1 12 = .ok (.aload_n 0, 1) := by decide +kernel
theorem eX11_fillsRow_13 : decode MX11_fillsRow.2.1 13 = .ok (.getfield 209, 3) := by decide +kernel
theorem eX11_fillsRow_16 : decode MX11_fillsRow.2.1 16 = .ok (.iload_n 1, 1) := by decide +kernel
theorem eX11_fillsRow_17 : decode MX11_fillsRow.2.1 17 = .ok (.imul, 1) := by decide +kernel
theorem eX11_fillsRow_18 : decode MX11_fillsRow.2.1 18 = .ok (.iload 4, 2) := by decide +kernel
theorem eX11_fillsRow_20 : decode MX11_fillsRow.2.1 20 = .ok (.iadd, 1) := by decide +kernel
theorem eX11_fillsRow_21 : decode MX11_fillsRow.2.1 21 = .ok (.istore 5, 2) := by decide +kernel
theorem eX11_fillsRow_23 : decode MX11_fillsRow.2.1 23 = .ok (.aload_n 0, 1) := by decide +kernel
theorem eX11_fillsRow_24 : decode MX11_fillsRow.2.1 24 = .ok (.getfield 55, 3) := by decide +kernel
theorem eX11_fillsRow_27 : decode MX11_fillsRow.2.1 27 = .ok (.iload 5, 2) := by decide +kernel
theorem eX11_fillsRow_29 : decode MX11_fillsRow.2.1 29 = .ok (.iload 4, 2) := by decide +kernel
theorem eX11_fillsRow_31 : decode MX11_fillsRow.2.1 31 = .ok (.ifCond .ne 7, 3) := by decide +kernel
theorem eX11_fillsRow_34 : decode MX11_fillsRow.2.1 34 = .ok (.iconst 0, 1) := by decide +kernel
theorem eX11_fillsRow_35 : decode MX11_fillsRow.2.1 35 = .ok (.goto 6, 3) := by decide +kernel
theorem eX11_fillsRow_38 : decode MX11_fillsRow.2.1 38 = .ok (.sipush 1000, 3) := by decide +kernel
theorem eX11_fillsRow_41 : decode MX11_fillsRow.2.1 41 = .ok (.iastore, 1) := by decide +kernel
theorem eX11_fillsRow_42 : decode MX11_fillsRow.2.1 42 = .ok (.aload_n 0, 1) := by decide +kernel
theorem eX11_fillsRow_43 : decode MX11_fillsRow.2.1 43 = .ok (.getfield 58, 3) := by decide +kernel
theorem eX11_fillsRow_46 : decode MX11_fillsRow.2.1 46 = .ok (.iload 5, 2) := by decide +kernel
theorem eX11_fillsRow_48 : decode MX11_fillsRow.2.1 48 = .ok (.iload 4, 2) := by decide +kernel
theorem eX11_fillsRow_50 : decode MX11_fillsRow.2.1 50 = .ok (.ifCond .ne 7, 3) := by decide +kernel
theorem eX11_fillsRow_53 : decode MX11_fillsRow.2.1 53 = .ok (.iconst 1, 1) := by decide +kernel
theorem eX11_fillsRow_54 : decode MX11_fillsRow.2.1 54 = .ok (.goto 4, 3) := by decide +kernel
theorem eX11_fillsRow_57 : decode MX11_fillsRow.2.1 57 = .ok (.iconst 0, 1) := by decide +kernel
theorem eX11_fillsRow_58 : decode MX11_fillsRow.2.1 58 = .ok (.iastore, 1) := by decide +kernel
theorem eX11_fillsRow_59 : decode MX11_fillsRow.2.1 59 = .ok (.aload_n 0, 1) := by decide +kernel
theorem eX11_fillsRow_60 : decode MX11_fillsRow.2.1 60 = .ok (.iload 4, 2) := by decide +kernel
theorem eX11_fillsRow_62 : decode MX11_fillsRow.2.1 62 = .ok (.iload_n 2, 1) := by decide +kernel
theorem eX11_fillsRow_63 : decode MX11_fillsRow.2.1 63 = .ok (.invokevirtual 212, 3) := by decide +kernel
theorem eX11_fillsRow_66 : decode MX11_fillsRow.2.1 66 = .ok (.iconst 0, 1) := by decide +kernel
theorem eX11_fillsRow_67 : decode MX11_fillsRow.2.1 67 = .ok (.istore 6, 2) := by decide +kernel
theorem eX11_fillsRow_69 : decode MX11_fillsRow.2.1 69 = .ok (.iconst 0, 1) := by decide +kernel
theorem eX11_fillsRow_70 : decode MX11_fillsRow.2.1 70 = .ok (.istore 7, 2) := by decide +kernel
theorem eX11_fillsRow_72 : decode MX11_fillsRow.2.1 72 = .ok (.iload 7, 2) := by decide +kernel
theorem eX11_fillsRow_74 : decode MX11_fillsRow.2.1 74 = .ok (.iload_n 2, 1) := by decide +kernel
theorem eX11_fillsRow_75 : decode MX11_fillsRow.2.1 75 = .ok (.if_icmp .ge 32, 3) := by decide +kernel
theorem eX11_fillsRow_78 : decode MX11_fillsRow.2.1 78 = .ok (.iload 6, 2) := by decide +kernel
theorem eX11_fillsRow_80 : decode MX11_fillsRow.2.1 80 = .ok (.aload_n 0, 1) := by decide +kernel
theorem eX11_fillsRow_81 : decode MX11_fillsRow.2.1 81 = .ok (.getfield 30, 3) := by decide +kernel
theorem eX11_fillsRow_84 : decode MX11_fillsRow.2.1 84 = .ok (.iload 7, 2) := by decide +kernel
theorem eX11_fillsRow_86 : decode MX11_fillsRow.2.1 86 = .ok (.iaload, 1) := by decide +kernel
theorem eX11_fillsRow_87 : decode MX11_fillsRow.2.1 87 = .ok (.ifCond .le 10, 3) := by decide +kernel
theorem eX11_fillsRow_90 : decode MX11_fillsRow.2.1 90 = .ok (.iconst 1, 1) := by decide +kernel
theorem eX11_fillsRow_91 : decode MX11_fillsRow.2.1 91 = .ok (.iload 7, 2) := by decide +kernel
theorem eX11_fillsRow_93 : decode MX11_fillsRow.2.1 93 = .ok (.ishl, 1) := by decide +kernel
theorem eX11_fillsRow_94 : decode MX11_fillsRow.2.1 94 = .ok (.goto 4, 3) := by decide +kernel
theorem eX11_fillsRow_97 : decode MX11_fillsRow.2.1 97 = .ok (.iconst 0, 1) := by decide +kernel
theorem eX11_fillsRow_98 : decode MX11_fillsRow.2.1 98 = .ok (.ior, 1) := by decide +kernel
theorem eX11_fillsRow_99 : decode MX11_fillsRow.2.1 99 = .ok (.istore 6, 2) := by decide +kernel
theorem eX11_fillsRow_101 : decode MX11_fillsRow.2.1 101 = .ok (.iinc 7 1, 3) := by decide +kernel
theorem eX11_fillsRow_104 : decode MX11_fillsRow.2.1 104 = .ok (.goto (-32), 3) := by decide +kernel
theorem eX11_fillsRow_107 : decode MX11_fillsRow.2.1 107 = .ok (.iload_n 1, 1) := by decide +kernel
theorem eX11_fillsRow_108 : decode MX11_fillsRow.2.1 108 = .ok (.ifCond .le 8, 3) := by decide +kernel
theorem eX11_fillsRow_111 : decode MX11_fillsRow.2.1 111 = .ok (.iload 6, 2) := by decide +kernel
theorem eX11_fillsRow_113 : decode MX11_fillsRow.2.1 113 = .ok (.goto 4, 3) := by decide +kernel
theorem eX11_fillsRow_116 : decode MX11_fillsRow.2.1 116 = .ok (.iconst 0, 1) := by decide +kernel
theorem eX11_fillsRow_117 : decode MX11_fillsRow.2.1 117 = .ok (.istore 7, 2) := by decide +kernel
theorem eX11_fillsRow_119 : decode MX11_fillsRow.2.1 119 = .ok (.iload 7, 2) := by decide +kernel
theorem eX11_fillsRow_121 : decode MX11_fillsRow.2.1 121 = .ok (.ifCond .le 148, 3) := by decide +kernel
theorem eX11_fillsRow_124 : decode MX11_fillsRow.2.1 124 = .ok (.aload_n 0, 1) := by decide +kernel
theorem eX11_fillsRow_125 : decode MX11_fillsRow.2.1 125 = .ok (.iload 7, 2) := by decide +kernel
theorem eX11_fillsRow_127 : decode MX11_fillsRow.2.1 127 = .ok (.iload_n 2, 1) := by decide +kernel
theorem eX11_fillsRow_128 : decode MX11_fillsRow.2.1 128 = .ok (.iload_n 3, 1) := by decide +kernel
theorem eX11_fillsRow_129 : decode MX11_fillsRow.2.1 129 = .ok (.invokevirtual 215, 3) := by decide +kernel
theorem eX11_fillsRow_132 : decode MX11_fillsRow.2.1 132 = .ok (.istore 8, 2) := by decide +kernel
theorem eX11_fillsRow_134 : decode MX11_fillsRow.2.1 134 = .ok (.iload 8, 2) := by decide +kernel
theorem eX11_fillsRow_136 : decode MX11_fillsRow.2.1 136 = .ok (.bipush (-4), 2) := by decide +kernel
theorem eX11_fillsRow_138 : decode MX11_fillsRow.2.1 138 = .ok (.if_icmp .ne 9, 3) := by decide +kernel
theorem eX11_fillsRow_141 : decode MX11_fillsRow.2.1 141 = .ok (.sipush 1000, 3) := by decide +kernel
theorem eX11_fillsRow_144 : decode MX11_fillsRow.2.1 144 = .ok (.goto 25, 3) := by decide +kernel
theorem eX11_fillsRow_147 : decode MX11_fillsRow.2.1 147 = .ok (.aload_n 0, 1) := by decide +kernel
theorem eX11_fillsRow_148 : decode MX11_fillsRow.2.1 148 = .ok (.getfield 55, 3) := by decide +kernel
theorem eX11_fillsRow_151 : decode MX11_fillsRow.2.1 151 = .ok (.aload_n 0, 1) := by decide +kernel
theorem eX11_fillsRow_152 : decode MX11_fillsRow.2.1 152 = .ok (.getfield 209, 3) := by decide +kernel
theorem eX11_fillsRow_155 : decode MX11_fillsRow.2.1 155 = .ok (.iload_n 1, 1) := by decide +kernel
theorem eX11_fillsRow_156 : decode MX11_fillsRow.2.1 156 = .ok (.iconst 1, 1) := by decide +kernel
theorem eX11_fillsRow_157 : decode MX11_fillsRow.2.1 157 = .ok (.isub, 1) := by decide +kernel
theorem eX11_fillsRow_158 : decode MX11_fillsRow.2.1 158 = .ok (.imul, 1) := by decide +kernel
theorem eX11_fillsRow_159 : decode MX11_fillsRow.2.1 159 = .ok (.iload 8, 2) := by decide +kernel
theorem eX11_fillsRow_161 : decode MX11_fillsRow.2.1 161 = .ok (.iadd, 1) := by decide +kernel
theorem eX11_fillsRow_162 : decode MX11_fillsRow.2.1 162 = .ok (.iaload, 1) := by decide +kernel
theorem eX11_fillsRow_163 : decode MX11_fillsRow.2.1 163 = .ok (.iload 7, 2) := by decide +kernel
theorem eX11_fillsRow_165 : decode MX11_fillsRow.2.1 165 = .ok (.invokestatic 219, 3) := by decide +kernel
theorem eX11_fillsRow_168 : decode MX11_fillsRow.2.1 168 = .ok (.iadd, 1) := by decide +kernel
theorem eX11_fillsRow_169 : decode MX11_fillsRow.2.1 169 = .ok (.istore 9, 2) := by decide +kernel
theorem eX11_fillsRow_171 : decode MX11_fillsRow.2.1 171 = .ok (.iload 9, 2) := by decide +kernel
theorem eX11_fillsRow_173 : decode MX11_fillsRow.2.1 173 = .ok (.aload_n 0, 1) := by decide +kernel
theorem eX11_fillsRow_174 : decode MX11_fillsRow.2.1 174 = .ok (.getfield 55, 3) := by decide +kernel
theorem eX11_fillsRow_177 : decode MX11_fillsRow.2.1 177 = .ok (.iload 5, 2) := by decide +kernel
theorem eX11_fillsRow_179 : decode MX11_fillsRow.2.1 179 = .ok (.iaload, 1) := by decide +kernel
theorem eX11_fillsRow_180 : decode MX11_fillsRow.2.1 180 = .ok (.if_icmp .ge 20, 3) := by decide +kernel
theorem eX11_fillsRow_183 : decode MX11_fillsRow.2.1 183 = .ok (.aload_n 0, 1) := by decide +kernel
theorem eX11_fillsRow_184 : decode MX11_fillsRow.2.1 184 = .ok (.getfield 55, 3) := by decide +kernel
theorem eX11_fillsRow_187 : decode MX11_fillsRow.2.1 187 = .ok (.iload 5, 2) := by decide +kernel
theorem eX11_fillsRow_189 : decode MX11_fillsRow.2.1 189 = .ok (.iload 9, 2) := by decide +kernel
theorem eX11_fillsRow_191 : decode MX11_fillsRow.2.1 191 = .ok (.iastore, 1) := by decide +kernel
theorem eX11_fillsRow_192 : decode MX11_fillsRow.2.1 192 = .ok (.aload_n 0, 1) := by decide +kernel
theorem eX11_fillsRow_193 : decode MX11_fillsRow.2.1 193 = .ok (.getfield 58, 3) := by decide +kernel
theorem eX11_fillsRow_196 : decode MX11_fillsRow.2.1 196 = .ok (.iload 5, 2) := by decide +kernel
theorem eX11_fillsRow_198 : decode MX11_fillsRow.2.1 198 = .ok (.iconst 0, 1) := by decide +kernel
theorem eX11_fillsRow_199 : decode MX11_fillsRow.2.1 199 = .ok (.iastore, 1) := by decide +kernel
theorem eX11_fillsRow_200 : decode MX11_fillsRow.2.1 200 = .ok (.aload_n 0, 1) := by decide +kernel
theorem eX11_fillsRow_201 : decode MX11_fillsRow.2.1 201 = .ok (.getfield 58, 3) := by decide +kernel
theorem eX11_fillsRow_204 : decode MX11_fillsRow.2.1 204 = .ok (.iload 5, 2) := by decide +kernel
theorem eX11_fillsRow_206 : decode MX11_fillsRow.2.1 206 = .ok (.dup2, 1) := by decide +kernel
theorem eX11_fillsRow_207 : decode MX11_fillsRow.2.1 207 = .ok (.iaload, 1) := by decide +kernel
theorem eX11_fillsRow_208 : decode MX11_fillsRow.2.1 208 = .ok (.iload 8, 2) := by decide +kernel
theorem eX11_fillsRow_210 : decode MX11_fillsRow.2.1 210 = .ok (.bipush (-4), 2) := by decide +kernel
theorem eX11_fillsRow_212 : decode MX11_fillsRow.2.1 212 = .ok (.if_icmp .eq 42, 3) := by decide +kernel
theorem eX11_fillsRow_215 : decode MX11_fillsRow.2.1 215 = .ok (.iload 9, 2) := by decide +kernel
theorem eX11_fillsRow_217 : decode MX11_fillsRow.2.1 217 = .ok (.sipush 1000, 3) := by decide +kernel
theorem eX11_fillsRow_220 : decode MX11_fillsRow.2.1 220 = .ok (.if_icmp .ge 34, 3) := by decide +kernel
theorem eX11_fillsRow_223 : decode MX11_fillsRow.2.1 223 = .ok (.iload 9, 2) := by decide +kernel
theorem eX11_fillsRow_225 : decode MX11_fillsRow.2.1 225 = .ok (.aload_n 0, 1) := by decide +kernel
theorem eX11_fillsRow_226 : decode MX11_fillsRow.2.1 226 = .ok (.getfield 55, 3) := by decide +kernel
theorem eX11_fillsRow_229 : decode MX11_fillsRow.2.1 229 = .ok (.iload 5, 2) := by decide +kernel
theorem eX11_fillsRow_231 : decode MX11_fillsRow.2.1 231 = .ok (.iaload, 1) := by decide +kernel
theorem eX11_fillsRow_232 : decode MX11_fillsRow.2.1 232 = .ok (.if_icmp .ne 22, 3) := by decide +kernel
theorem eX11_fillsRow_235 : decode MX11_fillsRow.2.1 235 = .ok (.aload_n 0, 1) := by decide +kernel
theorem eX11_fillsRow_236 : decode MX11_fillsRow.2.1 236 = .ok (.getfield 58, 3) := by decide +kernel
theorem eX11_fillsRow_239 : decode MX11_fillsRow.2.1 239 = .ok (.aload_n 0, 1) := by decide +kernel
theorem eX11_fillsRow_240 : decode MX11_fillsRow.2.1 240 = .ok (.getfield 209, 3) := by decide +kernel
theorem eX11_fillsRow_243 : decode MX11_fillsRow.2.1 243 = .ok (.iload_n 1, 1) := by decide +kernel
theorem eX11_fillsRow_244 : decode MX11_fillsRow.2.1 244 = .ok (.iconst 1, 1) := by decide +kernel
theorem eX11_fillsRow_245 : decode MX11_fillsRow.2.1 245 = .ok (.isub, 1) := by decide +kernel
theorem eX11_fillsRow_246 : decode MX11_fillsRow.2.1 246 = .ok (.imul, 1) := by decide +kernel
theorem eX11_fillsRow_247 : decode MX11_fillsRow.2.1 247 = .ok (.iload 8, 2) := by decide +kernel
theorem eX11_fillsRow_249 : decode MX11_fillsRow.2.1 249 = .ok (.iadd, 1) := by decide +kernel
theorem eX11_fillsRow_250 : decode MX11_fillsRow.2.1 250 = .ok (.iaload, 1) := by decide +kernel
theorem eX11_fillsRow_251 : decode MX11_fillsRow.2.1 251 = .ok (.goto 4, 3) := by decide +kernel
theorem eX11_fillsRow_254 : decode MX11_fillsRow.2.1 254 = .ok (.iconst 0, 1) := by decide +kernel
theorem eX11_fillsRow_255 : decode MX11_fillsRow.2.1 255 = .ok (.iadd, 1) := by decide +kernel
theorem eX11_fillsRow_256 : decode MX11_fillsRow.2.1 256 = .ok (.iastore, 1) := by decide +kernel
theorem eX11_fillsRow_257 : decode MX11_fillsRow.2.1 257 = .ok (.iload 7, 2) := by decide +kernel
theorem eX11_fillsRow_259 : decode MX11_fillsRow.2.1 259 = .ok (.iconst 1, 1) := by decide +kernel
theorem eX11_fillsRow_260 : decode MX11_fillsRow.2.1 260 = .ok (.isub, 1) := by decide +kernel
theorem eX11_fillsRow_261 : decode MX11_fillsRow.2.1 261 = .ok (.iload 6, 2) := by decide +kernel
theorem eX11_fillsRow_263 : decode MX11_fillsRow.2.1 263 = .ok (.iand, 1) := by decide +kernel
theorem eX11_fillsRow_264 : decode MX11_fillsRow.2.1 264 = .ok (.istore 7, 2) := by decide +kernel
theorem eX11_fillsRow_266 : decode MX11_fillsRow.2.1 266 = .ok (.goto (-147), 3) := by decide +kernel
theorem eX11_fillsRow_269 : decode MX11_fillsRow.2.1 269 = .ok (.iinc 4 1, 3) := by decide +kernel
theorem eX11_fillsRow_272 : decode MX11_fillsRow.2.1 272 = .ok (.goto (-269), 3) := by decide +kernel
theorem eX11_fillsRow_275 : decode MX11_fillsRow.2.1 275 = .ok (.return_, 1) := by decide +kernel
set_option maxRecDepth 20000 in
theorem bX11_fillsRow_0 {d : Nat} {Q : Option Value → St → Prop} (x1 : Int32) (x2 : Int32) (x3 : Int32) (σ : St) 
    (k1 : Run MX11_fillsRow (d + 1) 3 [some (.ref 88), some (.int x1), some (.int x2), some (.int x3), some (.int 0), none, none, none, none, none] [] σ Q)
    : Run MX11_fillsRow (d + 1) 0 [some (.ref 88), some (.int x1), some (.int x2), some (.int x3), none, none, none, none, none, none] [] σ Q := by
  refine (go_iconst (v := 0) eX11_fillsRow_0 rfl).run ?_
  refine (go_istore 4 (L' := [some (.ref 88), some (.int x1), some (.int x2), some (.int x3), some (.int 0), none, none, none, none, none]) eX11_fillsRow_1 (Nat.le_of_ble_eq_true rfl) rfl).run ?_
  exact k1

set_option maxRecDepth 20000 in
theorem bX11_fillsRow_3 {d : Nat} {Q : Option Value → St → Prop} (x1 : Int32) (x2 : Int32) (x3 : Int32) (x4 : Int32) (σ : St) 
    (g1 : x4 < (σ.1 88 24) → vp_in (((σ.1 88 24) * x1) + x4) 35280)
    (k1 : (σ.1 88 24) ≤ x4 → Q (none) σ)
    (k2 : x4 < (σ.1 88 24) → Ct yX11_spansOf MX11_spansOf d [.ref 88, .int x4, .int x2] (sA (sA σ 99 (upd (σ.1 99) (((σ.1 88 24) * x1) + x4).toNatClampNeg (if x4 = 0 then (0 : Int32) else 1000))) 100 (upd (σ.1 100) (((σ.1 88 24) * x1) + x4).toNatClampNeg (bI (x4 = 0)))) (fun v σ1 => Run MX11_fillsRow (d + 1) 66 [some (.ref 88), some (.int x1), some (.int x2), some (.int x3), some (.int x4), some (.int (((σ.1 88 24) * x1) + x4)), none, none, none, none] (v.toList ++ []) σ1 Q))
    : Run MX11_fillsRow (d + 1) 3 [some (.ref 88), some (.int x1), some (.int x2), some (.int x3), some (.int x4), none, none, none, none, none] [] σ Q := by
  refine (go_iload 4 eX11_fillsRow_3 rfl).run ?_
  refine (go_aload_n 0 eX11_fillsRow_5 rfl rfl).run ?_
  refine (go_geti flX11_209 rf_10_24 kd_88 eX11_fillsRow_6).run ?_
  refine (bi_ge 275 eX11_fillsRow_9 rfl).run (fun h1 => ?_) (fun h1 => ?_)
  · exact Run.ret (v := none) (k1 h1) ⟨rfl, eX11_fillsRow_275⟩ rfl
  · refine (go_aload_n 0 eX11_fillsRow_12 rfl rfl).run ?_
    refine (go_geti flX11_209 rf_10_24 kd_88 eX11_fillsRow_13).run ?_
    refine (go_iload_n 1 eX11_fillsRow_16 rfl rfl).run ?_
    refine (go_imul eX11_fillsRow_17).run ?_
    refine (go_iload 4 eX11_fillsRow_18 rfl).run ?_
    refine (go_iadd eX11_fillsRow_20).run ?_
    refine (go_istore 5 (L' := [some (.ref 88), some (.int x1), some (.int x2), some (.int x3), some (.int x4), some (.int (((σ.1 88 24) * x1) + x4)), none, none, none, none]) eX11_fillsRow_21 (Nat.le_of_ble_eq_true rfl) rfl).run ?_
    refine (go_aload_n 0 eX11_fillsRow_23 rfl rfl).run ?_
    refine (go_getr flX11_55 rf_10_22 kd_88 gr_88_22 eX11_fillsRow_24).run ?_
    refine (go_iload 5 eX11_fillsRow_27 rfl).run ?_
    refine (go_iload 4 eX11_fillsRow_29 rfl).run ?_
    have hJh2 : Run MX11_fillsRow (d + 1) 41 [some (.ref 88), some (.int x1), some (.int x2), some (.int x3), some (.int x4), some (.int (((σ.1 88 24) * x1) + x4)), none, none, none, none] [.int (if x4 = 0 then (0 : Int32) else 1000), .int (((σ.1 88 24) * x1) + x4), .ref 99] σ Q := by
      refine (go_iast kd_99 ln_99 (g1 h1) eX11_fillsRow_41).run ?_
      refine (go_aload_n 0 eX11_fillsRow_42 rfl rfl).run ?_
      refine (go_getr flX11_58 rf_10_23 kd_88 gr_88_23 eX11_fillsRow_43).run ?_
      refine (go_iload 5 eX11_fillsRow_46 rfl).run ?_
      refine (go_iload 4 eX11_fillsRow_48 rfl).run ?_
      have hJh3 : Run MX11_fillsRow (d + 1) 58 [some (.ref 88), some (.int x1), some (.int x2), some (.int x3), some (.int x4), some (.int (((σ.1 88 24) * x1) + x4)), none, none, none, none] [.int (bI (x4 = 0)), .int (((σ.1 88 24) * x1) + x4), .ref 100] (sA σ 99 (upd (σ.1 99) (((σ.1 88 24) * x1) + x4).toNatClampNeg (if x4 = 0 then (0 : Int32) else 1000))) Q := by
        refine (go_iast kd_100 ln_100 (g1 h1) eX11_fillsRow_58).run ?_
        refine (go_aload_n 0 eX11_fillsRow_59 rfl rfl).run ?_
        refine (go_iload 4 eX11_fillsRow_60 rfl).run ?_
        refine (go_iload_n 2 eX11_fillsRow_62 rfl rfl).run ?_
        exact Run.callV (d := d) (As := [.int x4, .int x2]) mX11_spansOf lkX11_212 kd_88 (by decide) rfl rfl rfl rfl rfl (Nat.le_of_ble_eq_true rfl) eX11_fillsRow_63 (k2 h1)
      refine (bz_ne 57 eX11_fillsRow_50 rfl).run (fun (h3 : ¬ x4 = 0) => ?_) (fun (h3 : x4 = 0) => ?_)
      · refine (go_iconst (v := 0) eX11_fillsRow_57 rfl).run ?_
        first | exact hJh3 | (simp only [if_neg (h3)] at hJh3; exact hJh3) | (simp only [eq_false h3, not_false_eq_true, true_and, and_true, false_and, and_false, true_or, or_true, false_or, or_false, not_true_eq_false, not_false_eq_true] at hJh3; exact hJh3) | exact Run.eq (by simp [eq_false h3, not_false_eq_true, bI]) (by simp [eq_false h3, not_false_eq_true, bI]) rfl hJh3
      · refine (go_iconst (v := 1) eX11_fillsRow_53 rfl).run ?_
        refine (go_goto 58 eX11_fillsRow_54 rfl).run ?_
        first | exact hJh3 | (simp only [if_pos h3] at hJh3; exact hJh3) | (simp only [eq_true h3, not_true_eq_false, true_and, and_true, false_and, and_false, true_or, or_true, false_or, or_false, not_true_eq_false, not_false_eq_true] at hJh3; exact hJh3) | exact Run.eq (by simp [eq_true h3, not_true_eq_false, bI]) (by simp [eq_true h3, not_true_eq_false, bI]) rfl hJh3
    refine (bz_ne 38 eX11_fillsRow_31 rfl).run (fun h2 => ?_) (fun h2 => ?_)
    · refine (go_sipush (v := 1000) eX11_fillsRow_38 rfl).run ?_
      first | exact hJh2 | (simp only [if_neg (h2)] at hJh2; exact hJh2) | (simp only [eq_false h2, not_false_eq_true, true_and, and_true, false_and, and_false, true_or, or_true, false_or, or_false, not_true_eq_false, not_false_eq_true] at hJh2; exact hJh2) | exact Run.eq (by simp [eq_false h2, not_false_eq_true, bI]) (by simp [eq_false h2, not_false_eq_true, bI]) rfl hJh2
    · refine (go_iconst (v := 0) eX11_fillsRow_34 rfl).run ?_
      refine (go_goto 41 eX11_fillsRow_35 rfl).run ?_
      first | exact hJh2 | (simp only [if_pos h2] at hJh2; exact hJh2) | (simp only [eq_true h2, not_true_eq_false, true_and, and_true, false_and, and_false, true_or, or_true, false_or, or_false, not_true_eq_false, not_false_eq_true] at hJh2; exact hJh2) | exact Run.eq (by simp [eq_true h2, not_true_eq_false, bI]) (by simp [eq_true h2, not_true_eq_false, bI]) rfl hJh2

set_option maxRecDepth 20000 in
theorem bX11_fillsRow_66 {d : Nat} {Q : Option Value → St → Prop} (x1 : Int32) (x2 : Int32) (x3 : Int32) (x4 : Int32) (x5 : Int32) (σ : St) 
    (k1 : Run MX11_fillsRow (d + 1) 72 [some (.ref 88), some (.int x1), some (.int x2), some (.int x3), some (.int x4), some (.int x5), some (.int 0), some (.int 0), none, none] [] σ Q)
    : Run MX11_fillsRow (d + 1) 66 [some (.ref 88), some (.int x1), some (.int x2), some (.int x3), some (.int x4), some (.int x5), none, none, none, none] [] σ Q := by
  refine (go_iconst (v := 0) eX11_fillsRow_66 rfl).run ?_
  refine (go_istore 6 (L' := [some (.ref 88), some (.int x1), some (.int x2), some (.int x3), some (.int x4), some (.int x5), some (.int 0), none, none, none]) eX11_fillsRow_67 (Nat.le_of_ble_eq_true rfl) rfl).run ?_
  refine (go_iconst (v := 0) eX11_fillsRow_69 rfl).run ?_
  refine (go_istore 7 (L' := [some (.ref 88), some (.int x1), some (.int x2), some (.int x3), some (.int x4), some (.int x5), some (.int 0), some (.int 0), none, none]) eX11_fillsRow_70 (Nat.le_of_ble_eq_true rfl) rfl).run ?_
  exact k1

set_option maxRecDepth 20000 in
theorem bX11_fillsRow_72 {d : Nat} {Q : Option Value → St → Prop} (x1 : Int32) (x2 : Int32) (x3 : Int32) (x4 : Int32) (x5 : Int32) (x6 : Int32) (x7 : Int32) (σ : St) 
    (g1 : x7 < x2 → vp_in x7 32)
    (k1 : x2 ≤ x7 → Run MX11_fillsRow (d + 1) 119 [some (.ref 88), some (.int x1), some (.int x2), some (.int x3), some (.int x4), some (.int x5), some (.int x6), some (.int (if x1 ≤ 0 then (0 : Int32) else x6)), none, none] [] σ Q)
    (k2 : x7 < x2 → Run MX11_fillsRow (d + 1) 72 [some (.ref 88), some (.int x1), some (.int x2), some (.int x3), some (.int x4), some (.int x5), some (.int (x6 ||| (if (σ.1 93 x7.toNatClampNeg) ≤ 0 then (0 : Int32) else ((1 : Int32) <<< (x7 &&& 31))))), some (.int (x7 + 1)), none, none] [] σ Q)
    : Run MX11_fillsRow (d + 1) 72 [some (.ref 88), some (.int x1), some (.int x2), some (.int x3), some (.int x4), some (.int x5), some (.int x6), some (.int x7), none, none] [] σ Q := by
  refine (go_iload 7 eX11_fillsRow_72 rfl).run ?_
  refine (go_iload_n 2 eX11_fillsRow_74 rfl rfl).run ?_
  refine (bi_ge 107 eX11_fillsRow_75 rfl).run (fun h1 => ?_) (fun h1 => ?_)
  · refine (go_iload_n 1 eX11_fillsRow_107 rfl rfl).run ?_
    have hJh2 : Run MX11_fillsRow (d + 1) 117 [some (.ref 88), some (.int x1), some (.int x2), some (.int x3), some (.int x4), some (.int x5), some (.int x6), none, none, none] [.int (if x1 ≤ 0 then (0 : Int32) else x6)] σ Q := by
      refine (go_istore 7 (L' := [some (.ref 88), some (.int x1), some (.int x2), some (.int x3), some (.int x4), some (.int x5), some (.int x6), some (.int (if x1 ≤ 0 then (0 : Int32) else x6)), none, none]) eX11_fillsRow_117 (Nat.le_of_ble_eq_true rfl) rfl).run ?_
      exact (k1 h1)
    refine (bz_le 116 eX11_fillsRow_108 rfl).run (fun h2 => ?_) (fun h2 => ?_)
    · refine (go_iconst (v := 0) eX11_fillsRow_116 rfl).run ?_
      refine (go_sub (L' := [some (.ref 88), some (.int x1), some (.int x2), some (.int x3), some (.int x4), some (.int x5), some (.int x6), none, none, none]) (lsub_keep (lsub_keep (lsub_keep (lsub_keep (lsub_keep (lsub_keep (lsub_keep (lsub_drop (lsub_keep (lsub_keep lsub_nil))))))))))).run ?_
      first | exact hJh2 | (simp only [if_pos h2] at hJh2; exact hJh2) | (simp only [eq_true h2, eq_false (i32_nlt.mpr h2), true_and, and_true, false_and, and_false, true_or, or_true, false_or, or_false, not_true_eq_false, not_false_eq_true] at hJh2; exact hJh2) | exact Run.eq (by simp [eq_true h2, eq_false (i32_nlt.mpr h2), bI]) (by simp [eq_true h2, eq_false (i32_nlt.mpr h2), bI]) rfl hJh2
    · refine (go_iload 6 eX11_fillsRow_111 rfl).run ?_
      refine (go_goto 117 eX11_fillsRow_113 rfl).run ?_
      refine (go_sub (L' := [some (.ref 88), some (.int x1), some (.int x2), some (.int x3), some (.int x4), some (.int x5), some (.int x6), none, none, none]) (lsub_keep (lsub_keep (lsub_keep (lsub_keep (lsub_keep (lsub_keep (lsub_keep (lsub_drop (lsub_keep (lsub_keep lsub_nil))))))))))).run ?_
      first | exact hJh2 | (simp only [if_neg (i32_nle.mpr h2)] at hJh2; exact hJh2) | (simp only [eq_true h2, eq_false (i32_nle.mpr h2), true_and, and_true, false_and, and_false, true_or, or_true, false_or, or_false, not_true_eq_false, not_false_eq_true] at hJh2; exact hJh2) | exact Run.eq (by simp [eq_true h2, eq_false (i32_nle.mpr h2), bI]) (by simp [eq_true h2, eq_false (i32_nle.mpr h2), bI]) rfl hJh2
  · refine (go_iload 6 eX11_fillsRow_78 rfl).run ?_
    refine (go_aload_n 0 eX11_fillsRow_80 rfl rfl).run ?_
    refine (go_getr flX11_30 rf_10_7 kd_88 gr_88_7 eX11_fillsRow_81).run ?_
    refine (go_iload 7 eX11_fillsRow_84 rfl).run ?_
    refine (go_iald kd_93 ln_93 (g1 h1) eX11_fillsRow_86).run ?_
    have hJh3 : Run MX11_fillsRow (d + 1) 98 [some (.ref 88), some (.int x1), some (.int x2), some (.int x3), some (.int x4), some (.int x5), none, some (.int x7), none, none] [.int (if (σ.1 93 x7.toNatClampNeg) ≤ 0 then (0 : Int32) else ((1 : Int32) <<< (x7 &&& 31))), .int x6] σ Q := by
      refine (go_ior eX11_fillsRow_98).run ?_
      refine (go_istore 6 (L' := [some (.ref 88), some (.int x1), some (.int x2), some (.int x3), some (.int x4), some (.int x5), some (.int (x6 ||| (if (σ.1 93 x7.toNatClampNeg) ≤ 0 then (0 : Int32) else ((1 : Int32) <<< (x7 &&& 31))))), some (.int x7), none, none]) eX11_fillsRow_99 (Nat.le_of_ble_eq_true rfl) rfl).run ?_
      refine (go_iinc 7 (v := (x7 + 1)) (L' := [some (.ref 88), some (.int x1), some (.int x2), some (.int x3), some (.int x4), some (.int x5), some (.int (x6 ||| (if (σ.1 93 x7.toNatClampNeg) ≤ 0 then (0 : Int32) else ((1 : Int32) <<< (x7 &&& 31))))), some (.int (x7 + 1)), none, none]) eX11_fillsRow_101 rfl rfl (Nat.le_of_ble_eq_true rfl) rfl).run ?_
      refine (go_goto 72 eX11_fillsRow_104 rfl).run ?_
      exact (k2 h1)
    refine (bz_le 97 eX11_fillsRow_87 rfl).run (fun h3 => ?_) (fun h3 => ?_)
    · refine (go_iconst (v := 0) eX11_fillsRow_97 rfl).run ?_
      refine (go_sub (L' := [some (.ref 88), some (.int x1), some (.int x2), some (.int x3), some (.int x4), some (.int x5), none, some (.int x7), none, none]) (lsub_keep (lsub_keep (lsub_keep (lsub_keep (lsub_keep (lsub_keep (lsub_drop (lsub_keep (lsub_keep (lsub_keep lsub_nil))))))))))).run ?_
      first | exact hJh3 | (simp only [if_pos h3] at hJh3; exact hJh3) | (simp only [eq_true h3, eq_false (i32_nlt.mpr h3), true_and, and_true, false_and, and_false, true_or, or_true, false_or, or_false, not_true_eq_false, not_false_eq_true] at hJh3; exact hJh3) | exact Run.eq (by simp [eq_true h3, eq_false (i32_nlt.mpr h3), bI]) (by simp [eq_true h3, eq_false (i32_nlt.mpr h3), bI]) rfl hJh3
    · refine (go_iconst (v := 1) eX11_fillsRow_90 rfl).run ?_
      refine (go_iload 7 eX11_fillsRow_91 rfl).run ?_
      refine (go_ishl eX11_fillsRow_93).run ?_
      refine (go_goto 98 eX11_fillsRow_94 rfl).run ?_
      refine (go_sub (L' := [some (.ref 88), some (.int x1), some (.int x2), some (.int x3), some (.int x4), some (.int x5), none, some (.int x7), none, none]) (lsub_keep (lsub_keep (lsub_keep (lsub_keep (lsub_keep (lsub_keep (lsub_drop (lsub_keep (lsub_keep (lsub_keep lsub_nil))))))))))).run ?_
      first | exact hJh3 | (simp only [if_neg (i32_nle.mpr h3)] at hJh3; exact hJh3) | (simp only [eq_true h3, eq_false (i32_nle.mpr h3), true_and, and_true, false_and, and_false, true_or, or_true, false_or, or_false, not_true_eq_false, not_false_eq_true] at hJh3; exact hJh3) | exact Run.eq (by simp [eq_true h3, eq_false (i32_nle.mpr h3), bI]) (by simp [eq_true h3, eq_false (i32_nle.mpr h3), bI]) rfl hJh3

set_option maxRecDepth 20000 in
theorem bX11_fillsRow_119 {d : Nat} {Q : Option Value → St → Prop} (x1 : Int32) (x2 : Int32) (x3 : Int32) (x4 : Int32) (x5 : Int32) (x6 : Int32) (x7 : Int32) (σ : St) 
    (k1 : x7 ≤ 0 → Run MX11_fillsRow (d + 1) 3 [some (.ref 88), some (.int x1), some (.int x2), some (.int x3), some (.int (x4 + 1)), none, none, none, none, none] [] σ Q)
    (k2 : (0 : Int32) < x7 → Ct yX11_behind MX11_behind d [.ref 88, .int x7, .int x2, .int x3] σ (fun v σ1 => Run MX11_fillsRow (d + 1) 132 [some (.ref 88), some (.int x1), some (.int x2), some (.int x3), some (.int x4), some (.int x5), some (.int x6), some (.int x7), none, none] (v.toList ++ []) σ1 Q))
    : Run MX11_fillsRow (d + 1) 119 [some (.ref 88), some (.int x1), some (.int x2), some (.int x3), some (.int x4), some (.int x5), some (.int x6), some (.int x7), none, none] [] σ Q := by
  refine (go_iload 7 eX11_fillsRow_119 rfl).run ?_
  refine (bz_le 269 eX11_fillsRow_121 rfl).run (fun h1 => ?_) (fun h1 => ?_)
  · refine (go_iinc 4 (v := (x4 + 1)) (L' := [some (.ref 88), some (.int x1), some (.int x2), some (.int x3), some (.int (x4 + 1)), some (.int x5), some (.int x6), some (.int x7), none, none]) eX11_fillsRow_269 rfl rfl (Nat.le_of_ble_eq_true rfl) rfl).run ?_
    refine (go_goto 3 eX11_fillsRow_272 rfl).run ?_
    refine (go_sub (L' := [some (.ref 88), some (.int x1), some (.int x2), some (.int x3), some (.int (x4 + 1)), none, none, none, none, none]) (lsub_keep (lsub_keep (lsub_keep (lsub_keep (lsub_keep (lsub_drop (lsub_drop (lsub_drop (lsub_keep (lsub_keep lsub_nil))))))))))).run ?_
    exact (k1 h1)
  · refine (go_aload_n 0 eX11_fillsRow_124 rfl rfl).run ?_
    refine (go_iload 7 eX11_fillsRow_125 rfl).run ?_
    refine (go_iload_n 2 eX11_fillsRow_127 rfl rfl).run ?_
    refine (go_iload_n 3 eX11_fillsRow_128 rfl rfl).run ?_
    exact Run.callV (d := d) (As := [.int x7, .int x2, .int x3]) mX11_behind lkX11_215 kd_88 (by decide) rfl rfl rfl rfl rfl (Nat.le_of_ble_eq_true rfl) eX11_fillsRow_129 (k2 h1)

set_option maxRecDepth 20000 in
theorem bX11_fillsRow_132 {d : Nat} {Q : Option Value → St → Prop} (x1 : Int32) (x2 : Int32) (x3 : Int32) (x4 : Int32) (x5 : Int32) (x6 : Int32) (x7 : Int32) (s0 : Int32) (σ : St) 
    (g1 : ¬ s0 = (-4) → vp_in (((σ.1 88 24) * (x1 - 1)) + s0) 35280)
    (g2 : s0 = (-4) → vp_in x5 35280)
    (g3 : s0 = (-4) → (σ.1 99 x5.toNatClampNeg) ≤ 1000 → ¬ s0 = (-4) → (1000 : Int32) < 1000 → (1000 : Int32) = (σ.1 99 x5.toNatClampNeg) → vp_in (((σ.1 88 24) * (x1 - 1)) + s0) 35280)
    (g4 : s0 = (-4) → (1000 : Int32) < (σ.1 99 x5.toNatClampNeg) → ¬ s0 = (-4) → (1000 : Int32) < 1000 → (1000 : Int32) = ((upd (σ.1 99) x5.toNatClampNeg 1000) x5.toNatClampNeg) → vp_in (((σ.1 88 24) * (x1 - 1)) + s0) 35280)
    (k1 : ¬ s0 = (-4) → Ct yX11_few MX11_few d [.int x7] σ (fun v σ1 => Run MX11_fillsRow (d + 1) 168 [some (.ref 88), some (.int x1), some (.int x2), some (.int x3), some (.int x4), some (.int x5), some (.int x6), some (.int x7), some (.int s0), none] (v.toList ++ [.int (σ.1 99 (((σ.1 88 24) * (x1 - 1)) + s0).toNatClampNeg)]) σ1 Q))
    (k2 : s0 = (-4) → (σ.1 99 x5.toNatClampNeg) ≤ 1000 → Run MX11_fillsRow (d + 1) 119 [some (.ref 88), some (.int x1), some (.int x2), some (.int x3), some (.int x4), some (.int x5), some (.int x6), some (.int ((x7 - 1) &&& x6)), none, none] [] (sA σ 100 (upd (σ.1 100) x5.toNatClampNeg ((σ.1 100 x5.toNatClampNeg) + (if s0 = (-4) then (0 : Int32) else (if (1000 : Int32) ≤ 1000 then (0 : Int32) else (if (1000 : Int32) = (σ.1 99 x5.toNatClampNeg) then (σ.1 100 (((σ.1 88 24) * (x1 - 1)) + s0).toNatClampNeg) else 0)))))) Q)
    (k3 : s0 = (-4) → (1000 : Int32) < (σ.1 99 x5.toNatClampNeg) → Run MX11_fillsRow (d + 1) 119 [some (.ref 88), some (.int x1), some (.int x2), some (.int x3), some (.int x4), some (.int x5), some (.int x6), some (.int ((x7 - 1) &&& x6)), none, none] [] (sA (sA (sA σ 99 (upd (σ.1 99) x5.toNatClampNeg 1000)) 100 (upd (σ.1 100) x5.toNatClampNeg 0)) 100 (upd (upd (σ.1 100) x5.toNatClampNeg 0) x5.toNatClampNeg (((upd (σ.1 100) x5.toNatClampNeg 0) x5.toNatClampNeg) + (if s0 = (-4) then (0 : Int32) else (if (1000 : Int32) ≤ 1000 then (0 : Int32) else (if (1000 : Int32) = ((upd (σ.1 99) x5.toNatClampNeg 1000) x5.toNatClampNeg) then ((upd (σ.1 100) x5.toNatClampNeg 0) (((σ.1 88 24) * (x1 - 1)) + s0).toNatClampNeg) else 0)))))) Q)
    : Run MX11_fillsRow (d + 1) 132 [some (.ref 88), some (.int x1), some (.int x2), some (.int x3), some (.int x4), some (.int x5), some (.int x6), some (.int x7), none, none] [.int s0] σ Q := by
  refine (go_istore 8 (L' := [some (.ref 88), some (.int x1), some (.int x2), some (.int x3), some (.int x4), some (.int x5), some (.int x6), some (.int x7), some (.int s0), none]) eX11_fillsRow_132 (Nat.le_of_ble_eq_true rfl) rfl).run ?_
  refine (go_iload 8 eX11_fillsRow_134 rfl).run ?_
  refine (go_bipush (v := -4) eX11_fillsRow_136 rfl).run ?_
  refine (bi_ne 147 eX11_fillsRow_138 rfl).run (fun h1 => ?_) (fun h1 => ?_)
  · refine (go_aload_n 0 eX11_fillsRow_147 rfl rfl).run ?_
    refine (go_getr flX11_55 rf_10_22 kd_88 gr_88_22 eX11_fillsRow_148).run ?_
    refine (go_aload_n 0 eX11_fillsRow_151 rfl rfl).run ?_
    refine (go_geti flX11_209 rf_10_24 kd_88 eX11_fillsRow_152).run ?_
    refine (go_iload_n 1 eX11_fillsRow_155 rfl rfl).run ?_
    refine (go_iconst (v := 1) eX11_fillsRow_156 rfl).run ?_
    refine (go_isub eX11_fillsRow_157).run ?_
    refine (go_imul eX11_fillsRow_158).run ?_
    refine (go_iload 8 eX11_fillsRow_159 rfl).run ?_
    refine (go_iadd eX11_fillsRow_161).run ?_
    refine (go_iald kd_99 ln_99 (g1 h1) eX11_fillsRow_162).run ?_
    refine (go_iload 7 eX11_fillsRow_163 rfl).run ?_
    exact Run.callS (d := d) (As := [.int x7]) mX11_few lkX11_219 rfl rfl rfl (Nat.le_of_ble_eq_true rfl) eX11_fillsRow_165 (k1 h1)
  · refine (go_sipush (v := 1000) eX11_fillsRow_141 rfl).run ?_
    refine (go_goto 169 eX11_fillsRow_144 rfl).run ?_
    refine (go_istore 9 (L' := [some (.ref 88), some (.int x1), some (.int x2), some (.int x3), some (.int x4), some (.int x5), some (.int x6), some (.int x7), some (.int s0), some (.int 1000)]) eX11_fillsRow_169 (Nat.le_of_ble_eq_true rfl) rfl).run ?_
    refine (go_iload 9 eX11_fillsRow_171 rfl).run ?_
    refine (go_aload_n 0 eX11_fillsRow_173 rfl rfl).run ?_
    refine (go_getr flX11_55 rf_10_22 kd_88 gr_88_22 eX11_fillsRow_174).run ?_
    refine (go_iload 5 eX11_fillsRow_177 rfl).run ?_
    refine (go_iald kd_99 ln_99 (g2 h1) eX11_fillsRow_179).run ?_
    refine (bi_ge 200 eX11_fillsRow_180 rfl).run (fun h2 => ?_) (fun h2 => ?_)
    · refine (go_aload_n 0 eX11_fillsRow_200 rfl rfl).run ?_
      refine (go_getr flX11_58 rf_10_23 kd_88 gr_88_23 eX11_fillsRow_201).run ?_
      refine (go_iload 5 eX11_fillsRow_204 rfl).run ?_
      refine (go_dup2 eX11_fillsRow_206 rfl rfl).run ?_
      refine (go_iald kd_100 ln_100 (g2 h1) eX11_fillsRow_207).run ?_
      refine (go_iload 8 eX11_fillsRow_208 rfl).run ?_
      refine (go_bipush (v := -4) eX11_fillsRow_210 rfl).run ?_
      have hJh3 : Run MX11_fillsRow (d + 1) 255 [some (.ref 88), some (.int x1), some (.int x2), some (.int x3), some (.int x4), some (.int x5), some (.int x6), some (.int x7), none, none] [.int (if s0 = (-4) then (0 : Int32) else (if (1000 : Int32) ≤ 1000 then (0 : Int32) else (if (1000 : Int32) = (σ.1 99 x5.toNatClampNeg) then (σ.1 100 (((σ.1 88 24) * (x1 - 1)) + s0).toNatClampNeg) else 0))), .int (σ.1 100 x5.toNatClampNeg), .int x5, .ref 100] σ Q := by
        refine (go_iadd eX11_fillsRow_255).run ?_
        refine (go_iast kd_100 ln_100 (g2 h1) eX11_fillsRow_256).run ?_
        refine (go_iload 7 eX11_fillsRow_257 rfl).run ?_
        refine (go_iconst (v := 1) eX11_fillsRow_259 rfl).run ?_
        refine (go_isub eX11_fillsRow_260).run ?_
        refine (go_iload 6 eX11_fillsRow_261 rfl).run ?_
        refine (go_iand eX11_fillsRow_263).run ?_
        refine (go_istore 7 (L' := [some (.ref 88), some (.int x1), some (.int x2), some (.int x3), some (.int x4), some (.int x5), some (.int x6), some (.int ((x7 - 1) &&& x6)), none, none]) eX11_fillsRow_264 (Nat.le_of_ble_eq_true rfl) rfl).run ?_
        refine (go_goto 119 eX11_fillsRow_266 rfl).run ?_
        exact (k2 h1 h2)
      refine (bi_eq 254 eX11_fillsRow_212 rfl).run (fun h3 => ?_) (fun h3 => ?_)
      · refine (go_iconst (v := 0) eX11_fillsRow_254 rfl).run ?_
        refine (go_sub (L' := [some (.ref 88), some (.int x1), some (.int x2), some (.int x3), some (.int x4), some (.int x5), some (.int x6), some (.int x7), none, none]) (lsub_keep (lsub_keep (lsub_keep (lsub_keep (lsub_keep (lsub_keep (lsub_keep (lsub_keep (lsub_drop (lsub_drop lsub_nil))))))))))).run ?_
        first | exact hJh3 | (simp only [if_pos h3] at hJh3; exact hJh3) | (simp only [eq_true h3, not_true_eq_false, true_and, and_true, false_and, and_false, true_or, or_true, false_or, or_false, not_true_eq_false, not_false_eq_true] at hJh3; exact hJh3) | exact Run.eq (by simp [eq_true h3, not_true_eq_false, bI]) (by simp [eq_true h3, not_true_eq_false, bI]) rfl hJh3
      · refine (go_iload 9 eX11_fillsRow_215 rfl).run ?_
        refine (go_sipush (v := 1000) eX11_fillsRow_217 rfl).run ?_
        have hJh4 : Run MX11_fillsRow (d + 1) 255 [some (.ref 88), some (.int x1), some (.int x2), some (.int x3), some (.int x4), some (.int x5), some (.int x6), some (.int x7), none, none] [.int (if (1000 : Int32) ≤ 1000 then (0 : Int32) else (if (1000 : Int32) = (σ.1 99 x5.toNatClampNeg) then (σ.1 100 (((σ.1 88 24) * (x1 - 1)) + s0).toNatClampNeg) else 0)), .int (σ.1 100 x5.toNatClampNeg), .int x5, .ref 100] σ Q := by
          first | exact hJh3 | (simp only [if_neg (h3)] at hJh3; exact hJh3) | (simp only [eq_false h3, not_false_eq_true, true_and, and_true, false_and, and_false, true_or, or_true, false_or, or_false, not_true_eq_false, not_false_eq_true] at hJh3; exact hJh3) | exact Run.eq (by simp [eq_false h3, not_false_eq_true, bI]) (by simp [eq_false h3, not_false_eq_true, bI]) rfl hJh3
        refine (bi_ge 254 eX11_fillsRow_220 rfl).run (fun h4 => ?_) (fun h4 => ?_)
        · refine (go_iconst (v := 0) eX11_fillsRow_254 rfl).run ?_
          refine (go_sub (L' := [some (.ref 88), some (.int x1), some (.int x2), some (.int x3), some (.int x4), some (.int x5), some (.int x6), some (.int x7), none, none]) (lsub_keep (lsub_keep (lsub_keep (lsub_keep (lsub_keep (lsub_keep (lsub_keep (lsub_keep (lsub_drop (lsub_drop lsub_nil))))))))))).run ?_
          first | exact hJh4 | (simp only [if_pos h4] at hJh4; exact hJh4) | (simp only [eq_true h4, eq_false (i32_nlt.mpr h4), true_and, and_true, false_and, and_false, true_or, or_true, false_or, or_false, not_true_eq_false, not_false_eq_true] at hJh4; exact hJh4) | exact Run.eq (by simp [eq_true h4, eq_false (i32_nlt.mpr h4), bI]) (by simp [eq_true h4, eq_false (i32_nlt.mpr h4), bI]) rfl hJh4
        · refine (go_iload 9 eX11_fillsRow_223 rfl).run ?_
          refine (go_aload_n 0 eX11_fillsRow_225 rfl rfl).run ?_
          refine (go_getr flX11_55 rf_10_22 kd_88 gr_88_22 eX11_fillsRow_226).run ?_
          refine (go_iload 5 eX11_fillsRow_229 rfl).run ?_
          refine (go_iald kd_99 ln_99 (g2 h1) eX11_fillsRow_231).run ?_
          have hJh5 : Run MX11_fillsRow (d + 1) 255 [some (.ref 88), some (.int x1), some (.int x2), some (.int x3), some (.int x4), some (.int x5), some (.int x6), some (.int x7), none, none] [.int (if (1000 : Int32) = (σ.1 99 x5.toNatClampNeg) then (σ.1 100 (((σ.1 88 24) * (x1 - 1)) + s0).toNatClampNeg) else 0), .int (σ.1 100 x5.toNatClampNeg), .int x5, .ref 100] σ Q := by
            first | exact hJh4 | (simp only [if_neg (i32_nle.mpr h4)] at hJh4; exact hJh4) | (simp only [eq_true h4, eq_false (i32_nle.mpr h4), true_and, and_true, false_and, and_false, true_or, or_true, false_or, or_false, not_true_eq_false, not_false_eq_true] at hJh4; exact hJh4) | exact Run.eq (by simp [eq_true h4, eq_false (i32_nle.mpr h4), bI]) (by simp [eq_true h4, eq_false (i32_nle.mpr h4), bI]) rfl hJh4
          refine (bi_ne 254 eX11_fillsRow_232 rfl).run (fun h5 => ?_) (fun h5 => ?_)
          · refine (go_iconst (v := 0) eX11_fillsRow_254 rfl).run ?_
            refine (go_sub (L' := [some (.ref 88), some (.int x1), some (.int x2), some (.int x3), some (.int x4), some (.int x5), some (.int x6), some (.int x7), none, none]) (lsub_keep (lsub_keep (lsub_keep (lsub_keep (lsub_keep (lsub_keep (lsub_keep (lsub_keep (lsub_drop (lsub_drop lsub_nil))))))))))).run ?_
            first | exact hJh5 | (simp only [if_neg (h5)] at hJh5; exact hJh5) | (simp only [eq_false h5, not_false_eq_true, true_and, and_true, false_and, and_false, true_or, or_true, false_or, or_false, not_true_eq_false, not_false_eq_true] at hJh5; exact hJh5) | exact Run.eq (by simp [eq_false h5, not_false_eq_true, bI]) (by simp [eq_false h5, not_false_eq_true, bI]) rfl hJh5
          · refine (go_aload_n 0 eX11_fillsRow_235 rfl rfl).run ?_
            refine (go_getr flX11_58 rf_10_23 kd_88 gr_88_23 eX11_fillsRow_236).run ?_
            refine (go_aload_n 0 eX11_fillsRow_239 rfl rfl).run ?_
            refine (go_geti flX11_209 rf_10_24 kd_88 eX11_fillsRow_240).run ?_
            refine (go_iload_n 1 eX11_fillsRow_243 rfl rfl).run ?_
            refine (go_iconst (v := 1) eX11_fillsRow_244 rfl).run ?_
            refine (go_isub eX11_fillsRow_245).run ?_
            refine (go_imul eX11_fillsRow_246).run ?_
            refine (go_iload 8 eX11_fillsRow_247 rfl).run ?_
            refine (go_iadd eX11_fillsRow_249).run ?_
            refine (go_iald kd_100 ln_100 (g3 h1 h2 h3 h4 h5) eX11_fillsRow_250).run ?_
            refine (go_goto 255 eX11_fillsRow_251 rfl).run ?_
            refine (go_sub (L' := [some (.ref 88), some (.int x1), some (.int x2), some (.int x3), some (.int x4), some (.int x5), some (.int x6), some (.int x7), none, none]) (lsub_keep (lsub_keep (lsub_keep (lsub_keep (lsub_keep (lsub_keep (lsub_keep (lsub_keep (lsub_drop (lsub_drop lsub_nil))))))))))).run ?_
            first | exact hJh5 | (simp only [if_pos h5] at hJh5; exact hJh5) | (simp only [eq_true h5, not_true_eq_false, true_and, and_true, false_and, and_false, true_or, or_true, false_or, or_false, not_true_eq_false, not_false_eq_true] at hJh5; exact hJh5) | exact Run.eq (by simp [eq_true h5, not_true_eq_false, bI]) (by simp [eq_true h5, not_true_eq_false, bI]) rfl hJh5
    · refine (go_aload_n 0 eX11_fillsRow_183 rfl rfl).run ?_
      refine (go_getr flX11_55 rf_10_22 kd_88 gr_88_22 eX11_fillsRow_184).run ?_
      refine (go_iload 5 eX11_fillsRow_187 rfl).run ?_
      refine (go_iload 9 eX11_fillsRow_189 rfl).run ?_
      refine (go_iast kd_99 ln_99 (g2 h1) eX11_fillsRow_191).run ?_
      refine (go_aload_n 0 eX11_fillsRow_192 rfl rfl).run ?_
      refine (go_getr flX11_58 rf_10_23 kd_88 gr_88_23 eX11_fillsRow_193).run ?_
      refine (go_iload 5 eX11_fillsRow_196 rfl).run ?_
      refine (go_iconst (v := 0) eX11_fillsRow_198 rfl).run ?_
      refine (go_iast kd_100 ln_100 (g2 h1) eX11_fillsRow_199).run ?_
      refine (go_aload_n 0 eX11_fillsRow_200 rfl rfl).run ?_
      refine (go_getr flX11_58 rf_10_23 kd_88 gr_88_23 eX11_fillsRow_201).run ?_
      refine (go_iload 5 eX11_fillsRow_204 rfl).run ?_
      refine (go_dup2 eX11_fillsRow_206 rfl rfl).run ?_
      refine (go_iald kd_100 ln_100 (g2 h1) eX11_fillsRow_207).run ?_
      refine (go_iload 8 eX11_fillsRow_208 rfl).run ?_
      refine (go_bipush (v := -4) eX11_fillsRow_210 rfl).run ?_
      have hJh6 : Run MX11_fillsRow (d + 1) 255 [some (.ref 88), some (.int x1), some (.int x2), some (.int x3), some (.int x4), some (.int x5), some (.int x6), some (.int x7), none, none] [.int (if s0 = (-4) then (0 : Int32) else (if (1000 : Int32) ≤ 1000 then (0 : Int32) else (if (1000 : Int32) = ((upd (σ.1 99) x5.toNatClampNeg 1000) x5.toNatClampNeg) then ((upd (σ.1 100) x5.toNatClampNeg 0) (((σ.1 88 24) * (x1 - 1)) + s0).toNatClampNeg) else 0))), .int ((upd (σ.1 100) x5.toNatClampNeg 0) x5.toNatClampNeg), .int x5, .ref 100] (sA (sA σ 99 (upd (σ.1 99) x5.toNatClampNeg 1000)) 100 (upd (σ.1 100) x5.toNatClampNeg 0)) Q := by
        refine (go_iadd eX11_fillsRow_255).run ?_
        refine (go_iast kd_100 ln_100 (g2 h1) eX11_fillsRow_256).run ?_
        refine (go_iload 7 eX11_fillsRow_257 rfl).run ?_
        refine (go_iconst (v := 1) eX11_fillsRow_259 rfl).run ?_
        refine (go_isub eX11_fillsRow_260).run ?_
        refine (go_iload 6 eX11_fillsRow_261 rfl).run ?_
        refine (go_iand eX11_fillsRow_263).run ?_
        refine (go_istore 7 (L' := [some (.ref 88), some (.int x1), some (.int x2), some (.int x3), some (.int x4), some (.int x5), some (.int x6), some (.int ((x7 - 1) &&& x6)), none, none]) eX11_fillsRow_264 (Nat.le_of_ble_eq_true rfl) rfl).run ?_
        refine (go_goto 119 eX11_fillsRow_266 rfl).run ?_
        exact (k3 h1 h2)
      refine (bi_eq 254 eX11_fillsRow_212 rfl).run (fun (h6 : s0 = (-4)) => ?_) (fun (h6 : ¬ s0 = (-4)) => ?_)
      · refine (go_iconst (v := 0) eX11_fillsRow_254 rfl).run ?_
        refine (go_sub (L' := [some (.ref 88), some (.int x1), some (.int x2), some (.int x3), some (.int x4), some (.int x5), some (.int x6), some (.int x7), none, none]) (lsub_keep (lsub_keep (lsub_keep (lsub_keep (lsub_keep (lsub_keep (lsub_keep (lsub_keep (lsub_drop (lsub_drop lsub_nil))))))))))).run ?_
        first | exact hJh6 | (simp only [if_pos h6] at hJh6; exact hJh6) | (simp only [eq_true h6, not_true_eq_false, true_and, and_true, false_and, and_false, true_or, or_true, false_or, or_false, not_true_eq_false, not_false_eq_true] at hJh6; exact hJh6) | exact Run.eq (by simp [eq_true h6, not_true_eq_false, bI]) (by simp [eq_true h6, not_true_eq_false, bI]) rfl hJh6
      · refine (go_iload 9 eX11_fillsRow_215 rfl).run ?_
        refine (go_sipush (v := 1000) eX11_fillsRow_217 rfl).run ?_
        have hJh7 : Run MX11_fillsRow (d + 1) 255 [some (.ref 88), some (.int x1), some (.int x2), some (.int x3), some (.int x4), some (.int x5), some (.int x6), some (.int x7), none, none] [.int (if (1000 : Int32) ≤ 1000 then (0 : Int32) else (if (1000 : Int32) = ((upd (σ.1 99) x5.toNatClampNeg 1000) x5.toNatClampNeg) then ((upd (σ.1 100) x5.toNatClampNeg 0) (((σ.1 88 24) * (x1 - 1)) + s0).toNatClampNeg) else 0)), .int ((upd (σ.1 100) x5.toNatClampNeg 0) x5.toNatClampNeg), .int x5, .ref 100] (sA (sA σ 99 (upd (σ.1 99) x5.toNatClampNeg 1000)) 100 (upd (σ.1 100) x5.toNatClampNeg 0)) Q := by
          first | exact hJh6 | (simp only [if_neg (h6)] at hJh6; exact hJh6) | (simp only [eq_false h6, not_false_eq_true, true_and, and_true, false_and, and_false, true_or, or_true, false_or, or_false, not_true_eq_false, not_false_eq_true] at hJh6; exact hJh6) | exact Run.eq (by simp [eq_false h6, not_false_eq_true, bI]) (by simp [eq_false h6, not_false_eq_true, bI]) rfl hJh6
        refine (bi_ge 254 eX11_fillsRow_220 rfl).run (fun (h7 : (1000 : Int32) ≤ 1000) => ?_) (fun (h7 : (1000 : Int32) < 1000) => ?_)
        · refine (go_iconst (v := 0) eX11_fillsRow_254 rfl).run ?_
          refine (go_sub (L' := [some (.ref 88), some (.int x1), some (.int x2), some (.int x3), some (.int x4), some (.int x5), some (.int x6), some (.int x7), none, none]) (lsub_keep (lsub_keep (lsub_keep (lsub_keep (lsub_keep (lsub_keep (lsub_keep (lsub_keep (lsub_drop (lsub_drop lsub_nil))))))))))).run ?_
          first | exact hJh7 | (simp only [if_pos h7] at hJh7; exact hJh7) | (simp only [eq_true h7, eq_false (i32_nlt.mpr h7), true_and, and_true, false_and, and_false, true_or, or_true, false_or, or_false, not_true_eq_false, not_false_eq_true] at hJh7; exact hJh7) | exact Run.eq (by simp [eq_true h7, eq_false (i32_nlt.mpr h7), bI]) (by simp [eq_true h7, eq_false (i32_nlt.mpr h7), bI]) rfl hJh7
        · refine (go_iload 9 eX11_fillsRow_223 rfl).run ?_
          refine (go_aload_n 0 eX11_fillsRow_225 rfl rfl).run ?_
          refine (go_getr flX11_55 rf_10_22 kd_88 gr_88_22 eX11_fillsRow_226).run ?_
          refine (go_iload 5 eX11_fillsRow_229 rfl).run ?_
          refine (go_iald kd_99 ln_99 (g2 h1) eX11_fillsRow_231).run ?_
          have hJh8 : Run MX11_fillsRow (d + 1) 255 [some (.ref 88), some (.int x1), some (.int x2), some (.int x3), some (.int x4), some (.int x5), some (.int x6), some (.int x7), none, none] [.int (if (1000 : Int32) = ((upd (σ.1 99) x5.toNatClampNeg 1000) x5.toNatClampNeg) then ((upd (σ.1 100) x5.toNatClampNeg 0) (((σ.1 88 24) * (x1 - 1)) + s0).toNatClampNeg) else 0), .int ((upd (σ.1 100) x5.toNatClampNeg 0) x5.toNatClampNeg), .int x5, .ref 100] (sA (sA σ 99 (upd (σ.1 99) x5.toNatClampNeg 1000)) 100 (upd (σ.1 100) x5.toNatClampNeg 0)) Q := by
            first | exact hJh7 | (simp only [if_neg (i32_nle.mpr h7)] at hJh7; exact hJh7) | (simp only [eq_true h7, eq_false (i32_nle.mpr h7), true_and, and_true, false_and, and_false, true_or, or_true, false_or, or_false, not_true_eq_false, not_false_eq_true] at hJh7; exact hJh7) | exact Run.eq (by simp [eq_true h7, eq_false (i32_nle.mpr h7), bI]) (by simp [eq_true h7, eq_false (i32_nle.mpr h7), bI]) rfl hJh7
          refine (bi_ne 254 eX11_fillsRow_232 rfl).run (fun (h8 : ¬ (1000 : Int32) = ((upd (σ.1 99) x5.toNatClampNeg 1000) x5.toNatClampNeg)) => ?_) (fun (h8 : (1000 : Int32) = ((upd (σ.1 99) x5.toNatClampNeg 1000) x5.toNatClampNeg)) => ?_)
          · refine (go_iconst (v := 0) eX11_fillsRow_254 rfl).run ?_
            refine (go_sub (L' := [some (.ref 88), some (.int x1), some (.int x2), some (.int x3), some (.int x4), some (.int x5), some (.int x6), some (.int x7), none, none]) (lsub_keep (lsub_keep (lsub_keep (lsub_keep (lsub_keep (lsub_keep (lsub_keep (lsub_keep (lsub_drop (lsub_drop lsub_nil))))))))))).run ?_
            first | exact hJh8 | (simp only [if_neg (h8)] at hJh8; exact hJh8) | (simp only [eq_false h8, not_false_eq_true, true_and, and_true, false_and, and_false, true_or, or_true, false_or, or_false, not_true_eq_false, not_false_eq_true] at hJh8; exact hJh8) | exact Run.eq (by simp [eq_false h8, not_false_eq_true, bI]) (by simp [eq_false h8, not_false_eq_true, bI]) rfl hJh8
          · refine (go_aload_n 0 eX11_fillsRow_235 rfl rfl).run ?_
            refine (go_getr flX11_58 rf_10_23 kd_88 gr_88_23 eX11_fillsRow_236).run ?_
            refine (go_aload_n 0 eX11_fillsRow_239 rfl rfl).run ?_
            refine (go_geti flX11_209 rf_10_24 kd_88 eX11_fillsRow_240).run ?_
            refine (go_iload_n 1 eX11_fillsRow_243 rfl rfl).run ?_
            refine (go_iconst (v := 1) eX11_fillsRow_244 rfl).run ?_
            refine (go_isub eX11_fillsRow_245).run ?_
            refine (go_imul eX11_fillsRow_246).run ?_
            refine (go_iload 8 eX11_fillsRow_247 rfl).run ?_
            refine (go_iadd eX11_fillsRow_249).run ?_
            refine (go_iald kd_100 ln_100 (g4 h1 h2 h6 h7 h8) eX11_fillsRow_250).run ?_
            refine (go_goto 255 eX11_fillsRow_251 rfl).run ?_
            refine (go_sub (L' := [some (.ref 88), some (.int x1), some (.int x2), some (.int x3), some (.int x4), some (.int x5), some (.int x6), some (.int x7), none, none]) (lsub_keep (lsub_keep (lsub_keep (lsub_keep (lsub_keep (lsub_keep (lsub_keep (lsub_keep (lsub_drop (lsub_drop lsub_nil))))))))))).run ?_
            first | exact hJh8 | (simp only [if_pos h8] at hJh8; exact hJh8) | (simp only [eq_true h8, not_true_eq_false, true_and, and_true, false_and, and_false, true_or, or_true, false_or, or_false, not_true_eq_false, not_false_eq_true] at hJh8; exact hJh8) | exact Run.eq (by simp [eq_true h8, not_true_eq_false, bI]) (by simp [eq_true h8, not_true_eq_false, bI]) rfl hJh8

set_option maxRecDepth 20000 in
theorem bX11_fillsRow_168 {d : Nat} {Q : Option Value → St → Prop} (x1 : Int32) (x2 : Int32) (x3 : Int32) (x4 : Int32) (x5 : Int32) (x6 : Int32) (x7 : Int32) (x8 : Int32) (s0 : Int32) (s1 : Int32) (σ : St) 
    (g1 : vp_in x5 35280)
    (g2 : (σ.1 99 x5.toNatClampNeg) ≤ (s1 + s0) → ¬ x8 = (-4) → (s1 + s0) < 1000 → (s1 + s0) = (σ.1 99 x5.toNatClampNeg) → vp_in (((σ.1 88 24) * (x1 - 1)) + x8) 35280)
    (g3 : (s1 + s0) < (σ.1 99 x5.toNatClampNeg) → ¬ x8 = (-4) → (s1 + s0) < 1000 → (s1 + s0) = ((upd (σ.1 99) x5.toNatClampNeg (s1 + s0)) x5.toNatClampNeg) → vp_in (((σ.1 88 24) * (x1 - 1)) + x8) 35280)
    (k1 : (σ.1 99 x5.toNatClampNeg) ≤ (s1 + s0) → Run MX11_fillsRow (d + 1) 119 [some (.ref 88), some (.int x1), some (.int x2), some (.int x3), some (.int x4), some (.int x5), some (.int x6), some (.int ((x7 - 1) &&& x6)), none, none] [] (sA σ 100 (upd (σ.1 100) x5.toNatClampNeg ((σ.1 100 x5.toNatClampNeg) + (if x8 = (-4) then (0 : Int32) else (if (1000 : Int32) ≤ (s1 + s0) then (0 : Int32) else (if (s1 + s0) = (σ.1 99 x5.toNatClampNeg) then (σ.1 100 (((σ.1 88 24) * (x1 - 1)) + x8).toNatClampNeg) else 0)))))) Q)
    (k2 : (s1 + s0) < (σ.1 99 x5.toNatClampNeg) → Run MX11_fillsRow (d + 1) 119 [some (.ref 88), some (.int x1), some (.int x2), some (.int x3), some (.int x4), some (.int x5), some (.int x6), some (.int ((x7 - 1) &&& x6)), none, none] [] (sA (sA (sA σ 99 (upd (σ.1 99) x5.toNatClampNeg (s1 + s0))) 100 (upd (σ.1 100) x5.toNatClampNeg 0)) 100 (upd (upd (σ.1 100) x5.toNatClampNeg 0) x5.toNatClampNeg (((upd (σ.1 100) x5.toNatClampNeg 0) x5.toNatClampNeg) + (if x8 = (-4) then (0 : Int32) else (if (1000 : Int32) ≤ (s1 + s0) then (0 : Int32) else (if (s1 + s0) = ((upd (σ.1 99) x5.toNatClampNeg (s1 + s0)) x5.toNatClampNeg) then ((upd (σ.1 100) x5.toNatClampNeg 0) (((σ.1 88 24) * (x1 - 1)) + x8).toNatClampNeg) else 0)))))) Q)
    : Run MX11_fillsRow (d + 1) 168 [some (.ref 88), some (.int x1), some (.int x2), some (.int x3), some (.int x4), some (.int x5), some (.int x6), some (.int x7), some (.int x8), none] [.int s0, .int s1] σ Q := by
  refine (go_iadd eX11_fillsRow_168).run ?_
  refine (go_istore 9 (L' := [some (.ref 88), some (.int x1), some (.int x2), some (.int x3), some (.int x4), some (.int x5), some (.int x6), some (.int x7), some (.int x8), some (.int (s1 + s0))]) eX11_fillsRow_169 (Nat.le_of_ble_eq_true rfl) rfl).run ?_
  refine (go_iload 9 eX11_fillsRow_171 rfl).run ?_
  refine (go_aload_n 0 eX11_fillsRow_173 rfl rfl).run ?_
  refine (go_getr flX11_55 rf_10_22 kd_88 gr_88_22 eX11_fillsRow_174).run ?_
  refine (go_iload 5 eX11_fillsRow_177 rfl).run ?_
  refine (go_iald kd_99 ln_99 g1 eX11_fillsRow_179).run ?_
  refine (bi_ge 200 eX11_fillsRow_180 rfl).run (fun h1 => ?_) (fun h1 => ?_)
  · refine (go_aload_n 0 eX11_fillsRow_200 rfl rfl).run ?_
    refine (go_getr flX11_58 rf_10_23 kd_88 gr_88_23 eX11_fillsRow_201).run ?_
    refine (go_iload 5 eX11_fillsRow_204 rfl).run ?_
    refine (go_dup2 eX11_fillsRow_206 rfl rfl).run ?_
    refine (go_iald kd_100 ln_100 g1 eX11_fillsRow_207).run ?_
    refine (go_iload 8 eX11_fillsRow_208 rfl).run ?_
    refine (go_bipush (v := -4) eX11_fillsRow_210 rfl).run ?_
    have hJh2 : Run MX11_fillsRow (d + 1) 255 [some (.ref 88), some (.int x1), some (.int x2), some (.int x3), some (.int x4), some (.int x5), some (.int x6), some (.int x7), none, none] [.int (if x8 = (-4) then (0 : Int32) else (if (1000 : Int32) ≤ (s1 + s0) then (0 : Int32) else (if (s1 + s0) = (σ.1 99 x5.toNatClampNeg) then (σ.1 100 (((σ.1 88 24) * (x1 - 1)) + x8).toNatClampNeg) else 0))), .int (σ.1 100 x5.toNatClampNeg), .int x5, .ref 100] σ Q := by
      refine (go_iadd eX11_fillsRow_255).run ?_
      refine (go_iast kd_100 ln_100 g1 eX11_fillsRow_256).run ?_
      refine (go_iload 7 eX11_fillsRow_257 rfl).run ?_
      refine (go_iconst (v := 1) eX11_fillsRow_259 rfl).run ?_
      refine (go_isub eX11_fillsRow_260).run ?_
      refine (go_iload 6 eX11_fillsRow_261 rfl).run ?_
      refine (go_iand eX11_fillsRow_263).run ?_
      refine (go_istore 7 (L' := [some (.ref 88), some (.int x1), some (.int x2), some (.int x3), some (.int x4), some (.int x5), some (.int x6), some (.int ((x7 - 1) &&& x6)), none, none]) eX11_fillsRow_264 (Nat.le_of_ble_eq_true rfl) rfl).run ?_
      refine (go_goto 119 eX11_fillsRow_266 rfl).run ?_
      exact (k1 h1)
    refine (bi_eq 254 eX11_fillsRow_212 rfl).run (fun h2 => ?_) (fun h2 => ?_)
    · refine (go_iconst (v := 0) eX11_fillsRow_254 rfl).run ?_
      refine (go_sub (L' := [some (.ref 88), some (.int x1), some (.int x2), some (.int x3), some (.int x4), some (.int x5), some (.int x6), some (.int x7), none, none]) (lsub_keep (lsub_keep (lsub_keep (lsub_keep (lsub_keep (lsub_keep (lsub_keep (lsub_keep (lsub_drop (lsub_drop lsub_nil))))))))))).run ?_
      first | exact hJh2 | (simp only [if_pos h2] at hJh2; exact hJh2) | (simp only [eq_true h2, not_true_eq_false, true_and, and_true, false_and, and_false, true_or, or_true, false_or, or_false, not_true_eq_false, not_false_eq_true] at hJh2; exact hJh2) | exact Run.eq (by simp [eq_true h2, not_true_eq_false, bI]) (by simp [eq_true h2, not_true_eq_false, bI]) rfl hJh2
    · refine (go_iload 9 eX11_fillsRow_215 rfl).run ?_
      refine (go_sipush (v := 1000) eX11_fillsRow_217 rfl).run ?_
      have hJh3 : Run MX11_fillsRow (d + 1) 255 [some (.ref 88), some (.int x1), some (.int x2), some (.int x3), some (.int x4), some (.int x5), some (.int x6), some (.int x7), none, none] [.int (if (1000 : Int32) ≤ (s1 + s0) then (0 : Int32) else (if (s1 + s0) = (σ.1 99 x5.toNatClampNeg) then (σ.1 100 (((σ.1 88 24) * (x1 - 1)) + x8).toNatClampNeg) else 0)), .int (σ.1 100 x5.toNatClampNeg), .int x5, .ref 100] σ Q := by
        first | exact hJh2 | (simp only [if_neg (h2)] at hJh2; exact hJh2) | (simp only [eq_false h2, not_false_eq_true, true_and, and_true, false_and, and_false, true_or, or_true, false_or, or_false, not_true_eq_false, not_false_eq_true] at hJh2; exact hJh2) | exact Run.eq (by simp [eq_false h2, not_false_eq_true, bI]) (by simp [eq_false h2, not_false_eq_true, bI]) rfl hJh2
      refine (bi_ge 254 eX11_fillsRow_220 rfl).run (fun h3 => ?_) (fun h3 => ?_)
      · refine (go_iconst (v := 0) eX11_fillsRow_254 rfl).run ?_
        refine (go_sub (L' := [some (.ref 88), some (.int x1), some (.int x2), some (.int x3), some (.int x4), some (.int x5), some (.int x6), some (.int x7), none, none]) (lsub_keep (lsub_keep (lsub_keep (lsub_keep (lsub_keep (lsub_keep (lsub_keep (lsub_keep (lsub_drop (lsub_drop lsub_nil))))))))))).run ?_
        first | exact hJh3 | (simp only [if_pos h3] at hJh3; exact hJh3) | (simp only [eq_true h3, eq_false (i32_nlt.mpr h3), true_and, and_true, false_and, and_false, true_or, or_true, false_or, or_false, not_true_eq_false, not_false_eq_true] at hJh3; exact hJh3) | exact Run.eq (by simp [eq_true h3, eq_false (i32_nlt.mpr h3), bI]) (by simp [eq_true h3, eq_false (i32_nlt.mpr h3), bI]) rfl hJh3
      · refine (go_iload 9 eX11_fillsRow_223 rfl).run ?_
        refine (go_aload_n 0 eX11_fillsRow_225 rfl rfl).run ?_
        refine (go_getr flX11_55 rf_10_22 kd_88 gr_88_22 eX11_fillsRow_226).run ?_
        refine (go_iload 5 eX11_fillsRow_229 rfl).run ?_
        refine (go_iald kd_99 ln_99 g1 eX11_fillsRow_231).run ?_
        have hJh4 : Run MX11_fillsRow (d + 1) 255 [some (.ref 88), some (.int x1), some (.int x2), some (.int x3), some (.int x4), some (.int x5), some (.int x6), some (.int x7), none, none] [.int (if (s1 + s0) = (σ.1 99 x5.toNatClampNeg) then (σ.1 100 (((σ.1 88 24) * (x1 - 1)) + x8).toNatClampNeg) else 0), .int (σ.1 100 x5.toNatClampNeg), .int x5, .ref 100] σ Q := by
          first | exact hJh3 | (simp only [if_neg (i32_nle.mpr h3)] at hJh3; exact hJh3) | (simp only [eq_true h3, eq_false (i32_nle.mpr h3), true_and, and_true, false_and, and_false, true_or, or_true, false_or, or_false, not_true_eq_false, not_false_eq_true] at hJh3; exact hJh3) | exact Run.eq (by simp [eq_true h3, eq_false (i32_nle.mpr h3), bI]) (by simp [eq_true h3, eq_false (i32_nle.mpr h3), bI]) rfl hJh3
        refine (bi_ne 254 eX11_fillsRow_232 rfl).run (fun h4 => ?_) (fun h4 => ?_)
        · refine (go_iconst (v := 0) eX11_fillsRow_254 rfl).run ?_
          refine (go_sub (L' := [some (.ref 88), some (.int x1), some (.int x2), some (.int x3), some (.int x4), some (.int x5), some (.int x6), some (.int x7), none, none]) (lsub_keep (lsub_keep (lsub_keep (lsub_keep (lsub_keep (lsub_keep (lsub_keep (lsub_keep (lsub_drop (lsub_drop lsub_nil))))))))))).run ?_
          first | exact hJh4 | (simp only [if_neg (h4)] at hJh4; exact hJh4) | (simp only [eq_false h4, not_false_eq_true, true_and, and_true, false_and, and_false, true_or, or_true, false_or, or_false, not_true_eq_false, not_false_eq_true] at hJh4; exact hJh4) | exact Run.eq (by simp [eq_false h4, not_false_eq_true, bI]) (by simp [eq_false h4, not_false_eq_true, bI]) rfl hJh4
        · refine (go_aload_n 0 eX11_fillsRow_235 rfl rfl).run ?_
          refine (go_getr flX11_58 rf_10_23 kd_88 gr_88_23 eX11_fillsRow_236).run ?_
          refine (go_aload_n 0 eX11_fillsRow_239 rfl rfl).run ?_
          refine (go_geti flX11_209 rf_10_24 kd_88 eX11_fillsRow_240).run ?_
          refine (go_iload_n 1 eX11_fillsRow_243 rfl rfl).run ?_
          refine (go_iconst (v := 1) eX11_fillsRow_244 rfl).run ?_
          refine (go_isub eX11_fillsRow_245).run ?_
          refine (go_imul eX11_fillsRow_246).run ?_
          refine (go_iload 8 eX11_fillsRow_247 rfl).run ?_
          refine (go_iadd eX11_fillsRow_249).run ?_
          refine (go_iald kd_100 ln_100 (g2 h1 h2 h3 h4) eX11_fillsRow_250).run ?_
          refine (go_goto 255 eX11_fillsRow_251 rfl).run ?_
          refine (go_sub (L' := [some (.ref 88), some (.int x1), some (.int x2), some (.int x3), some (.int x4), some (.int x5), some (.int x6), some (.int x7), none, none]) (lsub_keep (lsub_keep (lsub_keep (lsub_keep (lsub_keep (lsub_keep (lsub_keep (lsub_keep (lsub_drop (lsub_drop lsub_nil))))))))))).run ?_
          first | exact hJh4 | (simp only [if_pos h4] at hJh4; exact hJh4) | (simp only [eq_true h4, not_true_eq_false, true_and, and_true, false_and, and_false, true_or, or_true, false_or, or_false, not_true_eq_false, not_false_eq_true] at hJh4; exact hJh4) | exact Run.eq (by simp [eq_true h4, not_true_eq_false, bI]) (by simp [eq_true h4, not_true_eq_false, bI]) rfl hJh4
  · refine (go_aload_n 0 eX11_fillsRow_183 rfl rfl).run ?_
    refine (go_getr flX11_55 rf_10_22 kd_88 gr_88_22 eX11_fillsRow_184).run ?_
    refine (go_iload 5 eX11_fillsRow_187 rfl).run ?_
    refine (go_iload 9 eX11_fillsRow_189 rfl).run ?_
    refine (go_iast kd_99 ln_99 g1 eX11_fillsRow_191).run ?_
    refine (go_aload_n 0 eX11_fillsRow_192 rfl rfl).run ?_
    refine (go_getr flX11_58 rf_10_23 kd_88 gr_88_23 eX11_fillsRow_193).run ?_
    refine (go_iload 5 eX11_fillsRow_196 rfl).run ?_
    refine (go_iconst (v := 0) eX11_fillsRow_198 rfl).run ?_
    refine (go_iast kd_100 ln_100 g1 eX11_fillsRow_199).run ?_
    refine (go_aload_n 0 eX11_fillsRow_200 rfl rfl).run ?_
    refine (go_getr flX11_58 rf_10_23 kd_88 gr_88_23 eX11_fillsRow_201).run ?_
    refine (go_iload 5 eX11_fillsRow_204 rfl).run ?_
    refine (go_dup2 eX11_fillsRow_206 rfl rfl).run ?_
    refine (go_iald kd_100 ln_100 g1 eX11_fillsRow_207).run ?_
    refine (go_iload 8 eX11_fillsRow_208 rfl).run ?_
    refine (go_bipush (v := -4) eX11_fillsRow_210 rfl).run ?_
    have hJh5 : Run MX11_fillsRow (d + 1) 255 [some (.ref 88), some (.int x1), some (.int x2), some (.int x3), some (.int x4), some (.int x5), some (.int x6), some (.int x7), none, none] [.int (if x8 = (-4) then (0 : Int32) else (if (1000 : Int32) ≤ (s1 + s0) then (0 : Int32) else (if (s1 + s0) = ((upd (σ.1 99) x5.toNatClampNeg (s1 + s0)) x5.toNatClampNeg) then ((upd (σ.1 100) x5.toNatClampNeg 0) (((σ.1 88 24) * (x1 - 1)) + x8).toNatClampNeg) else 0))), .int ((upd (σ.1 100) x5.toNatClampNeg 0) x5.toNatClampNeg), .int x5, .ref 100] (sA (sA σ 99 (upd (σ.1 99) x5.toNatClampNeg (s1 + s0))) 100 (upd (σ.1 100) x5.toNatClampNeg 0)) Q := by
      refine (go_iadd eX11_fillsRow_255).run ?_
      refine (go_iast kd_100 ln_100 g1 eX11_fillsRow_256).run ?_
      refine (go_iload 7 eX11_fillsRow_257 rfl).run ?_
      refine (go_iconst (v := 1) eX11_fillsRow_259 rfl).run ?_
      refine (go_isub eX11_fillsRow_260).run ?_
      refine (go_iload 6 eX11_fillsRow_261 rfl).run ?_
      refine (go_iand eX11_fillsRow_263).run ?_
      refine (go_istore 7 (L' := [some (.ref 88), some (.int x1), some (.int x2), some (.int x3), some (.int x4), some (.int x5), some (.int x6), some (.int ((x7 - 1) &&& x6)), none, none]) eX11_fillsRow_264 (Nat.le_of_ble_eq_true rfl) rfl).run ?_
      refine (go_goto 119 eX11_fillsRow_266 rfl).run ?_
      exact (k2 h1)
    refine (bi_eq 254 eX11_fillsRow_212 rfl).run (fun (h5 : x8 = (-4)) => ?_) (fun (h5 : ¬ x8 = (-4)) => ?_)
    · refine (go_iconst (v := 0) eX11_fillsRow_254 rfl).run ?_
      refine (go_sub (L' := [some (.ref 88), some (.int x1), some (.int x2), some (.int x3), some (.int x4), some (.int x5), some (.int x6), some (.int x7), none, none]) (lsub_keep (lsub_keep (lsub_keep (lsub_keep (lsub_keep (lsub_keep (lsub_keep (lsub_keep (lsub_drop (lsub_drop lsub_nil))))))))))).run ?_
      first | exact hJh5 | (simp only [if_pos h5] at hJh5; exact hJh5) | (simp only [eq_true h5, not_true_eq_false, true_and, and_true, false_and, and_false, true_or, or_true, false_or, or_false, not_true_eq_false, not_false_eq_true] at hJh5; exact hJh5) | exact Run.eq (by simp [eq_true h5, not_true_eq_false, bI]) (by simp [eq_true h5, not_true_eq_false, bI]) rfl hJh5
    · refine (go_iload 9 eX11_fillsRow_215 rfl).run ?_
      refine (go_sipush (v := 1000) eX11_fillsRow_217 rfl).run ?_
      have hJh6 : Run MX11_fillsRow (d + 1) 255 [some (.ref 88), some (.int x1), some (.int x2), some (.int x3), some (.int x4), some (.int x5), some (.int x6), some (.int x7), none, none] [.int (if (1000 : Int32) ≤ (s1 + s0) then (0 : Int32) else (if (s1 + s0) = ((upd (σ.1 99) x5.toNatClampNeg (s1 + s0)) x5.toNatClampNeg) then ((upd (σ.1 100) x5.toNatClampNeg 0) (((σ.1 88 24) * (x1 - 1)) + x8).toNatClampNeg) else 0)), .int ((upd (σ.1 100) x5.toNatClampNeg 0) x5.toNatClampNeg), .int x5, .ref 100] (sA (sA σ 99 (upd (σ.1 99) x5.toNatClampNeg (s1 + s0))) 100 (upd (σ.1 100) x5.toNatClampNeg 0)) Q := by
        first | exact hJh5 | (simp only [if_neg (h5)] at hJh5; exact hJh5) | (simp only [eq_false h5, not_false_eq_true, true_and, and_true, false_and, and_false, true_or, or_true, false_or, or_false, not_true_eq_false, not_false_eq_true] at hJh5; exact hJh5) | exact Run.eq (by simp [eq_false h5, not_false_eq_true, bI]) (by simp [eq_false h5, not_false_eq_true, bI]) rfl hJh5
      refine (bi_ge 254 eX11_fillsRow_220 rfl).run (fun (h6 : (1000 : Int32) ≤ (s1 + s0)) => ?_) (fun (h6 : (s1 + s0) < 1000) => ?_)
      · refine (go_iconst (v := 0) eX11_fillsRow_254 rfl).run ?_
        refine (go_sub (L' := [some (.ref 88), some (.int x1), some (.int x2), some (.int x3), some (.int x4), some (.int x5), some (.int x6), some (.int x7), none, none]) (lsub_keep (lsub_keep (lsub_keep (lsub_keep (lsub_keep (lsub_keep (lsub_keep (lsub_keep (lsub_drop (lsub_drop lsub_nil))))))))))).run ?_
        first | exact hJh6 | (simp only [if_pos h6] at hJh6; exact hJh6) | (simp only [eq_true h6, eq_false (i32_nlt.mpr h6), true_and, and_true, false_and, and_false, true_or, or_true, false_or, or_false, not_true_eq_false, not_false_eq_true] at hJh6; exact hJh6) | exact Run.eq (by simp [eq_true h6, eq_false (i32_nlt.mpr h6), bI]) (by simp [eq_true h6, eq_false (i32_nlt.mpr h6), bI]) rfl hJh6
      · refine (go_iload 9 eX11_fillsRow_223 rfl).run ?_
        refine (go_aload_n 0 eX11_fillsRow_225 rfl rfl).run ?_
        refine (go_getr flX11_55 rf_10_22 kd_88 gr_88_22 eX11_fillsRow_226).run ?_
        refine (go_iload 5 eX11_fillsRow_229 rfl).run ?_
        refine (go_iald kd_99 ln_99 g1 eX11_fillsRow_231).run ?_
        have hJh7 : Run MX11_fillsRow (d + 1) 255 [some (.ref 88), some (.int x1), some (.int x2), some (.int x3), some (.int x4), some (.int x5), some (.int x6), some (.int x7), none, none] [.int (if (s1 + s0) = ((upd (σ.1 99) x5.toNatClampNeg (s1 + s0)) x5.toNatClampNeg) then ((upd (σ.1 100) x5.toNatClampNeg 0) (((σ.1 88 24) * (x1 - 1)) + x8).toNatClampNeg) else 0), .int ((upd (σ.1 100) x5.toNatClampNeg 0) x5.toNatClampNeg), .int x5, .ref 100] (sA (sA σ 99 (upd (σ.1 99) x5.toNatClampNeg (s1 + s0))) 100 (upd (σ.1 100) x5.toNatClampNeg 0)) Q := by
          first | exact hJh6 | (simp only [if_neg (i32_nle.mpr h6)] at hJh6; exact hJh6) | (simp only [eq_true h6, eq_false (i32_nle.mpr h6), true_and, and_true, false_and, and_false, true_or, or_true, false_or, or_false, not_true_eq_false, not_false_eq_true] at hJh6; exact hJh6) | exact Run.eq (by simp [eq_true h6, eq_false (i32_nle.mpr h6), bI]) (by simp [eq_true h6, eq_false (i32_nle.mpr h6), bI]) rfl hJh6
        refine (bi_ne 254 eX11_fillsRow_232 rfl).run (fun (h7 : ¬ (s1 + s0) = ((upd (σ.1 99) x5.toNatClampNeg (s1 + s0)) x5.toNatClampNeg)) => ?_) (fun (h7 : (s1 + s0) = ((upd (σ.1 99) x5.toNatClampNeg (s1 + s0)) x5.toNatClampNeg)) => ?_)
        · refine (go_iconst (v := 0) eX11_fillsRow_254 rfl).run ?_
          refine (go_sub (L' := [some (.ref 88), some (.int x1), some (.int x2), some (.int x3), some (.int x4), some (.int x5), some (.int x6), some (.int x7), none, none]) (lsub_keep (lsub_keep (lsub_keep (lsub_keep (lsub_keep (lsub_keep (lsub_keep (lsub_keep (lsub_drop (lsub_drop lsub_nil))))))))))).run ?_
          first | exact hJh7 | (simp only [if_neg (h7)] at hJh7; exact hJh7) | (simp only [eq_false h7, not_false_eq_true, true_and, and_true, false_and, and_false, true_or, or_true, false_or, or_false, not_true_eq_false, not_false_eq_true] at hJh7; exact hJh7) | exact Run.eq (by simp [eq_false h7, not_false_eq_true, bI]) (by simp [eq_false h7, not_false_eq_true, bI]) rfl hJh7
        · refine (go_aload_n 0 eX11_fillsRow_235 rfl rfl).run ?_
          refine (go_getr flX11_58 rf_10_23 kd_88 gr_88_23 eX11_fillsRow_236).run ?_
          refine (go_aload_n 0 eX11_fillsRow_239 rfl rfl).run ?_
          refine (go_geti flX11_209 rf_10_24 kd_88 eX11_fillsRow_240).run ?_
          refine (go_iload_n 1 eX11_fillsRow_243 rfl rfl).run ?_
          refine (go_iconst (v := 1) eX11_fillsRow_244 rfl).run ?_
          refine (go_isub eX11_fillsRow_245).run ?_
          refine (go_imul eX11_fillsRow_246).run ?_
          refine (go_iload 8 eX11_fillsRow_247 rfl).run ?_
          refine (go_iadd eX11_fillsRow_249).run ?_
          refine (go_iald kd_100 ln_100 (g3 h1 h5 h6 h7) eX11_fillsRow_250).run ?_
          refine (go_goto 255 eX11_fillsRow_251 rfl).run ?_
          refine (go_sub (L' := [some (.ref 88), some (.int x1), some (.int x2), some (.int x3), some (.int x4), some (.int x5), some (.int x6), some (.int x7), none, none]) (lsub_keep (lsub_keep (lsub_keep (lsub_keep (lsub_keep (lsub_keep (lsub_keep (lsub_keep (lsub_drop (lsub_drop lsub_nil))))))))))).run ?_
          first | exact hJh7 | (simp only [if_pos h7] at hJh7; exact hJh7) | (simp only [eq_true h7, not_true_eq_false, true_and, and_true, false_and, and_false, true_or, or_true, false_or, or_false, not_true_eq_false, not_false_eq_true] at hJh7; exact hJh7) | exact Run.eq (by simp [eq_true h7, not_true_eq_false, bI]) (by simp [eq_true h7, not_true_eq_false, bI]) rfl hJh7

/-! CarryNetsModel.fills -/
theorem eX11_fills_0 : decode MX11_fills.2.1 0 = .ok (.aload_n 0, 1) := by decide +kernel
theorem eX11_fills_1 : decode MX11_fills.2.1 1 = .ok (.getfield 48, 3) := by decide +kernel
theorem eX11_fills_4 : decode MX11_fills.2.1 4 = .ok (.iload_n 1, 1) := by decide +kernel
theorem eX11_fills_5 : decode MX11_fills.2.1 5 = .ok (.if_icmp .ne 12, 3) := by decide +kernel
theorem eX11_fills_8 : decode MX11_fills.2.1 8 = .ok (.aload_n 0, 1) := by decide +kernel
theorem eX11_fills_9 : decode MX11_fills.2.1 9 = .ok (.getfield 51, 3) := by decide +kernel
theorem eX11_fills_12 : decode MX11_fills.2.1 12 = .ok (.iload_n 2, 1) := by decide +kernel
theorem eX11_fills_13 : decode MX11_fills.2.1 13 = .ok (.if_icmp .ne 4, 3) := by decide +kernel
theorem eX11_fills_16 : decode MX11_fills.2.1 16 = .ok (.return_, 1) := by decide +kernel
theorem eX11_fills_17 : decode MX11_fills.2.1 17 = .ok (.aload_n 0, 1) := by decide +kernel
theorem eX11_fills_18 : decode MX11_fills.2.1 18 = .ok (.iload_n 1, 1) := by decide +kernel
theorem eX11_fills_19 : decode MX11_fills.2.1 19 = .ok (.putfield 48, 3) := by decide +kernel
theorem eX11_fills_22 : decode MX11_fills.2.1 22 = .ok (.aload_n 0, 1) := by decide +kernel
theorem eX11_fills_23 : decode MX11_fills.2.1 23 = .ok (.iload_n 2, 1) := by decide +kernel
theorem eX11_fills_24 : decode MX11_fills.2.1 24 = .ok (.putfield 51, 3) := by decide +kernel
theorem eX11_fills_27 : decode MX11_fills.2.1 27 = .ok (.aload_n 0, 1) := by decide +kernel
theorem eX11_fills_28 : decode MX11_fills.2.1 28 = .ok (.iconst 1, 1) := by decide +kernel
theorem eX11_fills_29 : decode MX11_fills.2.1 29 = .ok (.putfield 209, 3) := by decide +kernel
theorem eX11_fills_32 : decode MX11_fills.2.1 32 = .ok (.iconst 1, 1) := by decide +kernel
theorem eX11_fills_33 : decode MX11_fills.2.1 33 = .ok (.istore_n 3, 1) := by decide +kernel
theorem eX11_fills_34 : decode MX11_fills.2.1 34 = .ok (.iload_n 3, 1) := by decide +kernel
theorem eX11_fills_35 : decode MX11_fills.2.1 35 = .ok (.iload_n 1, 1) := by decide +kernel
theorem eX11_fills_36 : decode MX11_fills.2.1 36 = .ok (.if_icmp .gt 19, 3) := by decide +kernel
theorem eX11_fills_39 : decode MX11_fills.2.1 39 = .ok (.aload_n 0, 1) := by decide +kernel
theorem eX11_fills_40 : decode MX11_fills.2.1 40 = .ok (.dup, 1) := by decide +kernel
theorem eX11_fills_41 : decode MX11_fills.2.1 41 = .ok (.getfield 209, 3) := by decide +kernel
theorem eX11_fills_44 : decode MX11_fills.2.1 44 = .ok (.iload_n 3, 1) := by decide +kernel
theorem eX11_fills_45 : decode MX11_fills.2.1 45 = .ok (.imul, 1) := by decide +kernel
theorem eX11_fills_46 : decode MX11_fills.2.1 46 = .ok (.putfield 209, 3) := by decide +kernel
theorem eX11_fills_49 : decode MX11_fills.2.1 49 = .ok (.iinc 3 1, 3) := by decide +kernel
theorem eX11_fills_52 : decode MX11_fills.2.1 52 = .ok (.goto (-18), 3) := by decide +kernel
theorem eX11_fills_55 : decode MX11_fills.2.1 55 = .ok (.iconst 0, 1) := by decide +kernel
theorem eX11_fills_56 : decode MX11_fills.2.1 56 = .ok (.istore_n 3, 1) := by decide +kernel
theorem eX11_fills_57 : decode MX11_fills.2.1 57 = .ok (.iload_n 3, 1) := by decide +kernel
theorem eX11_fills_58 : decode MX11_fills.2.1 58 = .ok (.bipush 7, 2) := by decide +kernel
theorem eX11_fills_60 : decode MX11_fills.2.1 60 = .ok (.if_icmp .ge 16, 3) := by decide +kernel
theorem eX11_fills_63 : decode MX11_fills.2.1 63 = .ok (.aload_n 0, 1) := by decide +kernel
theorem eX11_fills_64 : decode MX11_fills.2.1 64 = .ok (.iload_n 3, 1) := by decide +kernel
theorem eX11_fills_65 : decode MX11_fills.2.1 65 = .ok (.iload_n 1, 1) := by decide +kernel
theorem eX11_fills_66 : decode MX11_fills.2.1 66 = .ok (.iload_n 2, 1) := by decide +kernel
theorem eX11_fills_67 : decode MX11_fills.2.1 67 = .ok (.invokevirtual 222, 3) := by decide +kernel
theorem eX11_fills_70 : decode MX11_fills.2.1 70 = .ok (.iinc 3 1, 3) := by decide +kernel
theorem eX11_fills_73 : decode MX11_fills.2.1 73 = .ok (.goto (-16), 3) := by decide +kernel
theorem eX11_fills_76 : decode MX11_fills.2.1 76 = .ok (.return_, 1) := by decide +kernel
set_option maxRecDepth 20000 in
theorem bX11_fills_0 {d : Nat} {Q : Option Value → St → Prop} (x1 : Int32) (x2 : Int32) (σ : St) 
    (k1 : ¬ (σ.1 88 20) = x1 → Run MX11_fills (d + 2) 34 [some (.ref 88), some (.int x1), some (.int x2), some (.int 1)] [] (sA (sA (sA σ 88 (upd (σ.1 88) 20 x1)) 88 (upd (upd (σ.1 88) 20 x1) 21 x2)) 88 (upd (upd (upd (σ.1 88) 20 x1) 21 x2) 24 1)) Q)
    (k2 : (σ.1 88 20) = x1 → ¬ (σ.1 88 21) = x2 → Run MX11_fills (d + 2) 34 [some (.ref 88), some (.int x1), some (.int x2), some (.int 1)] [] (sA (sA (sA σ 88 (upd (σ.1 88) 20 x1)) 88 (upd (upd (σ.1 88) 20 x1) 21 x2)) 88 (upd (upd (upd (σ.1 88) 20 x1) 21 x2) 24 1)) Q)
    (k3 : (σ.1 88 20) = x1 → (σ.1 88 21) = x2 → Q (none) σ)
    : Run MX11_fills (d + 2) 0 [some (.ref 88), some (.int x1), some (.int x2), none] [] σ Q := by
  refine (go_aload_n 0 eX11_fills_0 rfl rfl).run ?_
  refine (go_geti flX11_48 rf_10_20 kd_88 eX11_fills_1).run ?_
  refine (go_iload_n 1 eX11_fills_4 rfl rfl).run ?_
  refine (bi_ne 17 eX11_fills_5 rfl).run (fun h1 => ?_) (fun h1 => ?_)
  · refine (go_aload_n 0 eX11_fills_17 rfl rfl).run ?_
    refine (go_iload_n 1 eX11_fills_18 rfl rfl).run ?_
    refine (go_puti flX11_48 rf_10_20 rfl pf_10_20 rfl rfl kd_88 eX11_fills_19).run ?_
    refine (go_aload_n 0 eX11_fills_22 rfl rfl).run ?_
    refine (go_iload_n 2 eX11_fills_23 rfl rfl).run ?_
    refine (go_puti flX11_51 rf_10_21 rfl pf_10_21 rfl rfl kd_88 eX11_fills_24).run ?_
    refine (go_aload_n 0 eX11_fills_27 rfl rfl).run ?_
    refine (go_iconst (v := 1) eX11_fills_28 rfl).run ?_
    refine (go_puti flX11_209 rf_10_24 rfl pf_10_24 rfl rfl kd_88 eX11_fills_29).run ?_
    refine (go_iconst (v := 1) eX11_fills_32 rfl).run ?_
    refine (go_istore_n 3 (L' := [some (.ref 88), some (.int x1), some (.int x2), some (.int 1)]) eX11_fills_33 rfl (Nat.le_of_ble_eq_true rfl) rfl).run ?_
    exact (k1 h1)
  · refine (go_aload_n 0 eX11_fills_8 rfl rfl).run ?_
    refine (go_geti flX11_51 rf_10_21 kd_88 eX11_fills_9).run ?_
    refine (go_iload_n 2 eX11_fills_12 rfl rfl).run ?_
    refine (bi_ne 17 eX11_fills_13 rfl).run (fun h2 => ?_) (fun h2 => ?_)
    · refine (go_aload_n 0 eX11_fills_17 rfl rfl).run ?_
      refine (go_iload_n 1 eX11_fills_18 rfl rfl).run ?_
      refine (go_puti flX11_48 rf_10_20 rfl pf_10_20 rfl rfl kd_88 eX11_fills_19).run ?_
      refine (go_aload_n 0 eX11_fills_22 rfl rfl).run ?_
      refine (go_iload_n 2 eX11_fills_23 rfl rfl).run ?_
      refine (go_puti flX11_51 rf_10_21 rfl pf_10_21 rfl rfl kd_88 eX11_fills_24).run ?_
      refine (go_aload_n 0 eX11_fills_27 rfl rfl).run ?_
      refine (go_iconst (v := 1) eX11_fills_28 rfl).run ?_
      refine (go_puti flX11_209 rf_10_24 rfl pf_10_24 rfl rfl kd_88 eX11_fills_29).run ?_
      refine (go_iconst (v := 1) eX11_fills_32 rfl).run ?_
      refine (go_istore_n 3 (L' := [some (.ref 88), some (.int x1), some (.int x2), some (.int 1)]) eX11_fills_33 rfl (Nat.le_of_ble_eq_true rfl) rfl).run ?_
      exact (k2 h1 h2)
    · exact Run.ret (v := none) (k3 h1 h2) ⟨rfl, eX11_fills_16⟩ rfl

set_option maxRecDepth 20000 in
theorem bX11_fills_34 {d : Nat} {Q : Option Value → St → Prop} (x1 : Int32) (x2 : Int32) (x3 : Int32) (σ : St) 
    (k1 : x1 < x3 → Run MX11_fills (d + 2) 57 [some (.ref 88), some (.int x1), some (.int x2), some (.int 0)] [] σ Q)
    (k2 : x3 ≤ x1 → Run MX11_fills (d + 2) 34 [some (.ref 88), some (.int x1), some (.int x2), some (.int (x3 + 1))] [] (sA σ 88 (upd (σ.1 88) 24 ((σ.1 88 24) * x3))) Q)
    : Run MX11_fills (d + 2) 34 [some (.ref 88), some (.int x1), some (.int x2), some (.int x3)] [] σ Q := by
  refine (go_iload_n 3 eX11_fills_34 rfl rfl).run ?_
  refine (go_iload_n 1 eX11_fills_35 rfl rfl).run ?_
  refine (bi_gt 55 eX11_fills_36 rfl).run (fun h1 => ?_) (fun h1 => ?_)
  · refine (go_iconst (v := 0) eX11_fills_55 rfl).run ?_
    refine (go_istore_n 3 (L' := [some (.ref 88), some (.int x1), some (.int x2), some (.int 0)]) eX11_fills_56 rfl (Nat.le_of_ble_eq_true rfl) rfl).run ?_
    exact (k1 h1)
  · refine (go_aload_n 0 eX11_fills_39 rfl rfl).run ?_
    refine (go_dup eX11_fills_40 rfl).run ?_
    refine (go_geti flX11_209 rf_10_24 kd_88 eX11_fills_41).run ?_
    refine (go_iload_n 3 eX11_fills_44 rfl rfl).run ?_
    refine (go_imul eX11_fills_45).run ?_
    refine (go_puti flX11_209 rf_10_24 rfl pf_10_24 rfl rfl kd_88 eX11_fills_46).run ?_
    refine (go_iinc 3 (v := (x3 + 1)) (L' := [some (.ref 88), some (.int x1), some (.int x2), some (.int (x3 + 1))]) eX11_fills_49 rfl rfl (Nat.le_of_ble_eq_true rfl) rfl).run ?_
    refine (go_goto 34 eX11_fills_52 rfl).run ?_
    exact (k2 h1)

set_option maxRecDepth 20000 in
theorem bX11_fills_57 {d : Nat} {Q : Option Value → St → Prop} (x1 : Int32) (x2 : Int32) (x3 : Int32) (σ : St) 
    (k1 : (7 : Int32) ≤ x3 → Q (none) σ)
    (k2 : x3 < 7 → Ct yX11_fillsRow MX11_fillsRow (d + 1) [.ref 88, .int x3, .int x1, .int x2] σ (fun v σ1 => Run MX11_fills (d + 2) 70 [some (.ref 88), some (.int x1), some (.int x2), some (.int x3)] (v.toList ++ []) σ1 Q))
    : Run MX11_fills (d + 2) 57 [some (.ref 88), some (.int x1), some (.int x2), some (.int x3)] [] σ Q := by
  refine (go_iload_n 3 eX11_fills_57 rfl rfl).run ?_
  refine (go_bipush (v := 7) eX11_fills_58 rfl).run ?_
  refine (bi_ge 76 eX11_fills_60 rfl).run (fun h1 => ?_) (fun h1 => ?_)
  · exact Run.ret (v := none) (k1 h1) ⟨rfl, eX11_fills_76⟩ rfl
  · refine (go_aload_n 0 eX11_fills_63 rfl rfl).run ?_
    refine (go_iload_n 3 eX11_fills_64 rfl rfl).run ?_
    refine (go_iload_n 1 eX11_fills_65 rfl rfl).run ?_
    refine (go_iload_n 2 eX11_fills_66 rfl rfl).run ?_
    exact Run.callV (d := (d + 1)) (As := [.int x3, .int x1, .int x2]) mX11_fillsRow lkX11_222 kd_88 (by decide) rfl rfl rfl rfl rfl (Nat.le_of_ble_eq_true rfl) eX11_fills_67 (k2 h1)

set_option maxRecDepth 20000 in
theorem bX11_fills_70 {d : Nat} {Q : Option Value → St → Prop} (x1 : Int32) (x2 : Int32) (x3 : Int32) (σ : St) 
    (k1 : Run MX11_fills (d + 2) 57 [some (.ref 88), some (.int x1), some (.int x2), some (.int (x3 + 1))] [] σ Q)
    : Run MX11_fills (d + 2) 70 [some (.ref 88), some (.int x1), some (.int x2), some (.int x3)] [] σ Q := by
  refine (go_iinc 3 (v := (x3 + 1)) (L' := [some (.ref 88), some (.int x1), some (.int x2), some (.int (x3 + 1))]) eX11_fills_70 rfl rfl (Nat.le_of_ble_eq_true rfl) rfl).run ?_
  refine (go_goto 57 eX11_fills_73 rfl).run ?_
  exact k1

/-! CarryNetsModel.firstState -/
theorem eX11_firstState_0 : decode MX11_firstState.2.1 0 = .ok (.aload_n 0, 1) := by decide +kernel
theorem eX11_firstState_1 : decode MX11_firstState.2.1 1 = .ok (.invokevirtual 91, 3) := by decide +kernel
theorem eX11_firstState_4 : decode MX11_firstState.2.1 4 = .ok (.aload_n 0, 1) := by decide +kernel
theorem eX11_firstState_5 : decode MX11_firstState.2.1 5 = .ok (.iconst 0, 1) := by decide +kernel
theorem eX11_firstState_6 : decode MX11_firstState.2.1 6 = .ok (.iload_n 1, 1) := by decide +kernel
theorem eX11_firstState_7 : decode MX11_firstState.2.1 7 = .ok (.iconst 1, 1) := by decide +kernel
theorem eX11_firstState_8 : decode MX11_firstState.2.1 8 = .ok (.invokevirtual 215, 3) := by decide +kernel
theorem eX11_firstState_11 : decode MX11_firstState.2.1 11 = .ok (.ireturn, 1) := by decide +kernel
set_option maxRecDepth 20000 in
theorem bX11_firstState_0 {d : Nat} {Q : Option Value → St → Prop} (x1 : Int32) (σ : St) 
    (k1 : Ct yX11_begins MX11_begins d [.ref 88] σ (fun v σ1 => Run MX11_firstState (d + 1) 4 [some (.ref 88), some (.int x1)] (v.toList ++ []) σ1 Q))
    : Run MX11_firstState (d + 1) 0 [some (.ref 88), some (.int x1)] [] σ Q := by
  refine (go_aload_n 0 eX11_firstState_0 rfl rfl).run ?_
  exact Run.callV (d := d) (As := []) mX11_begins lkX11_91 kd_88 (by decide) rfl rfl rfl rfl rfl (Nat.le_of_ble_eq_true rfl) eX11_firstState_1 k1

set_option maxRecDepth 20000 in
theorem bX11_firstState_4 {d : Nat} {Q : Option Value → St → Prop} (x1 : Int32) (σ : St) 
    (k1 : Ct yX11_behind MX11_behind d [.ref 88, .int 0, .int x1, .int 1] σ (fun v σ1 => Run MX11_firstState (d + 1) 11 [none, none] (v.toList ++ []) σ1 Q))
    : Run MX11_firstState (d + 1) 4 [some (.ref 88), some (.int x1)] [] σ Q := by
  refine (go_aload_n 0 eX11_firstState_4 rfl rfl).run ?_
  refine (go_iconst (v := 0) eX11_firstState_5 rfl).run ?_
  refine (go_iload_n 1 eX11_firstState_6 rfl rfl).run ?_
  refine (go_iconst (v := 1) eX11_firstState_7 rfl).run ?_
  refine (go_sub (L' := [none, none]) (lsub_drop (lsub_drop lsub_nil))).run ?_
  exact Run.callV (d := d) (As := [.int 0, .int x1, .int 1]) mX11_behind lkX11_215 kd_88 (by decide) rfl rfl rfl rfl rfl (Nat.le_of_ble_eq_true rfl) eX11_firstState_8 k1

set_option maxRecDepth 20000 in
theorem bX11_firstState_11 {d : Nat} {Q : Option Value → St → Prop} (s0 : Int32) (σ : St) 
    (k1 : Q (some (.int s0)) σ)
    : Run MX11_firstState (d + 1) 11 [none, none] [.int s0] σ Q := by
  exact Run.ret (v := some (.int s0)) k1 ⟨Or.inl rfl, eX11_firstState_11⟩ rfl

/-! CarryNetsModel.isBest -/
theorem eX11_isBest_0 : decode MX11_isBest.2.1 0 = .ok (.iload_n 0, 1) := by decide +kernel
theorem eX11_isBest_1 : decode MX11_isBest.2.1 1 = .ok (.i2l, 1) := by decide +kernel
theorem eX11_isBest_2 : decode MX11_isBest.2.1 2 = .ok (.ldc2_w 155, 3) := by decide +kernel
theorem eX11_isBest_5 : decode MX11_isBest.2.1 5 = .ok (.ldc2_w 226, 3) := by decide +kernel
theorem eX11_isBest_8 : decode MX11_isBest.2.1 8 = .ok (.invokestatic 109, 3) := by decide +kernel
theorem eX11_isBest_11 : decode MX11_isBest.2.1 11 = .ok (.ifCond .eq 31, 3) := by decide +kernel
theorem eX11_isBest_14 : decode MX11_isBest.2.1 14 = .ok (.iload_n 1, 1) := by decide +kernel
theorem eX11_isBest_15 : decode MX11_isBest.2.1 15 = .ok (.i2l, 1) := by decide +kernel
theorem eX11_isBest_16 : decode MX11_isBest.2.1 16 = .ok (.lconst 1, 1) := by decide +kernel
theorem eX11_isBest_17 : decode MX11_isBest.2.1 17 = .ok (.ldc2_w 228, 3) := by decide +kernel
theorem eX11_isBest_20 : decode MX11_isBest.2.1 20 = .ok (.invokestatic 109, 3) := by decide +kernel
theorem eX11_isBest_23 : decode MX11_isBest.2.1 23 = .ok (.ifCond .eq 19, 3) := by decide +kernel
theorem eX11_isBest_26 : decode MX11_isBest.2.1 26 = .ok (.iload_n 2, 1) := by decide +kernel
theorem eX11_isBest_27 : decode MX11_isBest.2.1 27 = .ok (.i2l, 1) := by decide +kernel
theorem eX11_isBest_28 : decode MX11_isBest.2.1 28 = .ok (.lconst 1, 1) := by decide +kernel
theorem eX11_isBest_29 : decode MX11_isBest.2.1 29 = .ok (.ldc2_w 228, 3) := by decide +kernel
theorem eX11_isBest_32 : decode MX11_isBest.2.1 32 = .ok (.invokestatic 109, 3) := by decide +kernel
theorem eX11_isBest_35 : decode MX11_isBest.2.1 35 = .ok (.ifCond .eq 7, 3) := by decide +kernel
theorem eX11_isBest_38 : decode MX11_isBest.2.1 38 = .ok (.iconst 1, 1) := by decide +kernel
theorem eX11_isBest_39 : decode MX11_isBest.2.1 39 = .ok (.goto 4, 3) := by decide +kernel
theorem eX11_isBest_42 : decode MX11_isBest.2.1 42 = .ok (.iconst 0, 1) := by decide +kernel
theorem eX11_isBest_43 : decode MX11_isBest.2.1 43 = .ok (.ireturn, 1) := by decide +kernel
set_option maxRecDepth 20000 in
theorem bX11_isBest_0 {d : Nat} {Q : Option Value → St → Prop} (x0 : Int32) (x1 : Int32) (x2 : Int32) (σ : St) 
    (k1 : Q (some (.int (bI (((2 : Int64) ≤ x0.toInt64 ∧ x0.toInt64 ≤ (7 : Int64)) ∧ (((1 : Int64) ≤ x1.toInt64 ∧ x1.toInt64 ≤ (6 : Int64)) ∧ ((1 : Int64) ≤ x2.toInt64 ∧ x2.toInt64 ≤ (6 : Int64))))))) σ)
    : Run MX11_isBest (d + 1) 0 [some (.int x0), some (.int x1), some (.int x2)] [] σ Q := by
  refine (go_iload_n 0 eX11_isBest_0 rfl rfl).run ?_
  refine (go_i2l eX11_isBest_1).run ?_
  refine (go_ldc2 csX11_155 eX11_isBest_2).run ?_
  refine (go_ldc2 csX11_226 eX11_isBest_5).run ?_
  refine Run.callS1 (d := d) (As := [.long x0.toInt64, .long (2), .long (7)]) (r := .int (bI ((2 : Int64) ≤ x0.toInt64 ∧ x0.toInt64 ≤ (7 : Int64)))) mX11_in lkX11_109 rfl rfl rfl (Nat.le_of_ble_eq_true rfl) eX11_isBest_8 (qX11_in d x0.toInt64 (2 : Int64) (7 : Int64) σ  ) ?_
  have hJh1 : Run MX11_isBest (d + 1) 43 [none, none, none] [.int (bI (((2 : Int64) ≤ x0.toInt64 ∧ x0.toInt64 ≤ (7 : Int64)) ∧ (((1 : Int64) ≤ x1.toInt64 ∧ x1.toInt64 ≤ (6 : Int64)) ∧ ((1 : Int64) ≤ x2.toInt64 ∧ x2.toInt64 ≤ (6 : Int64)))))] σ Q := by
    exact Run.ret (v := some (.int (bI (((2 : Int64) ≤ x0.toInt64 ∧ x0.toInt64 ≤ (7 : Int64)) ∧ (((1 : Int64) ≤ x1.toInt64 ∧ x1.toInt64 ≤ (6 : Int64)) ∧ ((1 : Int64) ≤ x2.toInt64 ∧ x2.toInt64 ≤ (6 : Int64))))))) k1 ⟨Or.inr ⟨rfl, bI_01⟩, eX11_isBest_43⟩ rfl
  refine (br_ifeq_b 42 eX11_isBest_11 rfl).run (fun h1 => ?_) (fun h1 => ?_)
  · refine (go_iconst (v := 0) eX11_isBest_42 rfl).run ?_
    refine (go_sub (L' := [none, none, none]) (lsub_drop (lsub_drop (lsub_drop lsub_nil)))).run ?_
    first | exact hJh1 | (simp only [if_neg (h1)] at hJh1; exact hJh1) | (simp only [eq_false h1, not_false_eq_true, true_and, and_true, false_and, and_false, true_or, or_true, false_or, or_false, not_true_eq_false, not_false_eq_true] at hJh1; exact hJh1) | exact Run.eq (by simp [eq_false h1, not_false_eq_true, bI]) (by simp [eq_false h1, not_false_eq_true, bI]) rfl hJh1
  · refine (go_iload_n 1 eX11_isBest_14 rfl rfl).run ?_
    refine (go_i2l eX11_isBest_15).run ?_
    refine (go_lconst (v := 1) eX11_isBest_16 rfl).run ?_
    refine (go_ldc2 csX11_228 eX11_isBest_17).run ?_
    refine Run.callS1 (d := d) (As := [.long x1.toInt64, .long 1, .long (6)]) (r := .int (bI ((1 : Int64) ≤ x1.toInt64 ∧ x1.toInt64 ≤ (6 : Int64)))) mX11_in lkX11_109 rfl rfl rfl (Nat.le_of_ble_eq_true rfl) eX11_isBest_20 (qX11_in d x1.toInt64 (1 : Int64) (6 : Int64) σ  ) ?_
    have hJh2 : Run MX11_isBest (d + 1) 43 [none, none, none] [.int (bI (((1 : Int64) ≤ x1.toInt64 ∧ x1.toInt64 ≤ (6 : Int64)) ∧ ((1 : Int64) ≤ x2.toInt64 ∧ x2.toInt64 ≤ (6 : Int64))))] σ Q := by
      first | exact hJh1 | (simp only [if_pos h1] at hJh1; exact hJh1) | (simp only [eq_true h1, not_true_eq_false, true_and, and_true, false_and, and_false, true_or, or_true, false_or, or_false, not_true_eq_false, not_false_eq_true] at hJh1; exact hJh1) | exact Run.eq (by simp [eq_true h1, not_true_eq_false, bI]) (by simp [eq_true h1, not_true_eq_false, bI]) rfl hJh1
    refine (br_ifeq_b 42 eX11_isBest_23 rfl).run (fun h2 => ?_) (fun h2 => ?_)
    · refine (go_iconst (v := 0) eX11_isBest_42 rfl).run ?_
      refine (go_sub (L' := [none, none, none]) (lsub_drop (lsub_drop (lsub_drop lsub_nil)))).run ?_
      first | exact hJh2 | (simp only [if_neg (h2)] at hJh2; exact hJh2) | (simp only [eq_false h2, not_false_eq_true, true_and, and_true, false_and, and_false, true_or, or_true, false_or, or_false, not_true_eq_false, not_false_eq_true] at hJh2; exact hJh2) | exact Run.eq (by simp [eq_false h2, not_false_eq_true, bI]) (by simp [eq_false h2, not_false_eq_true, bI]) rfl hJh2
    · refine (go_iload_n 2 eX11_isBest_26 rfl rfl).run ?_
      refine (go_i2l eX11_isBest_27).run ?_
      refine (go_lconst (v := 1) eX11_isBest_28 rfl).run ?_
      refine (go_ldc2 csX11_228 eX11_isBest_29).run ?_
      refine Run.callS1 (d := d) (As := [.long x2.toInt64, .long 1, .long (6)]) (r := .int (bI ((1 : Int64) ≤ x2.toInt64 ∧ x2.toInt64 ≤ (6 : Int64)))) mX11_in lkX11_109 rfl rfl rfl (Nat.le_of_ble_eq_true rfl) eX11_isBest_32 (qX11_in d x2.toInt64 (1 : Int64) (6 : Int64) σ  ) ?_
      have hJh3 : Run MX11_isBest (d + 1) 43 [none, none, none] [.int (bI ((1 : Int64) ≤ x2.toInt64 ∧ x2.toInt64 ≤ (6 : Int64)))] σ Q := by
        first | exact hJh2 | (simp only [if_pos h2] at hJh2; exact hJh2) | (simp only [eq_true h2, not_true_eq_false, true_and, and_true, false_and, and_false, true_or, or_true, false_or, or_false, not_true_eq_false, not_false_eq_true] at hJh2; exact hJh2) | exact Run.eq (by simp [eq_true h2, not_true_eq_false, bI]) (by simp [eq_true h2, not_true_eq_false, bI]) rfl hJh2
      refine (br_ifeq_b 42 eX11_isBest_35 rfl).run (fun h3 => ?_) (fun h3 => ?_)
      · refine (go_iconst (v := 0) eX11_isBest_42 rfl).run ?_
        refine (go_sub (L' := [none, none, none]) (lsub_drop (lsub_drop (lsub_drop lsub_nil)))).run ?_
        first | exact hJh3 | (simp only [if_neg (h3)] at hJh3; exact hJh3) | (simp only [eq_false h3, not_false_eq_true, true_and, and_true, false_and, and_false, true_or, or_true, false_or, or_false, not_true_eq_false, not_false_eq_true] at hJh3; exact hJh3) | exact Run.eq (by simp [eq_false h3, not_false_eq_true, bI]) (by simp [eq_false h3, not_false_eq_true, bI]) rfl hJh3
      · refine (go_iconst (v := 1) eX11_isBest_38 rfl).run ?_
        refine (go_goto 43 eX11_isBest_39 rfl).run ?_
        refine (go_sub (L' := [none, none, none]) (lsub_drop (lsub_drop (lsub_drop lsub_nil)))).run ?_
        first | exact hJh3 | (simp only [if_pos h3] at hJh3; exact hJh3) | (simp only [eq_true h3, not_true_eq_false, true_and, and_true, false_and, and_false, true_or, or_true, false_or, or_false, not_true_eq_false, not_false_eq_true] at hJh3; exact hJh3) | exact Run.eq (by simp [eq_true h3, not_true_eq_false, bI]) (by simp [eq_true h3, not_true_eq_false, bI]) rfl hJh3

theorem qX11_isBest (d : Nat) (x0 : Int32) (x1 : Int32) (x2 : Int32) (σ : St) : Ct yX11_isBest MX11_isBest (d + 1) [.int x0, .int x1, .int x2] σ (fun v σ1 => v = some (.int (bI (((2 : Int64) ≤ x0.toInt64 ∧ x0.toInt64 ≤ (7 : Int64)) ∧ (((1 : Int64) ≤ x1.toInt64 ∧ x1.toInt64 ≤ (6 : Int64)) ∧ ((1 : Int64) ≤ x2.toInt64 ∧ x2.toInt64 ≤ (6 : Int64)))))) ∧ σ1 = σ) :=
  Ct.of mX11_isBest.1 (Nat.le_of_ble_eq_true rfl) (bX11_isBest_0 x0 x1 x2 σ   (⟨by first | rfl | (simp only [bI, true_and, and_true, false_and, and_false, true_or, or_true, false_or, or_false, not_true_eq_false, not_false_eq_true, if_true, if_false]; done) | (simp [bI]; done), by first | rfl | (simp only [bI, true_and, and_true, false_and, and_false, true_or, or_true, false_or, or_false, not_true_eq_false, not_false_eq_true, if_true, if_false]; done) | (simp [bI]; done)⟩))

/-! CarryNetsModel.best -/
theorem eX11_best_0 : decode MX11_best.2.1 0 = .ok (.iload_n 1, 1) := by decide +kernel
theorem eX11_best_1 : decode MX11_best.2.1 1 = .ok (.iload_n 2, 1) := by decide +kernel
theorem eX11_best_2 : decode MX11_best.2.1 2 = .ok (.iload_n 3, 1) := by decide +kernel
theorem eX11_best_3 : decode MX11_best.2.1 3 = .ok (.invokestatic 230, 3) := by decide +kernel
theorem eX11_best_6 : decode MX11_best.2.1 6 = .ok (.ifCond .eq 14, 3) := by decide +kernel
theorem eX11_best_9 : decode MX11_best.2.1 9 = .ok (.iload 4, 2) := by decide +kernel
theorem eX11_best_11 : decode MX11_best.2.1 11 = .ok (.i2l, 1) := by decide +kernel
theorem eX11_best_12 : decode MX11_best.2.1 12 = .ok (.lconst 0, 1) := by decide +kernel
theorem eX11_best_13 : decode MX11_best.2.1 13 = .ok (.lconst 1, 1) := by decide +kernel
theorem eX11_best_14 : decode MX11_best.2.1 14 = .ok (.invokestatic 109, 3) := by decide +kernel
theorem eX11_best_17 : decode MX11_best.2.1 17 = .ok (.ifCond .ne 5, 3) := by decide +kernel
theorem eX11_best_20 : decode MX11_best.2.1 20 = .ok (.iconst (-1), 1) := by decide +kernel
theorem eX11_best_21 : decode MX11_best.2.1 21 = .ok (.ireturn, 1) := by decide +kernel
theorem eX11_best_22 : decode MX11_best.2.1 22 = .ok (.aload_n 0, 1) := by decide +kernel
theorem eX11_best_23 : decode MX11_best.2.1 23 = .ok (.iload_n 1, 1) := by decide +kernel
theorem eX11_best_24 : decode MX11_best.2.1 24 = .ok (.iload_n 3, 1) := by decide +kernel
theorem eX11_best_25 : decode MX11_best.2.1 25 = .ok (.invokevirtual 234, 3) := by decide +kernel
theorem eX11_best_28 : decode MX11_best.2.1 28 = .ok (.aload_n 0, 1) := by decide +kernel
theorem eX11_best_29 : decode MX11_best.2.1 29 = .ok (.getfield 209, 3) := by decide +kernel
theorem eX11_best_32 : decode MX11_best.2.1 32 = .ok (.iload_n 2, 1) := by decide +kernel
theorem eX11_best_33 : decode MX11_best.2.1 33 = .ok (.imul, 1) := by decide +kernel
theorem eX11_best_34 : decode MX11_best.2.1 34 = .ok (.aload_n 0, 1) := by decide +kernel
theorem eX11_best_35 : decode MX11_best.2.1 35 = .ok (.iload_n 1, 1) := by decide +kernel
theorem eX11_best_36 : decode MX11_best.2.1 36 = .ok (.invokevirtual 237, 3) := by decide +kernel
theorem eX11_best_39 : decode MX11_best.2.1 39 = .ok (.iadd, 1) := by decide +kernel
theorem eX11_best_40 : decode MX11_best.2.1 40 = .ok (.istore 5, 2) := by decide +kernel
theorem eX11_best_42 : decode MX11_best.2.1 42 = .ok (.aload_n 0, 1) := by decide +kernel
theorem eX11_best_43 : decode MX11_best.2.1 43 = .ok (.getfield 55, 3) := by decide +kernel
theorem eX11_best_46 : decode MX11_best.2.1 46 = .ok (.iload 5, 2) := by decide +kernel
theorem eX11_best_48 : decode MX11_best.2.1 48 = .ok (.iaload, 1) := by decide +kernel
theorem eX11_best_49 : decode MX11_best.2.1 49 = .ok (.sipush 1000, 3) := by decide +kernel
theorem eX11_best_52 : decode MX11_best.2.1 52 = .ok (.if_icmp .lt 8, 3) := by decide +kernel
theorem eX11_best_55 : decode MX11_best.2.1 55 = .ok (.bipush (-4), 2) := by decide +kernel
theorem eX11_best_57 : decode MX11_best.2.1 57 = .ok (.goto 25, 3) := by decide +kernel
theorem eX11_best_60 : decode MX11_best.2.1 60 = .ok (.iload 4, 2) := by decide +kernel
theorem eX11_best_62 : decode MX11_best.2.1 62 = .ok (.ifCond .ne 13, 3) := by decide +kernel
theorem eX11_best_65 : decode MX11_best.2.1 65 = .ok (.aload_n 0, 1) := by decide +kernel
theorem eX11_best_66 : decode MX11_best.2.1 66 = .ok (.getfield 55, 3) := by decide +kernel
theorem eX11_best_69 : decode MX11_best.2.1 69 = .ok (.iload 5, 2) := by decide +kernel
theorem eX11_best_71 : decode MX11_best.2.1 71 = .ok (.iaload, 1) := by decide +kernel
theorem eX11_best_72 : decode MX11_best.2.1 72 = .ok (.goto 10, 3) := by decide +kernel
theorem eX11_best_75 : decode MX11_best.2.1 75 = .ok (.aload_n 0, 1) := by decide +kernel
theorem eX11_best_76 : decode MX11_best.2.1 76 = .ok (.getfield 58, 3) := by decide +kernel
theorem eX11_best_79 : decode MX11_best.2.1 79 = .ok (.iload 5, 2) := by decide +kernel
theorem eX11_best_81 : decode MX11_best.2.1 81 = .ok (.iaload, 1) := by decide +kernel
theorem eX11_best_82 : decode MX11_best.2.1 82 = .ok (.ireturn, 1) := by decide +kernel
set_option maxRecDepth 20000 in
theorem bX11_best_0 {d : Nat} {Q : Option Value → St → Prop} (x1 : Int32) (x2 : Int32) (x3 : Int32) (x4 : Int32) (σ : St) 
    (k1 : (¬ (((2 : Int64) ≤ x1.toInt64 ∧ x1.toInt64 ≤ (7 : Int64)) ∧ (((1 : Int64) ≤ x2.toInt64 ∧ x2.toInt64 ≤ (6 : Int64)) ∧ ((1 : Int64) ≤ x3.toInt64 ∧ x3.toInt64 ≤ (6 : Int64))))) → Q (some (.int (-1))) σ)
    (k2 : (((2 : Int64) ≤ x1.toInt64 ∧ x1.toInt64 ≤ (7 : Int64)) ∧ (((1 : Int64) ≤ x2.toInt64 ∧ x2.toInt64 ≤ (6 : Int64)) ∧ ((1 : Int64) ≤ x3.toInt64 ∧ x3.toInt64 ≤ (6 : Int64)))) → ((0 : Int64) ≤ x4.toInt64 ∧ x4.toInt64 ≤ (1 : Int64)) → Ct yX11_fills MX11_fills (d + 2) [.ref 88, .int x1, .int x3] σ (fun v σ1 => Run MX11_best (d + 3) 28 [some (.ref 88), some (.int x1), some (.int x2), none, some (.int x4), none] (v.toList ++ []) σ1 Q))
    (k3 : (((2 : Int64) ≤ x1.toInt64 ∧ x1.toInt64 ≤ (7 : Int64)) ∧ (((1 : Int64) ≤ x2.toInt64 ∧ x2.toInt64 ≤ (6 : Int64)) ∧ ((1 : Int64) ≤ x3.toInt64 ∧ x3.toInt64 ≤ (6 : Int64)))) → (¬ ((0 : Int64) ≤ x4.toInt64 ∧ x4.toInt64 ≤ (1 : Int64))) → Q (some (.int (-1))) σ)
    : Run MX11_best (d + 3) 0 [some (.ref 88), some (.int x1), some (.int x2), some (.int x3), some (.int x4), none] [] σ Q := by
  refine (go_iload_n 1 eX11_best_0 rfl rfl).run ?_
  refine (go_iload_n 2 eX11_best_1 rfl rfl).run ?_
  refine (go_iload_n 3 eX11_best_2 rfl rfl).run ?_
  refine Run.callS1 (d := (d + 2)) (As := [.int x1, .int x2, .int x3]) (r := .int (bI (((2 : Int64) ≤ x1.toInt64 ∧ x1.toInt64 ≤ (7 : Int64)) ∧ (((1 : Int64) ≤ x2.toInt64 ∧ x2.toInt64 ≤ (6 : Int64)) ∧ ((1 : Int64) ≤ x3.toInt64 ∧ x3.toInt64 ≤ (6 : Int64)))))) mX11_isBest lkX11_230 rfl rfl rfl (Nat.le_of_ble_eq_true rfl) eX11_best_3 (qX11_isBest (d + 1) x1 x2 x3 σ  ) ?_
  refine (br_ifeq_b 20 eX11_best_6 rfl).run (fun h1 => ?_) (fun h1 => ?_)
  · refine (go_iconst (v := -1) eX11_best_20 rfl).run ?_
    exact Run.ret (v := some (.int (-1))) (k1 h1) ⟨Or.inl rfl, eX11_best_21⟩ rfl
  · refine (go_iload 4 eX11_best_9 rfl).run ?_
    refine (go_i2l eX11_best_11).run ?_
    refine (go_lconst (v := 0) eX11_best_12 rfl).run ?_
    refine (go_lconst (v := 1) eX11_best_13 rfl).run ?_
    refine Run.callS1 (d := (d + 2)) (As := [.long x4.toInt64, .long 0, .long 1]) (r := .int (bI ((0 : Int64) ≤ x4.toInt64 ∧ x4.toInt64 ≤ (1 : Int64)))) mX11_in lkX11_109 rfl rfl rfl (Nat.le_of_ble_eq_true rfl) eX11_best_14 (qX11_in (d + 2) x4.toInt64 (0 : Int64) (1 : Int64) σ  ) ?_
    refine (br_ifne_b 22 eX11_best_17 rfl).run (fun h2 => ?_) (fun h2 => ?_)
    · refine (go_aload_n 0 eX11_best_22 rfl rfl).run ?_
      refine (go_iload_n 1 eX11_best_23 rfl rfl).run ?_
      refine (go_iload_n 3 eX11_best_24 rfl rfl).run ?_
      refine (go_sub (L' := [some (.ref 88), some (.int x1), some (.int x2), none, some (.int x4), none]) (lsub_keep (lsub_keep (lsub_keep (lsub_drop (lsub_keep (lsub_keep lsub_nil))))))).run ?_
      exact Run.callV (d := (d + 2)) (As := [.int x1, .int x3]) mX11_fills lkX11_234 kd_88 (by decide) rfl rfl rfl rfl rfl (Nat.le_of_ble_eq_true rfl) eX11_best_25 (k2 h1 h2)
    · refine (go_iconst (v := -1) eX11_best_20 rfl).run ?_
      exact Run.ret (v := some (.int (-1))) (k3 h1 h2) ⟨Or.inl rfl, eX11_best_21⟩ rfl

set_option maxRecDepth 20000 in
theorem bX11_best_28 {d : Nat} {Q : Option Value → St → Prop} (x1 : Int32) (x2 : Int32) (x4 : Int32) (σ : St) 
    (k1 : Ct yX11_firstState MX11_firstState (d + 2) [.ref 88, .int x1] σ (fun v σ1 => Run MX11_best (d + 3) 39 [some (.ref 88), none, none, none, some (.int x4), none] (v.toList ++ [.int ((σ.1 88 24) * x2)]) σ1 Q))
    : Run MX11_best (d + 3) 28 [some (.ref 88), some (.int x1), some (.int x2), none, some (.int x4), none] [] σ Q := by
  refine (go_aload_n 0 eX11_best_28 rfl rfl).run ?_
  refine (go_geti flX11_209 rf_10_24 kd_88 eX11_best_29).run ?_
  refine (go_iload_n 2 eX11_best_32 rfl rfl).run ?_
  refine (go_imul eX11_best_33).run ?_
  refine (go_aload_n 0 eX11_best_34 rfl rfl).run ?_
  refine (go_iload_n 1 eX11_best_35 rfl rfl).run ?_
  refine (go_sub (L' := [some (.ref 88), none, none, none, some (.int x4), none]) (lsub_keep (lsub_drop (lsub_drop (lsub_keep (lsub_keep (lsub_keep lsub_nil))))))).run ?_
  exact Run.callV (d := (d + 2)) (As := [.int x1]) mX11_firstState lkX11_237 kd_88 (by decide) rfl rfl rfl rfl rfl (Nat.le_of_ble_eq_true rfl) eX11_best_36 k1

set_option maxRecDepth 20000 in
theorem bX11_best_39 {d : Nat} {Q : Option Value → St → Prop} (x4 : Int32) (s0 : Int32) (s1 : Int32) (σ : St) 
    (g1 : vp_in (s1 + s0) 35280)
    (k1 : Q (some (.int (if (σ.1 99 (s1 + s0).toNatClampNeg) < 1000 then (if x4 = 0 then (σ.1 99 (s1 + s0).toNatClampNeg) else (σ.1 100 (s1 + s0).toNatClampNeg)) else (-4)))) σ)
    : Run MX11_best (d + 3) 39 [some (.ref 88), none, none, none, some (.int x4), none] [.int s0, .int s1] σ Q := by
  refine (go_iadd eX11_best_39).run ?_
  refine (go_istore 5 (L' := [some (.ref 88), none, none, none, some (.int x4), some (.int (s1 + s0))]) eX11_best_40 (Nat.le_of_ble_eq_true rfl) rfl).run ?_
  refine (go_aload_n 0 eX11_best_42 rfl rfl).run ?_
  refine (go_getr flX11_55 rf_10_22 kd_88 gr_88_22 eX11_best_43).run ?_
  refine (go_iload 5 eX11_best_46 rfl).run ?_
  refine (go_iald kd_99 ln_99 g1 eX11_best_48).run ?_
  refine (go_sipush (v := 1000) eX11_best_49 rfl).run ?_
  have hJh1 : Run MX11_best (d + 3) 82 [none, none, none, none, none, none] [.int (if (σ.1 99 (s1 + s0).toNatClampNeg) < 1000 then (if x4 = 0 then (σ.1 99 (s1 + s0).toNatClampNeg) else (σ.1 100 (s1 + s0).toNatClampNeg)) else (-4))] σ Q := by
    exact Run.ret (v := some (.int (if (σ.1 99 (s1 + s0).toNatClampNeg) < 1000 then (if x4 = 0 then (σ.1 99 (s1 + s0).toNatClampNeg) else (σ.1 100 (s1 + s0).toNatClampNeg)) else (-4)))) k1 ⟨Or.inl rfl, eX11_best_82⟩ rfl
  refine (bi_lt 60 eX11_best_52 rfl).run (fun h1 => ?_) (fun h1 => ?_)
  · refine (go_iload 4 eX11_best_60 rfl).run ?_
    have hJh2 : Run MX11_best (d + 3) 82 [none, none, none, none, none, none] [.int (if x4 = 0 then (σ.1 99 (s1 + s0).toNatClampNeg) else (σ.1 100 (s1 + s0).toNatClampNeg))] σ Q := by
      first | exact hJh1 | (simp only [if_pos h1] at hJh1; exact hJh1) | (simp only [eq_true h1, eq_false (i32_nle.mpr h1), true_and, and_true, false_and, and_false, true_or, or_true, false_or, or_false, not_true_eq_false, not_false_eq_true] at hJh1; exact hJh1) | exact Run.eq (by simp [eq_true h1, eq_false (i32_nle.mpr h1), bI]) (by simp [eq_true h1, eq_false (i32_nle.mpr h1), bI]) rfl hJh1
    refine (bz_ne 75 eX11_best_62 rfl).run (fun h2 => ?_) (fun h2 => ?_)
    · refine (go_aload_n 0 eX11_best_75 rfl rfl).run ?_
      refine (go_getr flX11_58 rf_10_23 kd_88 gr_88_23 eX11_best_76).run ?_
      refine (go_iload 5 eX11_best_79 rfl).run ?_
      refine (go_iald kd_100 ln_100 g1 eX11_best_81).run ?_
      refine (go_sub (L' := [none, none, none, none, none, none]) (lsub_drop (lsub_keep (lsub_keep (lsub_keep (lsub_drop (lsub_drop lsub_nil))))))).run ?_
      first | exact hJh2 | (simp only [if_neg (h2)] at hJh2; exact hJh2) | (simp only [eq_false h2, not_false_eq_true, true_and, and_true, false_and, and_false, true_or, or_true, false_or, or_false, not_true_eq_false, not_false_eq_true] at hJh2; exact hJh2) | exact Run.eq (by simp [eq_false h2, not_false_eq_true, bI]) (by simp [eq_false h2, not_false_eq_true, bI]) rfl hJh2
    · refine (go_aload_n 0 eX11_best_65 rfl rfl).run ?_
      refine (go_getr flX11_55 rf_10_22 kd_88 gr_88_22 eX11_best_66).run ?_
      refine (go_iload 5 eX11_best_69 rfl).run ?_
      refine (go_iald kd_99 ln_99 g1 eX11_best_71).run ?_
      refine (go_goto 82 eX11_best_72 rfl).run ?_
      refine (go_sub (L' := [none, none, none, none, none, none]) (lsub_drop (lsub_keep (lsub_keep (lsub_keep (lsub_drop (lsub_drop lsub_nil))))))).run ?_
      first | exact hJh2 | (simp only [if_pos h2] at hJh2; exact hJh2) | (simp only [eq_true h2, not_true_eq_false, true_and, and_true, false_and, and_false, true_or, or_true, false_or, or_false, not_true_eq_false, not_false_eq_true] at hJh2; exact hJh2) | exact Run.eq (by simp [eq_true h2, not_true_eq_false, bI]) (by simp [eq_true h2, not_true_eq_false, bI]) rfl hJh2
  · refine (go_bipush (v := -4) eX11_best_55 rfl).run ?_
    refine (go_goto 82 eX11_best_57 rfl).run ?_
    refine (go_sub (L' := [none, none, none, none, none, none]) (lsub_drop (lsub_keep (lsub_keep (lsub_keep (lsub_drop (lsub_drop lsub_nil))))))).run ?_
    first | exact hJh1 | (simp only [if_neg (i32_nlt.mpr h1)] at hJh1; exact hJh1) | (simp only [eq_true h1, eq_false (i32_nlt.mpr h1), true_and, and_true, false_and, and_false, true_or, or_true, false_or, or_false, not_true_eq_false, not_false_eq_true] at hJh1; exact hJh1) | exact Run.eq (by simp [eq_true h1, eq_false (i32_nlt.mpr h1), bI]) (by simp [eq_true h1, eq_false (i32_nlt.mpr h1), bI]) rfl hJh1

/-! CarryNetsModel.made -/
theorem eX11_made_0 : decode MX11_made.2.1 0 = .ok (.iload_n 1, 1) := by decide +kernel
theorem eX11_made_1 : decode MX11_made.2.1 1 = .ok (.iload_n 2, 1) := by decide +kernel
theorem eX11_made_2 : decode MX11_made.2.1 2 = .ok (.iload_n 3, 1) := by decide +kernel
theorem eX11_made_3 : decode MX11_made.2.1 3 = .ok (.invokestatic 230, 3) := by decide +kernel
theorem eX11_made_6 : decode MX11_made.2.1 6 = .ok (.ifCond .ne 5, 3) := by decide +kernel
theorem eX11_made_9 : decode MX11_made.2.1 9 = .ok (.iconst (-1), 1) := by decide +kernel
theorem eX11_made_10 : decode MX11_made.2.1 10 = .ok (.ireturn, 1) := by decide +kernel
theorem eX11_made_11 : decode MX11_made.2.1 11 = .ok (.aload_n 0, 1) := by decide +kernel
theorem eX11_made_12 : decode MX11_made.2.1 12 = .ok (.iload_n 1, 1) := by decide +kernel
theorem eX11_made_13 : decode MX11_made.2.1 13 = .ok (.iload_n 3, 1) := by decide +kernel
theorem eX11_made_14 : decode MX11_made.2.1 14 = .ok (.invokevirtual 234, 3) := by decide +kernel
theorem eX11_made_17 : decode MX11_made.2.1 17 = .ok (.aload_n 0, 1) := by decide +kernel
theorem eX11_made_18 : decode MX11_made.2.1 18 = .ok (.iload_n 1, 1) := by decide +kernel
theorem eX11_made_19 : decode MX11_made.2.1 19 = .ok (.invokevirtual 237, 3) := by decide +kernel
theorem eX11_made_22 : decode MX11_made.2.1 22 = .ok (.istore 4, 2) := by decide +kernel
theorem eX11_made_24 : decode MX11_made.2.1 24 = .ok (.aload_n 0, 1) := by decide +kernel
theorem eX11_made_25 : decode MX11_made.2.1 25 = .ok (.getfield 55, 3) := by decide +kernel
theorem eX11_made_28 : decode MX11_made.2.1 28 = .ok (.aload_n 0, 1) := by decide +kernel
theorem eX11_made_29 : decode MX11_made.2.1 29 = .ok (.getfield 209, 3) := by decide +kernel
theorem eX11_made_32 : decode MX11_made.2.1 32 = .ok (.iload_n 2, 1) := by decide +kernel
theorem eX11_made_33 : decode MX11_made.2.1 33 = .ok (.imul, 1) := by decide +kernel
theorem eX11_made_34 : decode MX11_made.2.1 34 = .ok (.iload 4, 2) := by decide +kernel
theorem eX11_made_36 : decode MX11_made.2.1 36 = .ok (.iadd, 1) := by decide +kernel
theorem eX11_made_37 : decode MX11_made.2.1 37 = .ok (.iaload, 1) := by decide +kernel
theorem eX11_made_38 : decode MX11_made.2.1 38 = .ok (.sipush 1000, 3) := by decide +kernel
theorem eX11_made_41 : decode MX11_made.2.1 41 = .ok (.if_icmp .lt 6, 3) := by decide +kernel
theorem eX11_made_44 : decode MX11_made.2.1 44 = .ok (.bipush (-4), 2) := by decide +kernel
theorem eX11_made_46 : decode MX11_made.2.1 46 = .ok (.ireturn, 1) := by decide +kernel
theorem eX11_made_47 : decode MX11_made.2.1 47 = .ok (.aload_n 0, 1) := by decide +kernel
theorem eX11_made_48 : decode MX11_made.2.1 48 = .ok (.getfield 106, 3) := by decide +kernel
theorem eX11_made_51 : decode MX11_made.2.1 51 = .ok (.bipush 8, 2) := by decide +kernel
theorem eX11_made_53 : decode MX11_made.2.1 53 = .ok (.if_icmp .ne 6, 3) := by decide +kernel
theorem eX11_made_56 : decode MX11_made.2.1 56 = .ok (.bipush (-3), 2) := by decide +kernel
theorem eX11_made_58 : decode MX11_made.2.1 58 = .ok (.ireturn, 1) := by decide +kernel
theorem eX11_made_59 : decode MX11_made.2.1 59 = .ok (.iload_n 2, 1) := by decide +kernel
theorem eX11_made_60 : decode MX11_made.2.1 60 = .ok (.istore 5, 2) := by decide +kernel
theorem eX11_made_62 : decode MX11_made.2.1 62 = .ok (.aload_n 0, 1) := by decide +kernel
theorem eX11_made_63 : decode MX11_made.2.1 63 = .ok (.getfield 7, 3) := by decide +kernel
theorem eX11_made_66 : decode MX11_made.2.1 66 = .ok (.aload_n 0, 1) := by decide +kernel
theorem eX11_made_67 : decode MX11_made.2.1 67 = .ok (.getfield 106, 3) := by decide +kernel
theorem eX11_made_70 : decode MX11_made.2.1 70 = .ok (.iload_n 1, 1) := by decide +kernel
theorem eX11_made_71 : decode MX11_made.2.1 71 = .ok (.iastore, 1) := by decide +kernel
theorem eX11_made_72 : decode MX11_made.2.1 72 = .ok (.aload_n 0, 1) := by decide +kernel
theorem eX11_made_73 : decode MX11_made.2.1 73 = .ok (.getfield 13, 3) := by decide +kernel
theorem eX11_made_76 : decode MX11_made.2.1 76 = .ok (.aload_n 0, 1) := by decide +kernel
theorem eX11_made_77 : decode MX11_made.2.1 77 = .ok (.getfield 106, 3) := by decide +kernel
theorem eX11_made_80 : decode MX11_made.2.1 80 = .ok (.iconst 0, 1) := by decide +kernel
theorem eX11_made_81 : decode MX11_made.2.1 81 = .ok (.iastore, 1) := by decide +kernel
theorem eX11_made_82 : decode MX11_made.2.1 82 = .ok (.iload 4, 2) := by decide +kernel
theorem eX11_made_84 : decode MX11_made.2.1 84 = .ok (.ifCond .le 145, 3) := by decide +kernel
theorem eX11_made_87 : decode MX11_made.2.1 87 = .ok (.iconst 0, 1) := by decide +kernel
theorem eX11_made_88 : decode MX11_made.2.1 88 = .ok (.istore 6, 2) := by decide +kernel
theorem eX11_made_90 : decode MX11_made.2.1 90 = .ok (.bipush (-4), 2) := by decide +kernel
theorem eX11_made_92 : decode MX11_made.2.1 92 = .ok (.istore 7, 2) := by decide +kernel
theorem eX11_made_94 : decode MX11_made.2.1 94 = .ok (.iconst 0, 1) := by decide +kernel
theorem eX11_made_95 : decode MX11_made.2.1 95 = .ok (.istore 8, 2) := by decide +kernel
theorem eX11_made_97 : decode MX11_made.2.1 97 = .ok (.iload 8, 2) := by decide +kernel
theorem eX11_made_99 : decode MX11_made.2.1 99 = .ok (.ifCond .ne 82, 3) := by decide +kernel
theorem eX11_made_102 : decode MX11_made.2.1 102 = .ok (.iinc 6 1, 3) := by decide +kernel
theorem eX11_made_105 : decode MX11_made.2.1 105 = .ok (.aload_n 0, 1) := by decide +kernel
theorem eX11_made_106 : decode MX11_made.2.1 106 = .ok (.iload 4, 2) := by decide +kernel
theorem eX11_made_108 : decode MX11_made.2.1 108 = .ok (.iload_n 1, 1) := by decide +kernel
theorem eX11_made_109 : decode MX11_made.2.1 109 = .ok (.invokevirtual 212, 3) := by decide +kernel
theorem eX11_made_112 : decode MX11_made.2.1 112 = .ok (.aload_n 0, 1) := by decide +kernel
theorem eX11_made_113 : decode MX11_made.2.1 113 = .ok (.iload 6, 2) := by decide +kernel
theorem eX11_made_115 : decode MX11_made.2.1 115 = .ok (.iload_n 1, 1) := by decide +kernel
theorem eX11_made_116 : decode MX11_made.2.1 116 = .ok (.iload_n 3, 1) := by decide +kernel
theorem eX11_made_117 : decode MX11_made.2.1 117 = .ok (.invokevirtual 215, 3) := by decide +kernel
theorem eX11_made_120 : decode MX11_made.2.1 120 = .ok (.istore 7, 2) := by decide +kernel
theorem eX11_made_122 : decode MX11_made.2.1 122 = .ok (.iload 7, 2) := by decide +kernel
theorem eX11_made_124 : decode MX11_made.2.1 124 = .ok (.bipush (-4), 2) := by decide +kernel
theorem eX11_made_126 : decode MX11_made.2.1 126 = .ok (.if_icmp .eq 49, 3) := by decide +kernel
theorem eX11_made_129 : decode MX11_made.2.1 129 = .ok (.aload_n 0, 1) := by decide +kernel
theorem eX11_made_130 : decode MX11_made.2.1 130 = .ok (.getfield 55, 3) := by decide +kernel
theorem eX11_made_133 : decode MX11_made.2.1 133 = .ok (.aload_n 0, 1) := by decide +kernel
theorem eX11_made_134 : decode MX11_made.2.1 134 = .ok (.getfield 209, 3) := by decide +kernel
theorem eX11_made_137 : decode MX11_made.2.1 137 = .ok (.iload 5, 2) := by decide +kernel
theorem eX11_made_139 : decode MX11_made.2.1 139 = .ok (.iconst 1, 1) := by decide +kernel
theorem eX11_made_140 : decode MX11_made.2.1 140 = .ok (.isub, 1) := by decide +kernel
theorem eX11_made_141 : decode MX11_made.2.1 141 = .ok (.imul, 1) := by decide +kernel
theorem eX11_made_142 : decode MX11_made.2.1 142 = .ok (.iload 7, 2) := by decide +kernel
theorem eX11_made_144 : decode MX11_made.2.1 144 = .ok (.iadd, 1) := by decide +kernel
theorem eX11_made_145 : decode MX11_made.2.1 145 = .ok (.iaload, 1) := by decide +kernel
theorem eX11_made_146 : decode MX11_made.2.1 146 = .ok (.iload 6, 2) := by decide +kernel
theorem eX11_made_148 : decode MX11_made.2.1 148 = .ok (.i2l, 1) := by decide +kernel
theorem eX11_made_149 : decode MX11_made.2.1 149 = .ok (.invokestatic 180, 3) := by decide +kernel
theorem eX11_made_152 : decode MX11_made.2.1 152 = .ok (.iadd, 1) := by decide +kernel
theorem eX11_made_153 : decode MX11_made.2.1 153 = .ok (.aload_n 0, 1) := by decide +kernel
theorem eX11_made_154 : decode MX11_made.2.1 154 = .ok (.getfield 55, 3) := by decide +kernel
theorem eX11_made_157 : decode MX11_made.2.1 157 = .ok (.aload_n 0, 1) := by decide +kernel
theorem eX11_made_158 : decode MX11_made.2.1 158 = .ok (.getfield 209, 3) := by decide +kernel
theorem eX11_made_161 : decode MX11_made.2.1 161 = .ok (.iload 5, 2) := by decide +kernel
theorem eX11_made_163 : decode MX11_made.2.1 163 = .ok (.imul, 1) := by decide +kernel
theorem eX11_made_164 : decode MX11_made.2.1 164 = .ok (.iload 4, 2) := by decide +kernel
theorem eX11_made_166 : decode MX11_made.2.1 166 = .ok (.iadd, 1) := by decide +kernel
theorem eX11_made_167 : decode MX11_made.2.1 167 = .ok (.iaload, 1) := by decide +kernel
theorem eX11_made_168 : decode MX11_made.2.1 168 = .ok (.if_icmp .ne 7, 3) := by decide +kernel
theorem eX11_made_171 : decode MX11_made.2.1 171 = .ok (.iconst 1, 1) := by decide +kernel
theorem eX11_made_172 : decode MX11_made.2.1 172 = .ok (.goto 4, 3) := by decide +kernel
theorem eX11_made_175 : decode MX11_made.2.1 175 = .ok (.iconst 0, 1) := by decide +kernel
theorem eX11_made_176 : decode MX11_made.2.1 176 = .ok (.istore 8, 2) := by decide +kernel
theorem eX11_made_178 : decode MX11_made.2.1 178 = .ok (.goto (-81), 3) := by decide +kernel
theorem eX11_made_181 : decode MX11_made.2.1 181 = .ok (.aload_n 0, 1) := by decide +kernel
theorem eX11_made_182 : decode MX11_made.2.1 182 = .ok (.getfield 16, 3) := by decide +kernel
theorem eX11_made_185 : decode MX11_made.2.1 185 = .ok (.bipush 32, 2) := by decide +kernel
theorem eX11_made_187 : decode MX11_made.2.1 187 = .ok (.aload_n 0, 1) := by decide +kernel
theorem eX11_made_188 : decode MX11_made.2.1 188 = .ok (.getfield 106, 3) := by decide +kernel
theorem eX11_made_191 : decode MX11_made.2.1 191 = .ok (.imul, 1) := by decide +kernel
theorem eX11_made_192 : decode MX11_made.2.1 192 = .ok (.aload_n 0, 1) := by decide +kernel
theorem eX11_made_193 : decode MX11_made.2.1 193 = .ok (.getfield 13, 3) := by decide +kernel
theorem eX11_made_196 : decode MX11_made.2.1 196 = .ok (.aload_n 0, 1) := by decide +kernel
theorem eX11_made_197 : decode MX11_made.2.1 197 = .ok (.getfield 106, 3) := by decide +kernel
theorem eX11_made_200 : decode MX11_made.2.1 200 = .ok (.iaload, 1) := by decide +kernel
theorem eX11_made_201 : decode MX11_made.2.1 201 = .ok (.iadd, 1) := by decide +kernel
theorem eX11_made_202 : decode MX11_made.2.1 202 = .ok (.iload 6, 2) := by decide +kernel
theorem eX11_made_204 : decode MX11_made.2.1 204 = .ok (.i2l, 1) := by decide +kernel
theorem eX11_made_205 : decode MX11_made.2.1 205 = .ok (.lastore, 1) := by decide +kernel
theorem eX11_made_206 : decode MX11_made.2.1 206 = .ok (.aload_n 0, 1) := by decide +kernel
theorem eX11_made_207 : decode MX11_made.2.1 207 = .ok (.getfield 13, 3) := by decide +kernel
theorem eX11_made_210 : decode MX11_made.2.1 210 = .ok (.aload_n 0, 1) := by decide +kernel
theorem eX11_made_211 : decode MX11_made.2.1 211 = .ok (.getfield 106, 3) := by decide +kernel
theorem eX11_made_214 : decode MX11_made.2.1 214 = .ok (.dup2, 1) := by decide +kernel
theorem eX11_made_215 : decode MX11_made.2.1 215 = .ok (.iaload, 1) := by decide +kernel
theorem eX11_made_216 : decode MX11_made.2.1 216 = .ok (.iconst 1, 1) := by decide +kernel
theorem eX11_made_217 : decode MX11_made.2.1 217 = .ok (.iadd, 1) := by decide +kernel
theorem eX11_made_218 : decode MX11_made.2.1 218 = .ok (.iastore, 1) := by decide +kernel
theorem eX11_made_219 : decode MX11_made.2.1 219 = .ok (.iload 7, 2) := by decide +kernel
theorem eX11_made_221 : decode MX11_made.2.1 221 = .ok (.istore 4, 2) := by decide +kernel
theorem eX11_made_223 : decode MX11_made.2.1 223 = .ok (.iinc 5 (-1), 3) := by decide +kernel
theorem eX11_made_226 : decode MX11_made.2.1 226 = .ok (.goto (-144), 3) := by decide +kernel
theorem eX11_made_229 : decode MX11_made.2.1 229 = .ok (.aload_n 0, 1) := by decide +kernel
theorem eX11_made_230 : decode MX11_made.2.1 230 = .ok (.dup, 1) := by decide +kernel
theorem eX11_made_231 : decode MX11_made.2.1 231 = .ok (.getfield 106, 3) := by decide +kernel
theorem eX11_made_234 : decode MX11_made.2.1 234 = .ok (.iconst 1, 1) := by decide +kernel
theorem eX11_made_235 : decode MX11_made.2.1 235 = .ok (.iadd, 1) := by decide +kernel
theorem eX11_made_236 : decode MX11_made.2.1 236 = .ok (.putfield 106, 3) := by decide +kernel
theorem eX11_made_239 : decode MX11_made.2.1 239 = .ok (.aload_n 0, 1) := by decide +kernel
theorem eX11_made_240 : decode MX11_made.2.1 240 = .ok (.getfield 106, 3) := by decide +kernel
theorem eX11_made_243 : decode MX11_made.2.1 243 = .ok (.iconst 1, 1) := by decide +kernel
theorem eX11_made_244 : decode MX11_made.2.1 244 = .ok (.isub, 1) := by decide +kernel
theorem eX11_made_245 : decode MX11_made.2.1 245 = .ok (.ireturn, 1) := by decide +kernel
set_option maxRecDepth 20000 in
theorem bX11_made_0 {d : Nat} {Q : Option Value → St → Prop} (x1 : Int32) (x2 : Int32) (x3 : Int32) (σ : St) 
    (k1 : (((2 : Int64) ≤ x1.toInt64 ∧ x1.toInt64 ≤ (7 : Int64)) ∧ (((1 : Int64) ≤ x2.toInt64 ∧ x2.toInt64 ≤ (6 : Int64)) ∧ ((1 : Int64) ≤ x3.toInt64 ∧ x3.toInt64 ≤ (6 : Int64)))) → Ct yX11_fills MX11_fills (d + 2) [.ref 88, .int x1, .int x3] σ (fun v σ1 => Run MX11_made (d + 3) 17 [some (.ref 88), some (.int x1), some (.int x2), some (.int x3), none, none, none, none, none] (v.toList ++ []) σ1 Q))
    (k2 : (¬ (((2 : Int64) ≤ x1.toInt64 ∧ x1.toInt64 ≤ (7 : Int64)) ∧ (((1 : Int64) ≤ x2.toInt64 ∧ x2.toInt64 ≤ (6 : Int64)) ∧ ((1 : Int64) ≤ x3.toInt64 ∧ x3.toInt64 ≤ (6 : Int64))))) → Q (some (.int (-1))) σ)
    : Run MX11_made (d + 3) 0 [some (.ref 88), some (.int x1), some (.int x2), some (.int x3), none, none, none, none, none] [] σ Q := by
  refine (go_iload_n 1 eX11_made_0 rfl rfl).run ?_
  refine (go_iload_n 2 eX11_made_1 rfl rfl).run ?_
  refine (go_iload_n 3 eX11_made_2 rfl rfl).run ?_
  refine Run.callS1 (d := (d + 2)) (As := [.int x1, .int x2, .int x3]) (r := .int (bI (((2 : Int64) ≤ x1.toInt64 ∧ x1.toInt64 ≤ (7 : Int64)) ∧ (((1 : Int64) ≤ x2.toInt64 ∧ x2.toInt64 ≤ (6 : Int64)) ∧ ((1 : Int64) ≤ x3.toInt64 ∧ x3.toInt64 ≤ (6 : Int64)))))) mX11_isBest lkX11_230 rfl rfl rfl (Nat.le_of_ble_eq_true rfl) eX11_made_3 (qX11_isBest (d + 1) x1 x2 x3 σ  ) ?_
  refine (br_ifne_b 11 eX11_made_6 rfl).run (fun h1 => ?_) (fun h1 => ?_)
  · refine (go_aload_n 0 eX11_made_11 rfl rfl).run ?_
    refine (go_iload_n 1 eX11_made_12 rfl rfl).run ?_
    refine (go_iload_n 3 eX11_made_13 rfl rfl).run ?_
    exact Run.callV (d := (d + 2)) (As := [.int x1, .int x3]) mX11_fills lkX11_234 kd_88 (by decide) rfl rfl rfl rfl rfl (Nat.le_of_ble_eq_true rfl) eX11_made_14 (k1 h1)
  · refine (go_iconst (v := -1) eX11_made_9 rfl).run ?_
    exact Run.ret (v := some (.int (-1))) (k2 h1) ⟨Or.inl rfl, eX11_made_10⟩ rfl

set_option maxRecDepth 20000 in
theorem bX11_made_17 {d : Nat} {Q : Option Value → St → Prop} (x1 : Int32) (x2 : Int32) (x3 : Int32) (σ : St) 
    (k1 : Ct yX11_firstState MX11_firstState (d + 2) [.ref 88, .int x1] σ (fun v σ1 => Run MX11_made (d + 3) 22 [some (.ref 88), some (.int x1), some (.int x2), some (.int x3), none, none, none, none, none] (v.toList ++ []) σ1 Q))
    : Run MX11_made (d + 3) 17 [some (.ref 88), some (.int x1), some (.int x2), some (.int x3), none, none, none, none, none] [] σ Q := by
  refine (go_aload_n 0 eX11_made_17 rfl rfl).run ?_
  refine (go_iload_n 1 eX11_made_18 rfl rfl).run ?_
  exact Run.callV (d := (d + 2)) (As := [.int x1]) mX11_firstState lkX11_237 kd_88 (by decide) rfl rfl rfl rfl rfl (Nat.le_of_ble_eq_true rfl) eX11_made_19 k1

set_option maxRecDepth 20000 in
theorem bX11_made_22 {d : Nat} {Q : Option Value → St → Prop} (x1 : Int32) (x2 : Int32) (x3 : Int32) (s0 : Int32) (σ : St) 
    (g1 : vp_in (((σ.1 88 24) * x2) + s0) 35280)
    (g2 : (σ.1 99 (((σ.1 88 24) * x2) + s0).toNatClampNeg) < 1000 → ¬ (σ.1 88 0) = 8 → vp_in (σ.1 88 0) 8)
    (k1 : (σ.1 99 (((σ.1 88 24) * x2) + s0).toNatClampNeg) < 1000 → ¬ (σ.1 88 0) = 8 → Run MX11_made (d + 3) 82 [some (.ref 88), some (.int x1), none, some (.int x3), some (.int s0), some (.int x2), none, none, none] [] (sA (sA σ 89 (upd (σ.1 89) (σ.1 88 0).toNatClampNeg x1)) 90 (upd (σ.1 90) (σ.1 88 0).toNatClampNeg 0)) Q)
    (k2 : (σ.1 99 (((σ.1 88 24) * x2) + s0).toNatClampNeg) < 1000 → (σ.1 88 0) = 8 → Q (some (.int (-3))) σ)
    (k3 : (1000 : Int32) ≤ (σ.1 99 (((σ.1 88 24) * x2) + s0).toNatClampNeg) → Q (some (.int (-4))) σ)
    : Run MX11_made (d + 3) 22 [some (.ref 88), some (.int x1), some (.int x2), some (.int x3), none, none, none, none, none] [.int s0] σ Q := by
  refine (go_istore 4 (L' := [some (.ref 88), some (.int x1), some (.int x2), some (.int x3), some (.int s0), none, none, none, none]) eX11_made_22 (Nat.le_of_ble_eq_true rfl) rfl).run ?_
  refine (go_aload_n 0 eX11_made_24 rfl rfl).run ?_
  refine (go_getr flX11_55 rf_10_22 kd_88 gr_88_22 eX11_made_25).run ?_
  refine (go_aload_n 0 eX11_made_28 rfl rfl).run ?_
  refine (go_geti flX11_209 rf_10_24 kd_88 eX11_made_29).run ?_
  refine (go_iload_n 2 eX11_made_32 rfl rfl).run ?_
  refine (go_imul eX11_made_33).run ?_
  refine (go_iload 4 eX11_made_34 rfl).run ?_
  refine (go_iadd eX11_made_36).run ?_
  refine (go_iald kd_99 ln_99 g1 eX11_made_37).run ?_
  refine (go_sipush (v := 1000) eX11_made_38 rfl).run ?_
  refine (bi_lt 47 eX11_made_41 rfl).run (fun h1 => ?_) (fun h1 => ?_)
  · refine (go_aload_n 0 eX11_made_47 rfl rfl).run ?_
    refine (go_geti flX11_106 rf_10_0 kd_88 eX11_made_48).run ?_
    refine (go_bipush (v := 8) eX11_made_51 rfl).run ?_
    refine (bi_ne 59 eX11_made_53 rfl).run (fun h2 => ?_) (fun h2 => ?_)
    · refine (go_iload_n 2 eX11_made_59 rfl rfl).run ?_
      refine (go_istore 5 (L' := [some (.ref 88), some (.int x1), some (.int x2), some (.int x3), some (.int s0), some (.int x2), none, none, none]) eX11_made_60 (Nat.le_of_ble_eq_true rfl) rfl).run ?_
      refine (go_aload_n 0 eX11_made_62 rfl rfl).run ?_
      refine (go_getr flX11_7 rf_10_1 kd_88 gr_88_1 eX11_made_63).run ?_
      refine (go_aload_n 0 eX11_made_66 rfl rfl).run ?_
      refine (go_geti flX11_106 rf_10_0 kd_88 eX11_made_67).run ?_
      refine (go_iload_n 1 eX11_made_70 rfl rfl).run ?_
      refine (go_iast kd_89 ln_89 (g2 h1 h2) eX11_made_71).run ?_
      refine (go_aload_n 0 eX11_made_72 rfl rfl).run ?_
      refine (go_getr flX11_13 rf_10_2 kd_88 gr_88_2 eX11_made_73).run ?_
      refine (go_aload_n 0 eX11_made_76 rfl rfl).run ?_
      refine (go_geti flX11_106 rf_10_0 kd_88 eX11_made_77).run ?_
      refine (go_iconst (v := 0) eX11_made_80 rfl).run ?_
      refine (go_iast kd_90 ln_90 (g2 h1 h2) eX11_made_81).run ?_
      refine (go_sub (L' := [some (.ref 88), some (.int x1), none, some (.int x3), some (.int s0), some (.int x2), none, none, none]) (lsub_keep (lsub_keep (lsub_drop (lsub_keep (lsub_keep (lsub_keep (lsub_keep (lsub_keep (lsub_keep lsub_nil)))))))))).run ?_
      exact (k1 h1 h2)
    · refine (go_bipush (v := -3) eX11_made_56 rfl).run ?_
      exact Run.ret (v := some (.int (-3))) (k2 h1 h2) ⟨Or.inl rfl, eX11_made_58⟩ rfl
  · refine (go_bipush (v := -4) eX11_made_44 rfl).run ?_
    exact Run.ret (v := some (.int (-4))) (k3 h1) ⟨Or.inl rfl, eX11_made_46⟩ rfl

set_option maxRecDepth 20000 in
theorem bX11_made_82 {d : Nat} {Q : Option Value → St → Prop} (x1 : Int32) (x3 : Int32) (x4 : Int32) (x5 : Int32) (σ : St) 
    (k1 : x4 ≤ 0 → Q (some (.int ((((σ.1 88 0) + 1)) - 1))) (sA σ 88 (upd (σ.1 88) 0 ((σ.1 88 0) + 1))))
    (k2 : (0 : Int32) < x4 → Run MX11_made (d + 3) 97 [some (.ref 88), some (.int x1), none, some (.int x3), some (.int x4), some (.int x5), some (.int 0), some (.int (-4)), some (.int 0)] [] σ Q)
    : Run MX11_made (d + 3) 82 [some (.ref 88), some (.int x1), none, some (.int x3), some (.int x4), some (.int x5), none, none, none] [] σ Q := by
  refine (go_iload 4 eX11_made_82 rfl).run ?_
  refine (bz_le 229 eX11_made_84 rfl).run (fun h1 => ?_) (fun h1 => ?_)
  · refine (go_aload_n 0 eX11_made_229 rfl rfl).run ?_
    refine (go_dup eX11_made_230 rfl).run ?_
    refine (go_geti flX11_106 rf_10_0 kd_88 eX11_made_231).run ?_
    refine (go_iconst (v := 1) eX11_made_234 rfl).run ?_
    refine (go_iadd eX11_made_235).run ?_
    refine (go_puti flX11_106 rf_10_0 rfl pf_10_0 rfl rfl kd_88 eX11_made_236).run ?_
    refine (go_aload_n 0 eX11_made_239 rfl rfl).run ?_
    refine (go_geti flX11_106 rf_10_0 kd_88 eX11_made_240).run ?_
    refine (go_iconst (v := 1) eX11_made_243 rfl).run ?_
    refine (go_isub eX11_made_244).run ?_
    exact Run.ret (v := some (.int ((((σ.1 88 0) + 1)) - 1))) (k1 h1) ⟨Or.inl rfl, eX11_made_245⟩ rfl
  · refine (go_iconst (v := 0) eX11_made_87 rfl).run ?_
    refine (go_istore 6 (L' := [some (.ref 88), some (.int x1), none, some (.int x3), some (.int x4), some (.int x5), some (.int 0), none, none]) eX11_made_88 (Nat.le_of_ble_eq_true rfl) rfl).run ?_
    refine (go_bipush (v := -4) eX11_made_90 rfl).run ?_
    refine (go_istore 7 (L' := [some (.ref 88), some (.int x1), none, some (.int x3), some (.int x4), some (.int x5), some (.int 0), some (.int (-4)), none]) eX11_made_92 (Nat.le_of_ble_eq_true rfl) rfl).run ?_
    refine (go_iconst (v := 0) eX11_made_94 rfl).run ?_
    refine (go_istore 8 (L' := [some (.ref 88), some (.int x1), none, some (.int x3), some (.int x4), some (.int x5), some (.int 0), some (.int (-4)), some (.int 0)]) eX11_made_95 (Nat.le_of_ble_eq_true rfl) rfl).run ?_
    exact (k2 h1)

set_option maxRecDepth 20000 in
theorem bX11_made_97 {d : Nat} {Q : Option Value → St → Prop} (x1 : Int32) (x3 : Int32) (x4 : Int32) (x5 : Int32) (x6 : Int32) (x7 : Int32) (x8 : Int32) (σ : St) 
    (g1 : ¬ x8 = 0 → vp_in (σ.1 88 0) 8)
    (g2 : ¬ x8 = 0 → vp_in (((32 : Int32) * (σ.1 88 0)) + (σ.1 90 (σ.1 88 0).toNatClampNeg)) 256)
    (k1 : ¬ x8 = 0 → Run MX11_made (d + 3) 82 [some (.ref 88), some (.int x1), none, some (.int x3), some (.int x7), some (.int (x5 + (-1))), none, none, none] [] (sA (sJ σ 91 (vp_updL (σ.2 91) (((32 : Int32) * (σ.1 88 0)) + (σ.1 90 (σ.1 88 0).toNatClampNeg)).toNatClampNeg x6.toInt64)) 90 (upd (σ.1 90) (σ.1 88 0).toNatClampNeg ((σ.1 90 (σ.1 88 0).toNatClampNeg) + 1))) Q)
    (k2 : x8 = 0 → Ct yX11_spansOf MX11_spansOf (d + 2) [.ref 88, .int x4, .int x1] σ (fun v σ1 => Run MX11_made (d + 3) 112 [some (.ref 88), some (.int x1), none, some (.int x3), some (.int x4), some (.int x5), some (.int (x6 + 1)), none, none] (v.toList ++ []) σ1 Q))
    : Run MX11_made (d + 3) 97 [some (.ref 88), some (.int x1), none, some (.int x3), some (.int x4), some (.int x5), some (.int x6), some (.int x7), some (.int x8)] [] σ Q := by
  refine (go_iload 8 eX11_made_97 rfl).run ?_
  refine (bz_ne 181 eX11_made_99 rfl).run (fun h1 => ?_) (fun h1 => ?_)
  · refine (go_aload_n 0 eX11_made_181 rfl rfl).run ?_
    refine (go_getr flX11_16 rf_10_3 kd_88 gr_88_3 eX11_made_182).run ?_
    refine (go_bipush (v := 32) eX11_made_185 rfl).run ?_
    refine (go_aload_n 0 eX11_made_187 rfl rfl).run ?_
    refine (go_geti flX11_106 rf_10_0 kd_88 eX11_made_188).run ?_
    refine (go_imul eX11_made_191).run ?_
    refine (go_aload_n 0 eX11_made_192 rfl rfl).run ?_
    refine (go_getr flX11_13 rf_10_2 kd_88 gr_88_2 eX11_made_193).run ?_
    refine (go_aload_n 0 eX11_made_196 rfl rfl).run ?_
    refine (go_geti flX11_106 rf_10_0 kd_88 eX11_made_197).run ?_
    refine (go_iald kd_90 ln_90 (g1 h1) eX11_made_200).run ?_
    refine (go_iadd eX11_made_201).run ?_
    refine (go_iload 6 eX11_made_202 rfl).run ?_
    refine (go_i2l eX11_made_204).run ?_
    refine (go_last kd_91 ln_91 (g2 h1) eX11_made_205).run ?_
    refine (go_aload_n 0 eX11_made_206 rfl rfl).run ?_
    refine (go_getr flX11_13 rf_10_2 kd_88 gr_88_2 eX11_made_207).run ?_
    refine (go_aload_n 0 eX11_made_210 rfl rfl).run ?_
    refine (go_geti flX11_106 rf_10_0 kd_88 eX11_made_211).run ?_
    refine (go_dup2 eX11_made_214 rfl rfl).run ?_
    refine (go_iald kd_90 ln_90 (g1 h1) eX11_made_215).run ?_
    refine (go_iconst (v := 1) eX11_made_216 rfl).run ?_
    refine (go_iadd eX11_made_217).run ?_
    refine (go_iast kd_90 ln_90 (g1 h1) eX11_made_218).run ?_
    refine (go_iload 7 eX11_made_219 rfl).run ?_
    refine (go_istore 4 (L' := [some (.ref 88), some (.int x1), none, some (.int x3), some (.int x7), some (.int x5), some (.int x6), some (.int x7), some (.int x8)]) eX11_made_221 (Nat.le_of_ble_eq_true rfl) rfl).run ?_
    refine (go_iinc 5 (v := (x5 + (-1))) (L' := [some (.ref 88), some (.int x1), none, some (.int x3), some (.int x7), some (.int (x5 + (-1))), some (.int x6), some (.int x7), some (.int x8)]) eX11_made_223 rfl rfl (Nat.le_of_ble_eq_true rfl) rfl).run ?_
    refine (go_goto 82 eX11_made_226 rfl).run ?_
    refine (go_sub (L' := [some (.ref 88), some (.int x1), none, some (.int x3), some (.int x7), some (.int (x5 + (-1))), none, none, none]) (lsub_keep (lsub_keep (lsub_keep (lsub_keep (lsub_keep (lsub_keep (lsub_drop (lsub_drop (lsub_drop lsub_nil)))))))))).run ?_
    exact (k1 h1)
  · refine (go_iinc 6 (v := (x6 + 1)) (L' := [some (.ref 88), some (.int x1), none, some (.int x3), some (.int x4), some (.int x5), some (.int (x6 + 1)), some (.int x7), some (.int x8)]) eX11_made_102 rfl rfl (Nat.le_of_ble_eq_true rfl) rfl).run ?_
    refine (go_aload_n 0 eX11_made_105 rfl rfl).run ?_
    refine (go_iload 4 eX11_made_106 rfl).run ?_
    refine (go_iload_n 1 eX11_made_108 rfl rfl).run ?_
    refine (go_sub (L' := [some (.ref 88), some (.int x1), none, some (.int x3), some (.int x4), some (.int x5), some (.int (x6 + 1)), none, none]) (lsub_keep (lsub_keep (lsub_keep (lsub_keep (lsub_keep (lsub_keep (lsub_keep (lsub_drop (lsub_drop lsub_nil)))))))))).run ?_
    exact Run.callV (d := (d + 2)) (As := [.int x4, .int x1]) mX11_spansOf lkX11_212 kd_88 (by decide) rfl rfl rfl rfl rfl (Nat.le_of_ble_eq_true rfl) eX11_made_109 (k2 h1)

set_option maxRecDepth 20000 in
theorem bX11_made_112 {d : Nat} {Q : Option Value → St → Prop} (x1 : Int32) (x3 : Int32) (x4 : Int32) (x5 : Int32) (x6 : Int32) (σ : St) 
    (k1 : Ct yX11_behind MX11_behind (d + 2) [.ref 88, .int x6, .int x1, .int x3] σ (fun v σ1 => Run MX11_made (d + 3) 120 [some (.ref 88), some (.int x1), none, some (.int x3), some (.int x4), some (.int x5), some (.int x6), none, none] (v.toList ++ []) σ1 Q))
    : Run MX11_made (d + 3) 112 [some (.ref 88), some (.int x1), none, some (.int x3), some (.int x4), some (.int x5), some (.int x6), none, none] [] σ Q := by
  refine (go_aload_n 0 eX11_made_112 rfl rfl).run ?_
  refine (go_iload 6 eX11_made_113 rfl).run ?_
  refine (go_iload_n 1 eX11_made_115 rfl rfl).run ?_
  refine (go_iload_n 3 eX11_made_116 rfl rfl).run ?_
  exact Run.callV (d := (d + 2)) (As := [.int x6, .int x1, .int x3]) mX11_behind lkX11_215 kd_88 (by decide) rfl rfl rfl rfl rfl (Nat.le_of_ble_eq_true rfl) eX11_made_117 k1

set_option maxRecDepth 20000 in
theorem bX11_made_120 {d : Nat} {Q : Option Value → St → Prop} (x1 : Int32) (x3 : Int32) (x4 : Int32) (x5 : Int32) (x6 : Int32) (s0 : Int32) (σ : St) 
    (g1 : ¬ s0 = (-4) → vp_in (((σ.1 88 24) * (x5 - 1)) + s0) 35280)
    (k1 : s0 = (-4) → Run MX11_made (d + 3) 97 [some (.ref 88), some (.int x1), none, some (.int x3), some (.int x4), some (.int x5), some (.int x6), some (.int s0), some (.int 0)] [] σ Q)
    (k2 : ¬ s0 = (-4) → Ct yX11_bits MX11_bits (d + 2) [.long x6.toInt64] σ (fun v σ1 => Run MX11_made (d + 3) 152 [some (.ref 88), some (.int x1), none, some (.int x3), some (.int x4), some (.int x5), some (.int x6), some (.int s0), none] (v.toList ++ [.int (σ.1 99 (((σ.1 88 24) * (x5 - 1)) + s0).toNatClampNeg)]) σ1 Q))
    : Run MX11_made (d + 3) 120 [some (.ref 88), some (.int x1), none, some (.int x3), some (.int x4), some (.int x5), some (.int x6), none, none] [.int s0] σ Q := by
  refine (go_istore 7 (L' := [some (.ref 88), some (.int x1), none, some (.int x3), some (.int x4), some (.int x5), some (.int x6), some (.int s0), none]) eX11_made_120 (Nat.le_of_ble_eq_true rfl) rfl).run ?_
  refine (go_iload 7 eX11_made_122 rfl).run ?_
  refine (go_bipush (v := -4) eX11_made_124 rfl).run ?_
  refine (bi_eq 175 eX11_made_126 rfl).run (fun h1 => ?_) (fun h1 => ?_)
  · refine (go_iconst (v := 0) eX11_made_175 rfl).run ?_
    refine (go_istore 8 (L' := [some (.ref 88), some (.int x1), none, some (.int x3), some (.int x4), some (.int x5), some (.int x6), some (.int s0), some (.int 0)]) eX11_made_176 (Nat.le_of_ble_eq_true rfl) rfl).run ?_
    refine (go_goto 97 eX11_made_178 rfl).run ?_
    exact (k1 h1)
  · refine (go_aload_n 0 eX11_made_129 rfl rfl).run ?_
    refine (go_getr flX11_55 rf_10_22 kd_88 gr_88_22 eX11_made_130).run ?_
    refine (go_aload_n 0 eX11_made_133 rfl rfl).run ?_
    refine (go_geti flX11_209 rf_10_24 kd_88 eX11_made_134).run ?_
    refine (go_iload 5 eX11_made_137 rfl).run ?_
    refine (go_iconst (v := 1) eX11_made_139 rfl).run ?_
    refine (go_isub eX11_made_140).run ?_
    refine (go_imul eX11_made_141).run ?_
    refine (go_iload 7 eX11_made_142 rfl).run ?_
    refine (go_iadd eX11_made_144).run ?_
    refine (go_iald kd_99 ln_99 (g1 h1) eX11_made_145).run ?_
    refine (go_iload 6 eX11_made_146 rfl).run ?_
    refine (go_i2l eX11_made_148).run ?_
    exact Run.callS (d := (d + 2)) (As := [.long x6.toInt64]) mX11_bits lkX11_180 rfl rfl rfl (Nat.le_of_ble_eq_true rfl) eX11_made_149 (k2 h1)

set_option maxRecDepth 20000 in
theorem bX11_made_152 {d : Nat} {Q : Option Value → St → Prop} (x1 : Int32) (x3 : Int32) (x4 : Int32) (x5 : Int32) (x6 : Int32) (x7 : Int32) (s0 : Int32) (s1 : Int32) (σ : St) 
    (g1 : vp_in (((σ.1 88 24) * x5) + x4) 35280)
    (k1 : Run MX11_made (d + 3) 97 [some (.ref 88), some (.int x1), none, some (.int x3), some (.int x4), some (.int x5), some (.int x6), some (.int x7), some (.int (bI ((s1 + s0) = (σ.1 99 (((σ.1 88 24) * x5) + x4).toNatClampNeg))))] [] σ Q)
    : Run MX11_made (d + 3) 152 [some (.ref 88), some (.int x1), none, some (.int x3), some (.int x4), some (.int x5), some (.int x6), some (.int x7), none] [.int s0, .int s1] σ Q := by
  refine (go_iadd eX11_made_152).run ?_
  refine (go_aload_n 0 eX11_made_153 rfl rfl).run ?_
  refine (go_getr flX11_55 rf_10_22 kd_88 gr_88_22 eX11_made_154).run ?_
  refine (go_aload_n 0 eX11_made_157 rfl rfl).run ?_
  refine (go_geti flX11_209 rf_10_24 kd_88 eX11_made_158).run ?_
  refine (go_iload 5 eX11_made_161 rfl).run ?_
  refine (go_imul eX11_made_163).run ?_
  refine (go_iload 4 eX11_made_164 rfl).run ?_
  refine (go_iadd eX11_made_166).run ?_
  refine (go_iald kd_99 ln_99 g1 eX11_made_167).run ?_
  have hJh1 : Run MX11_made (d + 3) 176 [some (.ref 88), some (.int x1), none, some (.int x3), some (.int x4), some (.int x5), some (.int x6), some (.int x7), none] [.int (bI ((s1 + s0) = (σ.1 99 (((σ.1 88 24) * x5) + x4).toNatClampNeg)))] σ Q := by
    refine (go_istore 8 (L' := [some (.ref 88), some (.int x1), none, some (.int x3), some (.int x4), some (.int x5), some (.int x6), some (.int x7), some (.int (bI ((s1 + s0) = (σ.1 99 (((σ.1 88 24) * x5) + x4).toNatClampNeg))))]) eX11_made_176 (Nat.le_of_ble_eq_true rfl) rfl).run ?_
    refine (go_goto 97 eX11_made_178 rfl).run ?_
    exact k1
  refine (bi_ne 175 eX11_made_168 rfl).run (fun h1 => ?_) (fun h1 => ?_)
  · refine (go_iconst (v := 0) eX11_made_175 rfl).run ?_
    first | exact hJh1 | (simp only [if_neg (h1)] at hJh1; exact hJh1) | (simp only [eq_false h1, not_false_eq_true, true_and, and_true, false_and, and_false, true_or, or_true, false_or, or_false, not_true_eq_false, not_false_eq_true] at hJh1; exact hJh1) | exact Run.eq (by simp [eq_false h1, not_false_eq_true, bI]) (by simp [eq_false h1, not_false_eq_true, bI]) rfl hJh1
  · refine (go_iconst (v := 1) eX11_made_171 rfl).run ?_
    refine (go_goto 176 eX11_made_172 rfl).run ?_
    first | exact hJh1 | (simp only [if_pos h1] at hJh1; exact hJh1) | (simp only [eq_true h1, not_true_eq_false, true_and, and_true, false_and, and_false, true_or, or_true, false_or, or_false, not_true_eq_false, not_false_eq_true] at hJh1; exact hJh1) | exact Run.eq (by simp [eq_true h1, not_true_eq_false, bI]) (by simp [eq_true h1, not_true_eq_false, bI]) rfl hJh1

/-! CarryNetsModel.blocks -/
theorem eX11_blocks_0 : decode MX11_blocks.2.1 0 = .ok (.lload_n 1, 1) := by decide +kernel
theorem eX11_blocks_1 : decode MX11_blocks.2.1 1 = .ok (.lconst 1, 1) := by decide +kernel
theorem eX11_blocks_2 : decode MX11_blocks.2.1 2 = .ok (.ldc2_w 240, 3) := by decide +kernel
theorem eX11_blocks_5 : decode MX11_blocks.2.1 5 = .ok (.invokestatic 109, 3) := by decide +kernel
theorem eX11_blocks_8 : decode MX11_blocks.2.1 8 = .ok (.ifCond .eq 30, 3) := by decide +kernel
theorem eX11_blocks_11 : decode MX11_blocks.2.1 11 = .ok (.iload_n 3, 1) := by decide +kernel
theorem eX11_blocks_12 : decode MX11_blocks.2.1 12 = .ok (.i2l, 1) := by decide +kernel
theorem eX11_blocks_13 : decode MX11_blocks.2.1 13 = .ok (.lconst 0, 1) := by decide +kernel
theorem eX11_blocks_14 : decode MX11_blocks.2.1 14 = .ok (.lconst 1, 1) := by decide +kernel
theorem eX11_blocks_15 : decode MX11_blocks.2.1 15 = .ok (.invokestatic 109, 3) := by decide +kernel
theorem eX11_blocks_18 : decode MX11_blocks.2.1 18 = .ok (.ifCond .eq 20, 3) := by decide +kernel
theorem eX11_blocks_21 : decode MX11_blocks.2.1 21 = .ok (.iload_n 3, 1) := by decide +kernel
theorem eX11_blocks_22 : decode MX11_blocks.2.1 22 = .ok (.ifCond .ne 18, 3) := by decide +kernel
theorem eX11_blocks_25 : decode MX11_blocks.2.1 25 = .ok (.iload 4, 2) := by decide +kernel
theorem eX11_blocks_27 : decode MX11_blocks.2.1 27 = .ok (.i2l, 1) := by decide +kernel
theorem eX11_blocks_28 : decode MX11_blocks.2.1 28 = .ok (.lconst 1, 1) := by decide +kernel
theorem eX11_blocks_29 : decode MX11_blocks.2.1 29 = .ok (.ldc2_w 199, 3) := by decide +kernel
theorem eX11_blocks_32 : decode MX11_blocks.2.1 32 = .ok (.invokestatic 109, 3) := by decide +kernel
theorem eX11_blocks_35 : decode MX11_blocks.2.1 35 = .ok (.ifCond .ne 5, 3) := by decide +kernel
theorem eX11_blocks_38 : decode MX11_blocks.2.1 38 = .ok (.iconst (-1), 1) := by decide +kernel
theorem eX11_blocks_39 : decode MX11_blocks.2.1 39 = .ok (.ireturn, 1) := by decide +kernel
theorem eX11_blocks_40 : decode MX11_blocks.2.1 40 = .ok (.iconst 0, 1) := by decide +kernel
theorem eX11_blocks_41 : decode MX11_blocks.2.1 41 = .ok (.istore 5, 2) := by decide +kernel
theorem eX11_blocks_43 : decode MX11_blocks.2.1 43 = .ok (.iconst 0, 1) := by decide +kernel
theorem eX11_blocks_44 : decode MX11_blocks.2.1 44 = .ok (.istore 6, 2) := by decide +kernel
theorem eX11_blocks_46 : decode MX11_blocks.2.1 46 = .ok (.iconst 1, 1) := by decide +kernel
theorem eX11_blocks_47 : decode MX11_blocks.2.1 47 = .ok (.istore 7, 2) := by decide +kernel
theorem eX11_blocks_49 : decode MX11_blocks.2.1 49 = .ok (.lload_n 1, 1) := by decide +kernel
theorem eX11_blocks_50 : decode MX11_blocks.2.1 50 = .ok (.lstore 8, 2) := by decide +kernel
theorem eX11_blocks_52 : decode MX11_blocks.2.1 52 = .ok (.lload 8, 2) := by decide +kernel
theorem eX11_blocks_54 : decode MX11_blocks.2.1 54 = .ok (.lconst 0, 1) := by decide +kernel
theorem eX11_blocks_55 : decode MX11_blocks.2.1 55 = .ok (.lcmp, 1) := by decide +kernel
theorem eX11_blocks_56 : decode MX11_blocks.2.1 56 = .ok (.ifCond .le 63, 3) := by decide +kernel
theorem eX11_blocks_59 : decode MX11_blocks.2.1 59 = .ok (.aload_n 0, 1) := by decide +kernel
theorem eX11_blocks_60 : decode MX11_blocks.2.1 60 = .ok (.getfield 64, 3) := by decide +kernel
theorem eX11_blocks_63 : decode MX11_blocks.2.1 63 = .ok (.iload 5, 2) := by decide +kernel
theorem eX11_blocks_65 : decode MX11_blocks.2.1 65 = .ok (.lload 8, 2) := by decide +kernel
theorem eX11_blocks_67 : decode MX11_blocks.2.1 67 = .ok (.ldc2_w 242, 3) := by decide +kernel
theorem eX11_blocks_70 : decode MX11_blocks.2.1 70 = .ok (.land, 1) := by decide +kernel
theorem eX11_blocks_71 : decode MX11_blocks.2.1 71 = .ok (.l2i, 1) := by decide +kernel
theorem eX11_blocks_72 : decode MX11_blocks.2.1 72 = .ok (.iastore, 1) := by decide +kernel
theorem eX11_blocks_73 : decode MX11_blocks.2.1 73 = .ok (.iload 7, 2) := by decide +kernel
theorem eX11_blocks_75 : decode MX11_blocks.2.1 75 = .ok (.ifCond .eq 17, 3) := by decide +kernel
theorem eX11_blocks_78 : decode MX11_blocks.2.1 78 = .ok (.aload_n 0, 1) := by decide +kernel
theorem eX11_blocks_79 : decode MX11_blocks.2.1 79 = .ok (.getfield 64, 3) := by decide +kernel
theorem eX11_blocks_82 : decode MX11_blocks.2.1 82 = .ok (.iload 5, 2) := by decide +kernel
theorem eX11_blocks_84 : decode MX11_blocks.2.1 84 = .ok (.iaload, 1) := by decide +kernel
theorem eX11_blocks_85 : decode MX11_blocks.2.1 85 = .ok (.ifCond .le 7, 3) := by decide +kernel
theorem eX11_blocks_88 : decode MX11_blocks.2.1 88 = .ok (.iconst 1, 1) := by decide +kernel
theorem eX11_blocks_89 : decode MX11_blocks.2.1 89 = .ok (.goto 4, 3) := by decide +kernel
theorem eX11_blocks_92 : decode MX11_blocks.2.1 92 = .ok (.iconst 0, 1) := by decide +kernel
theorem eX11_blocks_93 : decode MX11_blocks.2.1 93 = .ok (.istore 7, 2) := by decide +kernel
theorem eX11_blocks_95 : decode MX11_blocks.2.1 95 = .ok (.iload 6, 2) := by decide +kernel
theorem eX11_blocks_97 : decode MX11_blocks.2.1 97 = .ok (.aload_n 0, 1) := by decide +kernel
theorem eX11_blocks_98 : decode MX11_blocks.2.1 98 = .ok (.getfield 64, 3) := by decide +kernel
theorem eX11_blocks_101 : decode MX11_blocks.2.1 101 = .ok (.iload 5, 2) := by decide +kernel
theorem eX11_blocks_103 : decode MX11_blocks.2.1 103 = .ok (.iaload, 1) := by decide +kernel
theorem eX11_blocks_104 : decode MX11_blocks.2.1 104 = .ok (.iadd, 1) := by decide +kernel
theorem eX11_blocks_105 : decode MX11_blocks.2.1 105 = .ok (.istore 6, 2) := by decide +kernel
theorem eX11_blocks_107 : decode MX11_blocks.2.1 107 = .ok (.iinc 5 1, 3) := by decide +kernel
theorem eX11_blocks_110 : decode MX11_blocks.2.1 110 = .ok (.lload 8, 2) := by decide +kernel
theorem eX11_blocks_112 : decode MX11_blocks.2.1 112 = .ok (.iconst 4, 1) := by decide +kernel
theorem eX11_blocks_113 : decode MX11_blocks.2.1 113 = .ok (.lshr, 1) := by decide +kernel
theorem eX11_blocks_114 : decode MX11_blocks.2.1 114 = .ok (.lstore 8, 2) := by decide +kernel
theorem eX11_blocks_116 : decode MX11_blocks.2.1 116 = .ok (.goto (-64), 3) := by decide +kernel
theorem eX11_blocks_119 : decode MX11_blocks.2.1 119 = .ok (.iload 7, 2) := by decide +kernel
theorem eX11_blocks_121 : decode MX11_blocks.2.1 121 = .ok (.ifCond .eq 10, 3) := by decide +kernel
theorem eX11_blocks_124 : decode MX11_blocks.2.1 124 = .ok (.iload 6, 2) := by decide +kernel
theorem eX11_blocks_126 : decode MX11_blocks.2.1 126 = .ok (.bipush 32, 2) := by decide +kernel
theorem eX11_blocks_128 : decode MX11_blocks.2.1 128 = .ok (.if_icmp .le 5, 3) := by decide +kernel
theorem eX11_blocks_131 : decode MX11_blocks.2.1 131 = .ok (.iconst (-1), 1) := by decide +kernel
theorem eX11_blocks_132 : decode MX11_blocks.2.1 132 = .ok (.ireturn, 1) := by decide +kernel
theorem eX11_blocks_133 : decode MX11_blocks.2.1 133 = .ok (.iconst 0, 1) := by decide +kernel
theorem eX11_blocks_134 : decode MX11_blocks.2.1 134 = .ok (.istore 8, 2) := by decide +kernel
theorem eX11_blocks_136 : decode MX11_blocks.2.1 136 = .ok (.iload_n 3, 1) := by decide +kernel
theorem eX11_blocks_137 : decode MX11_blocks.2.1 137 = .ok (.iconst 1, 1) := by decide +kernel
theorem eX11_blocks_138 : decode MX11_blocks.2.1 138 = .ok (.if_icmp .ne 58, 3) := by decide +kernel
theorem eX11_blocks_141 : decode MX11_blocks.2.1 141 = .ok (.aload_n 0, 1) := by decide +kernel
theorem eX11_blocks_142 : decode MX11_blocks.2.1 142 = .ok (.getfield 64, 3) := by decide +kernel
theorem eX11_blocks_145 : decode MX11_blocks.2.1 145 = .ok (.iconst 0, 1) := by decide +kernel
theorem eX11_blocks_146 : decode MX11_blocks.2.1 146 = .ok (.iaload, 1) := by decide +kernel
theorem eX11_blocks_147 : decode MX11_blocks.2.1 147 = .ok (.istore 8, 2) := by decide +kernel
theorem eX11_blocks_149 : decode MX11_blocks.2.1 149 = .ok (.iconst 1, 1) := by decide +kernel
theorem eX11_blocks_150 : decode MX11_blocks.2.1 150 = .ok (.istore 9, 2) := by decide +kernel
theorem eX11_blocks_152 : decode MX11_blocks.2.1 152 = .ok (.iload 9, 2) := by decide +kernel
theorem eX11_blocks_154 : decode MX11_blocks.2.1 154 = .ok (.iload 5, 2) := by decide +kernel
theorem eX11_blocks_156 : decode MX11_blocks.2.1 156 = .ok (.if_icmp .ge 37, 3) := by decide +kernel
theorem eX11_blocks_159 : decode MX11_blocks.2.1 159 = .ok (.iconst 1, 1) := by decide +kernel
theorem eX11_blocks_160 : decode MX11_blocks.2.1 160 = .ok (.iload 8, 2) := by decide +kernel
theorem eX11_blocks_162 : decode MX11_blocks.2.1 162 = .ok (.aload_n 0, 1) := by decide +kernel
theorem eX11_blocks_163 : decode MX11_blocks.2.1 163 = .ok (.getfield 64, 3) := by decide +kernel
theorem eX11_blocks_166 : decode MX11_blocks.2.1 166 = .ok (.iload 9, 2) := by decide +kernel
theorem eX11_blocks_168 : decode MX11_blocks.2.1 168 = .ok (.iaload, 1) := by decide +kernel
theorem eX11_blocks_169 : decode MX11_blocks.2.1 169 = .ok (.if_icmp .le 8, 3) := by decide +kernel
theorem eX11_blocks_172 : decode MX11_blocks.2.1 172 = .ok (.iload 8, 2) := by decide +kernel
theorem eX11_blocks_174 : decode MX11_blocks.2.1 174 = .ok (.goto 10, 3) := by decide +kernel
theorem eX11_blocks_177 : decode MX11_blocks.2.1 177 = .ok (.aload_n 0, 1) := by decide +kernel
theorem eX11_blocks_178 : decode MX11_blocks.2.1 178 = .ok (.getfield 64, 3) := by decide +kernel
theorem eX11_blocks_181 : decode MX11_blocks.2.1 181 = .ok (.iload 9, 2) := by decide +kernel
theorem eX11_blocks_183 : decode MX11_blocks.2.1 183 = .ok (.iaload, 1) := by decide +kernel
theorem eX11_blocks_184 : decode MX11_blocks.2.1 184 = .ok (.iadd, 1) := by decide +kernel
theorem eX11_blocks_185 : decode MX11_blocks.2.1 185 = .ok (.istore 8, 2) := by decide +kernel
theorem eX11_blocks_187 : decode MX11_blocks.2.1 187 = .ok (.iinc 9 1, 3) := by decide +kernel
theorem eX11_blocks_190 : decode MX11_blocks.2.1 190 = .ok (.goto (-38), 3) := by decide +kernel
theorem eX11_blocks_193 : decode MX11_blocks.2.1 193 = .ok (.iload 8, 2) := by decide +kernel
theorem eX11_blocks_195 : decode MX11_blocks.2.1 195 = .ok (.ireturn, 1) := by decide +kernel
theorem eX11_blocks_196 : decode MX11_blocks.2.1 196 = .ok (.iconst 0, 1) := by decide +kernel
theorem eX11_blocks_197 : decode MX11_blocks.2.1 197 = .ok (.istore 9, 2) := by decide +kernel
theorem eX11_blocks_199 : decode MX11_blocks.2.1 199 = .ok (.iload 9, 2) := by decide +kernel
theorem eX11_blocks_201 : decode MX11_blocks.2.1 201 = .ok (.iload 5, 2) := by decide +kernel
theorem eX11_blocks_203 : decode MX11_blocks.2.1 203 = .ok (.if_icmp .ge 89, 3) := by decide +kernel
theorem eX11_blocks_206 : decode MX11_blocks.2.1 206 = .ok (.iload 9, 2) := by decide +kernel
theorem eX11_blocks_208 : decode MX11_blocks.2.1 208 = .ok (.istore 10, 2) := by decide +kernel
theorem eX11_blocks_210 : decode MX11_blocks.2.1 210 = .ok (.iload 10, 2) := by decide +kernel
theorem eX11_blocks_212 : decode MX11_blocks.2.1 212 = .ok (.iload 5, 2) := by decide +kernel
theorem eX11_blocks_214 : decode MX11_blocks.2.1 214 = .ok (.if_icmp .ge 72, 3) := by decide +kernel
theorem eX11_blocks_217 : decode MX11_blocks.2.1 217 = .ok (.iload 9, 2) := by decide +kernel
theorem eX11_blocks_219 : decode MX11_blocks.2.1 219 = .ok (.iload 10, 2) := by decide +kernel
theorem eX11_blocks_221 : decode MX11_blocks.2.1 221 = .ok (.if_icmp .ne 13, 3) := by decide +kernel
theorem eX11_blocks_224 : decode MX11_blocks.2.1 224 = .ok (.aload_n 0, 1) := by decide +kernel
theorem eX11_blocks_225 : decode MX11_blocks.2.1 225 = .ok (.getfield 64, 3) := by decide +kernel
theorem eX11_blocks_228 : decode MX11_blocks.2.1 228 = .ok (.iload 9, 2) := by decide +kernel
theorem eX11_blocks_230 : decode MX11_blocks.2.1 230 = .ok (.iaload, 1) := by decide +kernel
theorem eX11_blocks_231 : decode MX11_blocks.2.1 231 = .ok (.goto 31, 3) := by decide +kernel
theorem eX11_blocks_234 : decode MX11_blocks.2.1 234 = .ok (.aload_n 0, 1) := by decide +kernel
theorem eX11_blocks_235 : decode MX11_blocks.2.1 235 = .ok (.getfield 64, 3) := by decide +kernel
theorem eX11_blocks_238 : decode MX11_blocks.2.1 238 = .ok (.iload 9, 2) := by decide +kernel
theorem eX11_blocks_240 : decode MX11_blocks.2.1 240 = .ok (.iaload, 1) := by decide +kernel
theorem eX11_blocks_241 : decode MX11_blocks.2.1 241 = .ok (.iload 4, 2) := by decide +kernel
theorem eX11_blocks_243 : decode MX11_blocks.2.1 243 = .ok (.iload 10, 2) := by decide +kernel
theorem eX11_blocks_245 : decode MX11_blocks.2.1 245 = .ok (.iload 9, 2) := by decide +kernel
theorem eX11_blocks_247 : decode MX11_blocks.2.1 247 = .ok (.isub, 1) := by decide +kernel
theorem eX11_blocks_248 : decode MX11_blocks.2.1 248 = .ok (.iconst 1, 1) := by decide +kernel
theorem eX11_blocks_249 : decode MX11_blocks.2.1 249 = .ok (.isub, 1) := by decide +kernel
theorem eX11_blocks_250 : decode MX11_blocks.2.1 250 = .ok (.imul, 1) := by decide +kernel
theorem eX11_blocks_251 : decode MX11_blocks.2.1 251 = .ok (.iadd, 1) := by decide +kernel
theorem eX11_blocks_252 : decode MX11_blocks.2.1 252 = .ok (.aload_n 0, 1) := by decide +kernel
theorem eX11_blocks_253 : decode MX11_blocks.2.1 253 = .ok (.getfield 64, 3) := by decide +kernel
theorem eX11_blocks_256 : decode MX11_blocks.2.1 256 = .ok (.iload 10, 2) := by decide +kernel
theorem eX11_blocks_258 : decode MX11_blocks.2.1 258 = .ok (.iaload, 1) := by decide +kernel
theorem eX11_blocks_259 : decode MX11_blocks.2.1 259 = .ok (.iadd, 1) := by decide +kernel
theorem eX11_blocks_260 : decode MX11_blocks.2.1 260 = .ok (.iconst 1, 1) := by decide +kernel
theorem eX11_blocks_261 : decode MX11_blocks.2.1 261 = .ok (.isub, 1) := by decide +kernel
theorem eX11_blocks_262 : decode MX11_blocks.2.1 262 = .ok (.istore 11, 2) := by decide +kernel
theorem eX11_blocks_264 : decode MX11_blocks.2.1 264 = .ok (.iload 11, 2) := by decide +kernel
theorem eX11_blocks_266 : decode MX11_blocks.2.1 266 = .ok (.iload 8, 2) := by decide +kernel
theorem eX11_blocks_268 : decode MX11_blocks.2.1 268 = .ok (.if_icmp .le 8, 3) := by decide +kernel
theorem eX11_blocks_271 : decode MX11_blocks.2.1 271 = .ok (.iload 11, 2) := by decide +kernel
theorem eX11_blocks_273 : decode MX11_blocks.2.1 273 = .ok (.goto 5, 3) := by decide +kernel
theorem eX11_blocks_276 : decode MX11_blocks.2.1 276 = .ok (.iload 8, 2) := by decide +kernel
theorem eX11_blocks_278 : decode MX11_blocks.2.1 278 = .ok (.istore 8, 2) := by decide +kernel
theorem eX11_blocks_280 : decode MX11_blocks.2.1 280 = .ok (.iinc 10 1, 3) := by decide +kernel
theorem eX11_blocks_283 : decode MX11_blocks.2.1 283 = .ok (.goto (-73), 3) := by decide +kernel
theorem eX11_blocks_286 : decode MX11_blocks.2.1 286 = .ok (.iinc 9 1, 3) := by decide +kernel
theorem eX11_blocks_289 : decode MX11_blocks.2.1 289 = .ok (.goto (-90), 3) := by decide +kernel
theorem eX11_blocks_292 : decode MX11_blocks.2.1 292 = .ok (.iload 8, 2) := by decide +kernel
theorem eX11_blocks_294 : decode MX11_blocks.2.1 294 = .ok (.ireturn, 1) := by decide +kernel
set_option maxRecDepth 20000 in
theorem bX11_blocks_0 {d : Nat} {Q : Option Value → St → Prop} (x1 : Int64) (x3 : Int32) (x4 : Int32) (σ : St) 
    (k1 : (¬ ((1 : Int64) ≤ x1 ∧ x1 ≤ (281474976710655 : Int64))) → Q (some (.int (-1))) σ)
    (k2 : ((1 : Int64) ≤ x1 ∧ x1 ≤ (281474976710655 : Int64)) → (¬ ((0 : Int64) ≤ x3.toInt64 ∧ x3.toInt64 ≤ (1 : Int64))) → Q (some (.int (-1))) σ)
    (k3 : ((1 : Int64) ≤ x1 ∧ x1 ≤ (281474976710655 : Int64)) → ((0 : Int64) ≤ x3.toInt64 ∧ x3.toInt64 ≤ (1 : Int64)) → ¬ x3 = 0 → Run MX11_blocks (d + 1) 52 [some (.ref 88), none, none, some (.int x3), some (.int x4), some (.int 0), some (.int 0), some (.int 1), some (.long x1), none, none, none] [] σ Q)
    (k4 : ((1 : Int64) ≤ x1 ∧ x1 ≤ (281474976710655 : Int64)) → ((0 : Int64) ≤ x3.toInt64 ∧ x3.toInt64 ≤ (1 : Int64)) → x3 = 0 → ((1 : Int64) ≤ x4.toInt64 ∧ x4.toInt64 ≤ (9 : Int64)) → Run MX11_blocks (d + 1) 52 [some (.ref 88), none, none, some (.int x3), some (.int x4), some (.int 0), some (.int 0), some (.int 1), some (.long x1), none, none, none] [] σ Q)
    (k5 : ((1 : Int64) ≤ x1 ∧ x1 ≤ (281474976710655 : Int64)) → ((0 : Int64) ≤ x3.toInt64 ∧ x3.toInt64 ≤ (1 : Int64)) → x3 = 0 → (¬ ((1 : Int64) ≤ x4.toInt64 ∧ x4.toInt64 ≤ (9 : Int64))) → Q (some (.int (-1))) σ)
    : Run MX11_blocks (d + 1) 0 [some (.ref 88), some (.long x1), none, some (.int x3), some (.int x4), none, none, none, none, none, none, none] [] σ Q := by
  refine (go_lload_n 1 eX11_blocks_0 rfl rfl).run ?_
  refine (go_lconst (v := 1) eX11_blocks_1 rfl).run ?_
  refine (go_ldc2 csX11_240 eX11_blocks_2).run ?_
  refine Run.callS1 (d := d) (As := [.long x1, .long 1, .long (281474976710655)]) (r := .int (bI ((1 : Int64) ≤ x1 ∧ x1 ≤ (281474976710655 : Int64)))) mX11_in lkX11_109 rfl rfl rfl (Nat.le_of_ble_eq_true rfl) eX11_blocks_5 (qX11_in d x1 (1 : Int64) (281474976710655 : Int64) σ  ) ?_
  refine (br_ifeq_b 38 eX11_blocks_8 rfl).run (fun h1 => ?_) (fun h1 => ?_)
  · refine (go_iconst (v := -1) eX11_blocks_38 rfl).run ?_
    exact Run.ret (v := some (.int (-1))) (k1 h1) ⟨Or.inl rfl, eX11_blocks_39⟩ rfl
  · refine (go_iload_n 3 eX11_blocks_11 rfl rfl).run ?_
    refine (go_i2l eX11_blocks_12).run ?_
    refine (go_lconst (v := 0) eX11_blocks_13 rfl).run ?_
    refine (go_lconst (v := 1) eX11_blocks_14 rfl).run ?_
    refine Run.callS1 (d := d) (As := [.long x3.toInt64, .long 0, .long 1]) (r := .int (bI ((0 : Int64) ≤ x3.toInt64 ∧ x3.toInt64 ≤ (1 : Int64)))) mX11_in lkX11_109 rfl rfl rfl (Nat.le_of_ble_eq_true rfl) eX11_blocks_15 (qX11_in d x3.toInt64 (0 : Int64) (1 : Int64) σ  ) ?_
    refine (br_ifeq_b 38 eX11_blocks_18 rfl).run (fun h2 => ?_) (fun h2 => ?_)
    · refine (go_iconst (v := -1) eX11_blocks_38 rfl).run ?_
      exact Run.ret (v := some (.int (-1))) (k2 h1 h2) ⟨Or.inl rfl, eX11_blocks_39⟩ rfl
    · refine (go_iload_n 3 eX11_blocks_21 rfl rfl).run ?_
      refine (bz_ne 40 eX11_blocks_22 rfl).run (fun h3 => ?_) (fun h3 => ?_)
      · refine (go_iconst (v := 0) eX11_blocks_40 rfl).run ?_
        refine (go_istore 5 (L' := [some (.ref 88), some (.long x1), none, some (.int x3), some (.int x4), some (.int 0), none, none, none, none, none, none]) eX11_blocks_41 (Nat.le_of_ble_eq_true rfl) rfl).run ?_
        refine (go_iconst (v := 0) eX11_blocks_43 rfl).run ?_
        refine (go_istore 6 (L' := [some (.ref 88), some (.long x1), none, some (.int x3), some (.int x4), some (.int 0), some (.int 0), none, none, none, none, none]) eX11_blocks_44 (Nat.le_of_ble_eq_true rfl) rfl).run ?_
        refine (go_iconst (v := 1) eX11_blocks_46 rfl).run ?_
        refine (go_istore 7 (L' := [some (.ref 88), some (.long x1), none, some (.int x3), some (.int x4), some (.int 0), some (.int 0), some (.int 1), none, none, none, none]) eX11_blocks_47 (Nat.le_of_ble_eq_true rfl) rfl).run ?_
        refine (go_lload_n 1 eX11_blocks_49 rfl rfl).run ?_
        refine (go_lstore 8 (L' := [some (.ref 88), some (.long x1), none, some (.int x3), some (.int x4), some (.int 0), some (.int 0), some (.int 1), some (.long x1), none, none, none]) eX11_blocks_50 (Nat.le_of_ble_eq_true rfl) rfl).run ?_
        refine (go_sub (L' := [some (.ref 88), none, none, some (.int x3), some (.int x4), some (.int 0), some (.int 0), some (.int 1), some (.long x1), none, none, none]) (lsub_keep (lsub_drop (lsub_keep (lsub_keep (lsub_keep (lsub_keep (lsub_keep (lsub_keep (lsub_keep (lsub_keep (lsub_keep (lsub_keep lsub_nil))))))))))))).run ?_
        exact (k3 h1 h2 h3)
      · refine (go_iload 4 eX11_blocks_25 rfl).run ?_
        refine (go_i2l eX11_blocks_27).run ?_
        refine (go_lconst (v := 1) eX11_blocks_28 rfl).run ?_
        refine (go_ldc2 csX11_199 eX11_blocks_29).run ?_
        refine Run.callS1 (d := d) (As := [.long x4.toInt64, .long 1, .long (9)]) (r := .int (bI ((1 : Int64) ≤ x4.toInt64 ∧ x4.toInt64 ≤ (9 : Int64)))) mX11_in lkX11_109 rfl rfl rfl (Nat.le_of_ble_eq_true rfl) eX11_blocks_32 (qX11_in d x4.toInt64 (1 : Int64) (9 : Int64) σ  ) ?_
        refine (br_ifne_b 40 eX11_blocks_35 rfl).run (fun h4 => ?_) (fun h4 => ?_)
        · refine (go_iconst (v := 0) eX11_blocks_40 rfl).run ?_
          refine (go_istore 5 (L' := [some (.ref 88), some (.long x1), none, some (.int x3), some (.int x4), some (.int 0), none, none, none, none, none, none]) eX11_blocks_41 (Nat.le_of_ble_eq_true rfl) rfl).run ?_
          refine (go_iconst (v := 0) eX11_blocks_43 rfl).run ?_
          refine (go_istore 6 (L' := [some (.ref 88), some (.long x1), none, some (.int x3), some (.int x4), some (.int 0), some (.int 0), none, none, none, none, none]) eX11_blocks_44 (Nat.le_of_ble_eq_true rfl) rfl).run ?_
          refine (go_iconst (v := 1) eX11_blocks_46 rfl).run ?_
          refine (go_istore 7 (L' := [some (.ref 88), some (.long x1), none, some (.int x3), some (.int x4), some (.int 0), some (.int 0), some (.int 1), none, none, none, none]) eX11_blocks_47 (Nat.le_of_ble_eq_true rfl) rfl).run ?_
          refine (go_lload_n 1 eX11_blocks_49 rfl rfl).run ?_
          refine (go_lstore 8 (L' := [some (.ref 88), some (.long x1), none, some (.int x3), some (.int x4), some (.int 0), some (.int 0), some (.int 1), some (.long x1), none, none, none]) eX11_blocks_50 (Nat.le_of_ble_eq_true rfl) rfl).run ?_
          refine (go_sub (L' := [some (.ref 88), none, none, some (.int x3), some (.int x4), some (.int 0), some (.int 0), some (.int 1), some (.long x1), none, none, none]) (lsub_keep (lsub_drop (lsub_keep (lsub_keep (lsub_keep (lsub_keep (lsub_keep (lsub_keep (lsub_keep (lsub_keep (lsub_keep (lsub_keep lsub_nil))))))))))))).run ?_
          exact (k4 h1 h2 h3 h4)
        · refine (go_iconst (v := -1) eX11_blocks_38 rfl).run ?_
          exact Run.ret (v := some (.int (-1))) (k5 h1 h2 h3 h4) ⟨Or.inl rfl, eX11_blocks_39⟩ rfl

set_option maxRecDepth 20000 in
theorem bX11_blocks_52 {d : Nat} {Q : Option Value → St → Prop} (x3 : Int32) (x4 : Int32) (x5 : Int32) (x6 : Int32) (x7 : Int32) (x8 : Int64) (σ : St) 
    (g1 : (0 : Int64) < x8 → vp_in x5 12)
    (k1 : x8 ≤ 0 → x7 = 0 → Q (some (.int (-1))) σ)
    (k2 : x8 ≤ 0 → ¬ x7 = 0 → x6 ≤ 32 → ¬ x3 = 1 → Run MX11_blocks (d + 1) 199 [some (.ref 88), none, none, none, some (.int x4), some (.int x5), none, none, some (.int 0), some (.int 0), none, none] [] σ Q)
    (k3 : x8 ≤ 0 → ¬ x7 = 0 → x6 ≤ 32 → x3 = 1 → Run MX11_blocks (d + 1) 152 [some (.ref 88), none, none, none, none, some (.int x5), none, none, some (.int (σ.1 102 ((0 : Int32).toNatClampNeg))), some (.int 1), none, none] [] σ Q)
    (k4 : x8 ≤ 0 → ¬ x7 = 0 → (32 : Int32) < x6 → Q (some (.int (-1))) σ)
    (k5 : (0 : Int64) < x8 → Run MX11_blocks (d + 1) 52 [some (.ref 88), none, none, some (.int x3), some (.int x4), some (.int (x5 + 1)), some (.int (x6 + ((upd (σ.1 102) x5.toNatClampNeg ((x8 &&& (15)).toInt32)) x5.toNatClampNeg))), some (.int (bI ((¬ x7 = 0) ∧ (0 : Int32) < ((upd (σ.1 102) x5.toNatClampNeg ((x8 &&& (15)).toInt32)) x5.toNatClampNeg)))), some (.long (x8 >>> ((4 : Int32).toInt64 &&& 63))), none, none, none] [] (sA σ 102 (upd (σ.1 102) x5.toNatClampNeg ((x8 &&& (15)).toInt32))) Q)
    : Run MX11_blocks (d + 1) 52 [some (.ref 88), none, none, some (.int x3), some (.int x4), some (.int x5), some (.int x6), some (.int x7), some (.long x8), none, none, none] [] σ Q := by
  refine (go_lload 8 eX11_blocks_52 rfl).run ?_
  refine (go_lconst (v := 0) eX11_blocks_54 rfl).run ?_
  refine (go_lcmp eX11_blocks_55).run ?_
  refine (brl_le 119 eX11_blocks_56 rfl).run (fun h1 => ?_) (fun h1 => ?_)
  · refine (go_iload 7 eX11_blocks_119 rfl).run ?_
    refine (bz_eq 131 eX11_blocks_121 rfl).run (fun h2 => ?_) (fun h2 => ?_)
    · refine (go_iconst (v := -1) eX11_blocks_131 rfl).run ?_
      exact Run.ret (v := some (.int (-1))) (k1 h1 h2) ⟨Or.inl rfl, eX11_blocks_132⟩ rfl
    · refine (go_iload 6 eX11_blocks_124 rfl).run ?_
      refine (go_bipush (v := 32) eX11_blocks_126 rfl).run ?_
      refine (bi_le 133 eX11_blocks_128 rfl).run (fun h3 => ?_) (fun h3 => ?_)
      · refine (go_iconst (v := 0) eX11_blocks_133 rfl).run ?_
        refine (go_istore 8 (L' := [some (.ref 88), none, none, some (.int x3), some (.int x4), some (.int x5), some (.int x6), some (.int x7), some (.int 0), none, none, none]) eX11_blocks_134 (Nat.le_of_ble_eq_true rfl) rfl).run ?_
        refine (go_iload_n 3 eX11_blocks_136 rfl rfl).run ?_
        refine (go_iconst (v := 1) eX11_blocks_137 rfl).run ?_
        refine (bi_ne 196 eX11_blocks_138 rfl).run (fun h4 => ?_) (fun h4 => ?_)
        · refine (go_iconst (v := 0) eX11_blocks_196 rfl).run ?_
          refine (go_istore 9 (L' := [some (.ref 88), none, none, some (.int x3), some (.int x4), some (.int x5), some (.int x6), some (.int x7), some (.int 0), some (.int 0), none, none]) eX11_blocks_197 (Nat.le_of_ble_eq_true rfl) rfl).run ?_
          refine (go_sub (L' := [some (.ref 88), none, none, none, some (.int x4), some (.int x5), none, none, some (.int 0), some (.int 0), none, none]) (lsub_keep (lsub_keep (lsub_keep (lsub_drop (lsub_keep (lsub_keep (lsub_drop (lsub_drop (lsub_keep (lsub_keep (lsub_keep (lsub_keep lsub_nil))))))))))))).run ?_
          exact (k2 h1 h2 h3 h4)
        · refine (go_aload_n 0 eX11_blocks_141 rfl rfl).run ?_
          refine (go_getr flX11_64 rf_10_26 kd_88 gr_88_26 eX11_blocks_142).run ?_
          refine (go_iconst (v := 0) eX11_blocks_145 rfl).run ?_
          refine (go_iald kd_102 ln_102 (vp_lit rfl rfl) eX11_blocks_146).run ?_
          refine (go_istore 8 (L' := [some (.ref 88), none, none, some (.int x3), some (.int x4), some (.int x5), some (.int x6), some (.int x7), some (.int (σ.1 102 ((0 : Int32).toNatClampNeg))), none, none, none]) eX11_blocks_147 (Nat.le_of_ble_eq_true rfl) rfl).run ?_
          refine (go_iconst (v := 1) eX11_blocks_149 rfl).run ?_
          refine (go_istore 9 (L' := [some (.ref 88), none, none, some (.int x3), some (.int x4), some (.int x5), some (.int x6), some (.int x7), some (.int (σ.1 102 ((0 : Int32).toNatClampNeg))), some (.int 1), none, none]) eX11_blocks_150 (Nat.le_of_ble_eq_true rfl) rfl).run ?_
          refine (go_sub (L' := [some (.ref 88), none, none, none, none, some (.int x5), none, none, some (.int (σ.1 102 ((0 : Int32).toNatClampNeg))), some (.int 1), none, none]) (lsub_keep (lsub_keep (lsub_keep (lsub_drop (lsub_drop (lsub_keep (lsub_drop (lsub_drop (lsub_keep (lsub_keep (lsub_keep (lsub_keep lsub_nil))))))))))))).run ?_
          exact (k3 h1 h2 h3 h4)
      · refine (go_iconst (v := -1) eX11_blocks_131 rfl).run ?_
        exact Run.ret (v := some (.int (-1))) (k4 h1 h2 h3) ⟨Or.inl rfl, eX11_blocks_132⟩ rfl
  · refine (go_aload_n 0 eX11_blocks_59 rfl rfl).run ?_
    refine (go_getr flX11_64 rf_10_26 kd_88 gr_88_26 eX11_blocks_60).run ?_
    refine (go_iload 5 eX11_blocks_63 rfl).run ?_
    refine (go_lload 8 eX11_blocks_65 rfl).run ?_
    refine (go_ldc2 csX11_242 eX11_blocks_67).run ?_
    refine (go_land eX11_blocks_70).run ?_
    refine (go_l2i eX11_blocks_71).run ?_
    refine (go_iast kd_102 ln_102 (g1 h1) eX11_blocks_72).run ?_
    refine (go_iload 7 eX11_blocks_73 rfl).run ?_
    have hJh5 : Run MX11_blocks (d + 1) 93 [some (.ref 88), none, none, some (.int x3), some (.int x4), some (.int x5), some (.int x6), none, some (.long x8), none, none, none] [.int (bI ((¬ x7 = 0) ∧ (0 : Int32) < ((upd (σ.1 102) x5.toNatClampNeg ((x8 &&& (15)).toInt32)) x5.toNatClampNeg)))] (sA σ 102 (upd (σ.1 102) x5.toNatClampNeg ((x8 &&& (15)).toInt32))) Q := by
      refine (go_istore 7 (L' := [some (.ref 88), none, none, some (.int x3), some (.int x4), some (.int x5), some (.int x6), some (.int (bI ((¬ x7 = 0) ∧ (0 : Int32) < ((upd (σ.1 102) x5.toNatClampNeg ((x8 &&& (15)).toInt32)) x5.toNatClampNeg)))), some (.long x8), none, none, none]) eX11_blocks_93 (Nat.le_of_ble_eq_true rfl) rfl).run ?_
      refine (go_iload 6 eX11_blocks_95 rfl).run ?_
      refine (go_aload_n 0 eX11_blocks_97 rfl rfl).run ?_
      refine (go_getr flX11_64 rf_10_26 kd_88 gr_88_26 eX11_blocks_98).run ?_
      refine (go_iload 5 eX11_blocks_101 rfl).run ?_
      refine (go_iald kd_102 ln_102 (g1 h1) eX11_blocks_103).run ?_
      refine (go_iadd eX11_blocks_104).run ?_
      refine (go_istore 6 (L' := [some (.ref 88), none, none, some (.int x3), some (.int x4), some (.int x5), some (.int (x6 + ((upd (σ.1 102) x5.toNatClampNeg ((x8 &&& (15)).toInt32)) x5.toNatClampNeg))), some (.int (bI ((¬ x7 = 0) ∧ (0 : Int32) < ((upd (σ.1 102) x5.toNatClampNeg ((x8 &&& (15)).toInt32)) x5.toNatClampNeg)))), some (.long x8), none, none, none]) eX11_blocks_105 (Nat.le_of_ble_eq_true rfl) rfl).run ?_
      refine (go_iinc 5 (v := (x5 + 1)) (L' := [some (.ref 88), none, none, some (.int x3), some (.int x4), some (.int (x5 + 1)), some (.int (x6 + ((upd (σ.1 102) x5.toNatClampNeg ((x8 &&& (15)).toInt32)) x5.toNatClampNeg))), some (.int (bI ((¬ x7 = 0) ∧ (0 : Int32) < ((upd (σ.1 102) x5.toNatClampNeg ((x8 &&& (15)).toInt32)) x5.toNatClampNeg)))), some (.long x8), none, none, none]) eX11_blocks_107 rfl rfl (Nat.le_of_ble_eq_true rfl) rfl).run ?_
      refine (go_lload 8 eX11_blocks_110 rfl).run ?_
      refine (go_iconst (v := 4) eX11_blocks_112 rfl).run ?_
      refine (go_lshr eX11_blocks_113).run ?_
      refine (go_lstore 8 (L' := [some (.ref 88), none, none, some (.int x3), some (.int x4), some (.int (x5 + 1)), some (.int (x6 + ((upd (σ.1 102) x5.toNatClampNeg ((x8 &&& (15)).toInt32)) x5.toNatClampNeg))), some (.int (bI ((¬ x7 = 0) ∧ (0 : Int32) < ((upd (σ.1 102) x5.toNatClampNeg ((x8 &&& (15)).toInt32)) x5.toNatClampNeg)))), some (.long (x8 >>> ((4 : Int32).toInt64 &&& 63))), none, none, none]) eX11_blocks_114 (Nat.le_of_ble_eq_true rfl) rfl).run ?_
      refine (go_goto 52 eX11_blocks_116 rfl).run ?_
      exact (k5 h1)
    refine (bz_eq 92 eX11_blocks_75 rfl).run (fun (h5 : x7 = 0) => ?_) (fun (h5 : ¬ x7 = 0) => ?_)
    · refine (go_iconst (v := 0) eX11_blocks_92 rfl).run ?_
      refine (go_sub (L' := [some (.ref 88), none, none, some (.int x3), some (.int x4), some (.int x5), some (.int x6), none, some (.long x8), none, none, none]) (lsub_keep (lsub_keep (lsub_keep (lsub_keep (lsub_keep (lsub_keep (lsub_keep (lsub_drop (lsub_keep (lsub_keep (lsub_keep (lsub_keep lsub_nil))))))))))))).run ?_
      first | exact hJh5 | (simp only [if_pos h5] at hJh5; exact hJh5) | (simp only [eq_true h5, not_true_eq_false, true_and, and_true, false_and, and_false, true_or, or_true, false_or, or_false, not_true_eq_false, not_false_eq_true] at hJh5; exact hJh5) | exact Run.eq (by simp [eq_true h5, not_true_eq_false, bI]) (by simp [eq_true h5, not_true_eq_false, bI]) rfl hJh5
    · refine (go_aload_n 0 eX11_blocks_78 rfl rfl).run ?_
      refine (go_getr flX11_64 rf_10_26 kd_88 gr_88_26 eX11_blocks_79).run ?_
      refine (go_iload 5 eX11_blocks_82 rfl).run ?_
      refine (go_iald kd_102 ln_102 (g1 h1) eX11_blocks_84).run ?_
      have hJh6 : Run MX11_blocks (d + 1) 93 [some (.ref 88), none, none, some (.int x3), some (.int x4), some (.int x5), some (.int x6), none, some (.long x8), none, none, none] [.int (bI ((0 : Int32) < ((upd (σ.1 102) x5.toNatClampNeg ((x8 &&& (15)).toInt32)) x5.toNatClampNeg)))] (sA σ 102 (upd (σ.1 102) x5.toNatClampNeg ((x8 &&& (15)).toInt32))) Q := by
        first | exact hJh5 | (simp only [if_neg (h5)] at hJh5; exact hJh5) | (simp only [eq_false h5, not_false_eq_true, true_and, and_true, false_and, and_false, true_or, or_true, false_or, or_false, not_true_eq_false, not_false_eq_true] at hJh5; exact hJh5) | exact Run.eq (by simp [eq_false h5, not_false_eq_true, bI]) (by simp [eq_false h5, not_false_eq_true, bI]) rfl hJh5
      refine (bz_le 92 eX11_blocks_85 rfl).run (fun (h6 : ((upd (σ.1 102) x5.toNatClampNeg ((x8 &&& (15)).toInt32)) x5.toNatClampNeg) ≤ 0) => ?_) (fun (h6 : (0 : Int32) < ((upd (σ.1 102) x5.toNatClampNeg ((x8 &&& (15)).toInt32)) x5.toNatClampNeg)) => ?_)
      · refine (go_iconst (v := 0) eX11_blocks_92 rfl).run ?_
        refine (go_sub (L' := [some (.ref 88), none, none, some (.int x3), some (.int x4), some (.int x5), some (.int x6), none, some (.long x8), none, none, none]) (lsub_keep (lsub_keep (lsub_keep (lsub_keep (lsub_keep (lsub_keep (lsub_keep (lsub_drop (lsub_keep (lsub_keep (lsub_keep (lsub_keep lsub_nil))))))))))))).run ?_
        first | exact hJh6 | (simp only [if_pos h6] at hJh6; exact hJh6) | (simp only [eq_true h6, eq_false (i32_nlt.mpr h6), true_and, and_true, false_and, and_false, true_or, or_true, false_or, or_false, not_true_eq_false, not_false_eq_true] at hJh6; exact hJh6) | exact Run.eq (by simp [eq_true h6, eq_false (i32_nlt.mpr h6), bI]) (by simp [eq_true h6, eq_false (i32_nlt.mpr h6), bI]) rfl hJh6
      · refine (go_iconst (v := 1) eX11_blocks_88 rfl).run ?_
        refine (go_goto 93 eX11_blocks_89 rfl).run ?_
        refine (go_sub (L' := [some (.ref 88), none, none, some (.int x3), some (.int x4), some (.int x5), some (.int x6), none, some (.long x8), none, none, none]) (lsub_keep (lsub_keep (lsub_keep (lsub_keep (lsub_keep (lsub_keep (lsub_keep (lsub_drop (lsub_keep (lsub_keep (lsub_keep (lsub_keep lsub_nil))))))))))))).run ?_
        first | exact hJh6 | (simp only [if_neg (i32_nle.mpr h6)] at hJh6; exact hJh6) | (simp only [eq_true h6, eq_false (i32_nle.mpr h6), true_and, and_true, false_and, and_false, true_or, or_true, false_or, or_false, not_true_eq_false, not_false_eq_true] at hJh6; exact hJh6) | exact Run.eq (by simp [eq_true h6, eq_false (i32_nle.mpr h6), bI]) (by simp [eq_true h6, eq_false (i32_nle.mpr h6), bI]) rfl hJh6

set_option maxRecDepth 20000 in
theorem bX11_blocks_199 {d : Nat} {Q : Option Value → St → Prop} (x4 : Int32) (x5 : Int32) (x8 : Int32) (x9 : Int32) (σ : St) 
    (k1 : x5 ≤ x9 → Q (some (.int x8)) σ)
    (k2 : x9 < x5 → Run MX11_blocks (d + 1) 210 [some (.ref 88), none, none, none, some (.int x4), some (.int x5), none, none, some (.int x8), some (.int x9), some (.int x9), none] [] σ Q)
    : Run MX11_blocks (d + 1) 199 [some (.ref 88), none, none, none, some (.int x4), some (.int x5), none, none, some (.int x8), some (.int x9), none, none] [] σ Q := by
  refine (go_iload 9 eX11_blocks_199 rfl).run ?_
  refine (go_iload 5 eX11_blocks_201 rfl).run ?_
  refine (bi_ge 292 eX11_blocks_203 rfl).run (fun h1 => ?_) (fun h1 => ?_)
  · refine (go_iload 8 eX11_blocks_292 rfl).run ?_
    exact Run.ret (v := some (.int x8)) (k1 h1) ⟨Or.inl rfl, eX11_blocks_294⟩ rfl
  · refine (go_iload 9 eX11_blocks_206 rfl).run ?_
    refine (go_istore 10 (L' := [some (.ref 88), none, none, none, some (.int x4), some (.int x5), none, none, some (.int x8), some (.int x9), some (.int x9), none]) eX11_blocks_208 (Nat.le_of_ble_eq_true rfl) rfl).run ?_
    exact (k2 h1)

set_option maxRecDepth 20000 in
theorem bX11_blocks_152 {d : Nat} {Q : Option Value → St → Prop} (x5 : Int32) (x8 : Int32) (x9 : Int32) (σ : St) 
    (g1 : x9 < x5 → vp_in x9 12)
    (k1 : x5 ≤ x9 → Q (some (.int x8)) σ)
    (k2 : x9 < x5 → Run MX11_blocks (d + 1) 152 [some (.ref 88), none, none, none, none, some (.int x5), none, none, some (.int ((1 : Int32) + (if x8 ≤ (σ.1 102 x9.toNatClampNeg) then (σ.1 102 x9.toNatClampNeg) else x8))), some (.int (x9 + 1)), none, none] [] σ Q)
    : Run MX11_blocks (d + 1) 152 [some (.ref 88), none, none, none, none, some (.int x5), none, none, some (.int x8), some (.int x9), none, none] [] σ Q := by
  refine (go_iload 9 eX11_blocks_152 rfl).run ?_
  refine (go_iload 5 eX11_blocks_154 rfl).run ?_
  refine (bi_ge 193 eX11_blocks_156 rfl).run (fun h1 => ?_) (fun h1 => ?_)
  · refine (go_iload 8 eX11_blocks_193 rfl).run ?_
    exact Run.ret (v := some (.int x8)) (k1 h1) ⟨Or.inl rfl, eX11_blocks_195⟩ rfl
  · refine (go_iconst (v := 1) eX11_blocks_159 rfl).run ?_
    refine (go_iload 8 eX11_blocks_160 rfl).run ?_
    refine (go_aload_n 0 eX11_blocks_162 rfl rfl).run ?_
    refine (go_getr flX11_64 rf_10_26 kd_88 gr_88_26 eX11_blocks_163).run ?_
    refine (go_iload 9 eX11_blocks_166 rfl).run ?_
    refine (go_iald kd_102 ln_102 (g1 h1) eX11_blocks_168).run ?_
    have hJh2 : Run MX11_blocks (d + 1) 184 [some (.ref 88), none, none, none, none, some (.int x5), none, none, none, some (.int x9), none, none] [.int (if x8 ≤ (σ.1 102 x9.toNatClampNeg) then (σ.1 102 x9.toNatClampNeg) else x8), .int 1] σ Q := by
      refine (go_iadd eX11_blocks_184).run ?_
      refine (go_istore 8 (L' := [some (.ref 88), none, none, none, none, some (.int x5), none, none, some (.int ((1 : Int32) + (if x8 ≤ (σ.1 102 x9.toNatClampNeg) then (σ.1 102 x9.toNatClampNeg) else x8))), some (.int x9), none, none]) eX11_blocks_185 (Nat.le_of_ble_eq_true rfl) rfl).run ?_
      refine (go_iinc 9 (v := (x9 + 1)) (L' := [some (.ref 88), none, none, none, none, some (.int x5), none, none, some (.int ((1 : Int32) + (if x8 ≤ (σ.1 102 x9.toNatClampNeg) then (σ.1 102 x9.toNatClampNeg) else x8))), some (.int (x9 + 1)), none, none]) eX11_blocks_187 rfl rfl (Nat.le_of_ble_eq_true rfl) rfl).run ?_
      refine (go_goto 152 eX11_blocks_190 rfl).run ?_
      exact (k2 h1)
    refine (bi_le 177 eX11_blocks_169 rfl).run (fun h2 => ?_) (fun h2 => ?_)
    · refine (go_aload_n 0 eX11_blocks_177 rfl rfl).run ?_
      refine (go_getr flX11_64 rf_10_26 kd_88 gr_88_26 eX11_blocks_178).run ?_
      refine (go_iload 9 eX11_blocks_181 rfl).run ?_
      refine (go_iald kd_102 ln_102 (g1 h1) eX11_blocks_183).run ?_
      refine (go_sub (L' := [some (.ref 88), none, none, none, none, some (.int x5), none, none, none, some (.int x9), none, none]) (lsub_keep (lsub_keep (lsub_keep (lsub_keep (lsub_keep (lsub_keep (lsub_keep (lsub_keep (lsub_drop (lsub_keep (lsub_keep (lsub_keep lsub_nil))))))))))))).run ?_
      first | exact hJh2 | (simp only [if_pos h2] at hJh2; exact hJh2) | (simp only [eq_true h2, eq_false (i32_nlt.mpr h2), true_and, and_true, false_and, and_false, true_or, or_true, false_or, or_false, not_true_eq_false, not_false_eq_true] at hJh2; exact hJh2) | exact Run.eq (by simp [eq_true h2, eq_false (i32_nlt.mpr h2), bI]) (by simp [eq_true h2, eq_false (i32_nlt.mpr h2), bI]) rfl hJh2
    · refine (go_iload 8 eX11_blocks_172 rfl).run ?_
      refine (go_goto 184 eX11_blocks_174 rfl).run ?_
      refine (go_sub (L' := [some (.ref 88), none, none, none, none, some (.int x5), none, none, none, some (.int x9), none, none]) (lsub_keep (lsub_keep (lsub_keep (lsub_keep (lsub_keep (lsub_keep (lsub_keep (lsub_keep (lsub_drop (lsub_keep (lsub_keep (lsub_keep lsub_nil))))))))))))).run ?_
      first | exact hJh2 | (simp only [if_neg (i32_nle.mpr h2)] at hJh2; exact hJh2) | (simp only [eq_true h2, eq_false (i32_nle.mpr h2), true_and, and_true, false_and, and_false, true_or, or_true, false_or, or_false, not_true_eq_false, not_false_eq_true] at hJh2; exact hJh2) | exact Run.eq (by simp [eq_true h2, eq_false (i32_nle.mpr h2), bI]) (by simp [eq_true h2, eq_false (i32_nle.mpr h2), bI]) rfl hJh2

set_option maxRecDepth 20000 in
theorem bX11_blocks_210 {d : Nat} {Q : Option Value → St → Prop} (x4 : Int32) (x5 : Int32) (x8 : Int32) (x9 : Int32) (x10 : Int32) (σ : St) 
    (g1 : x10 < x5 → ¬ x9 = x10 → vp_in x9 12)
    (g2 : x10 < x5 → ¬ x9 = x10 → vp_in x10 12)
    (g3 : x10 < x5 → x9 = x10 → vp_in x9 12)
    (k1 : x5 ≤ x10 → Run MX11_blocks (d + 1) 199 [some (.ref 88), none, none, none, some (.int x4), some (.int x5), none, none, some (.int x8), some (.int (x9 + 1)), none, none] [] σ Q)
    (k2 : x10 < x5 → Run MX11_blocks (d + 1) 210 [some (.ref 88), none, none, none, some (.int x4), some (.int x5), none, none, some (.int (if (if x9 = x10 then (σ.1 102 x9.toNatClampNeg) else ((((σ.1 102 x9.toNatClampNeg) + (x4 * ((x10 - x9) - 1))) + (σ.1 102 x10.toNatClampNeg)) - 1)) ≤ x8 then x8 else (if x9 = x10 then (σ.1 102 x9.toNatClampNeg) else ((((σ.1 102 x9.toNatClampNeg) + (x4 * ((x10 - x9) - 1))) + (σ.1 102 x10.toNatClampNeg)) - 1)))), some (.int x9), some (.int (x10 + 1)), none] [] σ Q)
    : Run MX11_blocks (d + 1) 210 [some (.ref 88), none, none, none, some (.int x4), some (.int x5), none, none, some (.int x8), some (.int x9), some (.int x10), none] [] σ Q := by
  refine (go_iload 10 eX11_blocks_210 rfl).run ?_
  refine (go_iload 5 eX11_blocks_212 rfl).run ?_
  refine (bi_ge 286 eX11_blocks_214 rfl).run (fun h1 => ?_) (fun h1 => ?_)
  · refine (go_iinc 9 (v := (x9 + 1)) (L' := [some (.ref 88), none, none, none, some (.int x4), some (.int x5), none, none, some (.int x8), some (.int (x9 + 1)), some (.int x10), none]) eX11_blocks_286 rfl rfl (Nat.le_of_ble_eq_true rfl) rfl).run ?_
    refine (go_goto 199 eX11_blocks_289 rfl).run ?_
    refine (go_sub (L' := [some (.ref 88), none, none, none, some (.int x4), some (.int x5), none, none, some (.int x8), some (.int (x9 + 1)), none, none]) (lsub_keep (lsub_keep (lsub_keep (lsub_keep (lsub_keep (lsub_keep (lsub_keep (lsub_keep (lsub_keep (lsub_keep (lsub_drop (lsub_keep lsub_nil))))))))))))).run ?_
    exact (k1 h1)
  · refine (go_iload 9 eX11_blocks_217 rfl).run ?_
    refine (go_iload 10 eX11_blocks_219 rfl).run ?_
    have hJh2 : Run MX11_blocks (d + 1) 262 [some (.ref 88), none, none, none, some (.int x4), some (.int x5), none, none, some (.int x8), some (.int x9), some (.int x10), none] [.int (if x9 = x10 then (σ.1 102 x9.toNatClampNeg) else ((((σ.1 102 x9.toNatClampNeg) + (x4 * ((x10 - x9) - 1))) + (σ.1 102 x10.toNatClampNeg)) - 1))] σ Q := by
      refine (go_istore 11 (L' := [some (.ref 88), none, none, none, some (.int x4), some (.int x5), none, none, some (.int x8), some (.int x9), some (.int x10), some (.int (if x9 = x10 then (σ.1 102 x9.toNatClampNeg) else ((((σ.1 102 x9.toNatClampNeg) + (x4 * ((x10 - x9) - 1))) + (σ.1 102 x10.toNatClampNeg)) - 1)))]) eX11_blocks_262 (Nat.le_of_ble_eq_true rfl) rfl).run ?_
      refine (go_iload 11 eX11_blocks_264 rfl).run ?_
      refine (go_iload 8 eX11_blocks_266 rfl).run ?_
      have hJh3 : Run MX11_blocks (d + 1) 278 [some (.ref 88), none, none, none, some (.int x4), some (.int x5), none, none, none, some (.int x9), some (.int x10), none] [.int (if (if x9 = x10 then (σ.1 102 x9.toNatClampNeg) else ((((σ.1 102 x9.toNatClampNeg) + (x4 * ((x10 - x9) - 1))) + (σ.1 102 x10.toNatClampNeg)) - 1)) ≤ x8 then x8 else (if x9 = x10 then (σ.1 102 x9.toNatClampNeg) else ((((σ.1 102 x9.toNatClampNeg) + (x4 * ((x10 - x9) - 1))) + (σ.1 102 x10.toNatClampNeg)) - 1)))] σ Q := by
        refine (go_istore 8 (L' := [some (.ref 88), none, none, none, some (.int x4), some (.int x5), none, none, some (.int (if (if x9 = x10 then (σ.1 102 x9.toNatClampNeg) else ((((σ.1 102 x9.toNatClampNeg) + (x4 * ((x10 - x9) - 1))) + (σ.1 102 x10.toNatClampNeg)) - 1)) ≤ x8 then x8 else (if x9 = x10 then (σ.1 102 x9.toNatClampNeg) else ((((σ.1 102 x9.toNatClampNeg) + (x4 * ((x10 - x9) - 1))) + (σ.1 102 x10.toNatClampNeg)) - 1)))), some (.int x9), some (.int x10), none]) eX11_blocks_278 (Nat.le_of_ble_eq_true rfl) rfl).run ?_
        refine (go_iinc 10 (v := (x10 + 1)) (L' := [some (.ref 88), none, none, none, some (.int x4), some (.int x5), none, none, some (.int (if (if x9 = x10 then (σ.1 102 x9.toNatClampNeg) else ((((σ.1 102 x9.toNatClampNeg) + (x4 * ((x10 - x9) - 1))) + (σ.1 102 x10.toNatClampNeg)) - 1)) ≤ x8 then x8 else (if x9 = x10 then (σ.1 102 x9.toNatClampNeg) else ((((σ.1 102 x9.toNatClampNeg) + (x4 * ((x10 - x9) - 1))) + (σ.1 102 x10.toNatClampNeg)) - 1)))), some (.int x9), some (.int (x10 + 1)), none]) eX11_blocks_280 rfl rfl (Nat.le_of_ble_eq_true rfl) rfl).run ?_
        refine (go_goto 210 eX11_blocks_283 rfl).run ?_
        exact (k2 h1)
      refine (bi_le 276 eX11_blocks_268 rfl).run (fun h3 => ?_) (fun h3 => ?_)
      · refine (go_iload 8 eX11_blocks_276 rfl).run ?_
        refine (go_sub (L' := [some (.ref 88), none, none, none, some (.int x4), some (.int x5), none, none, none, some (.int x9), some (.int x10), none]) (lsub_keep (lsub_keep (lsub_keep (lsub_keep (lsub_keep (lsub_keep (lsub_keep (lsub_keep (lsub_drop (lsub_keep (lsub_keep (lsub_drop lsub_nil))))))))))))).run ?_
        first | exact hJh3 | (simp only [if_pos h3] at hJh3; exact hJh3) | (simp only [eq_true h3, eq_false (i32_nlt.mpr h3), true_and, and_true, false_and, and_false, true_or, or_true, false_or, or_false, not_true_eq_false, not_false_eq_true] at hJh3; exact hJh3) | exact Run.eq (by simp [eq_true h3, eq_false (i32_nlt.mpr h3), bI]) (by simp [eq_true h3, eq_false (i32_nlt.mpr h3), bI]) rfl hJh3
      · refine (go_iload 11 eX11_blocks_271 rfl).run ?_
        refine (go_goto 278 eX11_blocks_273 rfl).run ?_
        refine (go_sub (L' := [some (.ref 88), none, none, none, some (.int x4), some (.int x5), none, none, none, some (.int x9), some (.int x10), none]) (lsub_keep (lsub_keep (lsub_keep (lsub_keep (lsub_keep (lsub_keep (lsub_keep (lsub_keep (lsub_drop (lsub_keep (lsub_keep (lsub_drop lsub_nil))))))))))))).run ?_
        first | exact hJh3 | (simp only [if_neg (i32_nle.mpr h3)] at hJh3; exact hJh3) | (simp only [eq_true h3, eq_false (i32_nle.mpr h3), true_and, and_true, false_and, and_false, true_or, or_true, false_or, or_false, not_true_eq_false, not_false_eq_true] at hJh3; exact hJh3) | exact Run.eq (by simp [eq_true h3, eq_false (i32_nle.mpr h3), bI]) (by simp [eq_true h3, eq_false (i32_nle.mpr h3), bI]) rfl hJh3
    refine (bi_ne 234 eX11_blocks_221 rfl).run (fun h2 => ?_) (fun h2 => ?_)
    · refine (go_aload_n 0 eX11_blocks_234 rfl rfl).run ?_
      refine (go_getr flX11_64 rf_10_26 kd_88 gr_88_26 eX11_blocks_235).run ?_
      refine (go_iload 9 eX11_blocks_238 rfl).run ?_
      refine (go_iald kd_102 ln_102 (g1 h1 h2) eX11_blocks_240).run ?_
      refine (go_iload 4 eX11_blocks_241 rfl).run ?_
      refine (go_iload 10 eX11_blocks_243 rfl).run ?_
      refine (go_iload 9 eX11_blocks_245 rfl).run ?_
      refine (go_isub eX11_blocks_247).run ?_
      refine (go_iconst (v := 1) eX11_blocks_248 rfl).run ?_
      refine (go_isub eX11_blocks_249).run ?_
      refine (go_imul eX11_blocks_250).run ?_
      refine (go_iadd eX11_blocks_251).run ?_
      refine (go_aload_n 0 eX11_blocks_252 rfl rfl).run ?_
      refine (go_getr flX11_64 rf_10_26 kd_88 gr_88_26 eX11_blocks_253).run ?_
      refine (go_iload 10 eX11_blocks_256 rfl).run ?_
      refine (go_iald kd_102 ln_102 (g2 h1 h2) eX11_blocks_258).run ?_
      refine (go_iadd eX11_blocks_259).run ?_
      refine (go_iconst (v := 1) eX11_blocks_260 rfl).run ?_
      refine (go_isub eX11_blocks_261).run ?_
      first | exact hJh2 | (simp only [if_neg (h2)] at hJh2; exact hJh2) | (simp only [eq_false h2, not_false_eq_true, true_and, and_true, false_and, and_false, true_or, or_true, false_or, or_false, not_true_eq_false, not_false_eq_true] at hJh2; exact hJh2) | exact Run.eq (by simp [eq_false h2, not_false_eq_true, bI]) (by simp [eq_false h2, not_false_eq_true, bI]) rfl hJh2
    · refine (go_aload_n 0 eX11_blocks_224 rfl rfl).run ?_
      refine (go_getr flX11_64 rf_10_26 kd_88 gr_88_26 eX11_blocks_225).run ?_
      refine (go_iload 9 eX11_blocks_228 rfl).run ?_
      refine (go_iald kd_102 ln_102 (g3 h1 h2) eX11_blocks_230).run ?_
      refine (go_goto 262 eX11_blocks_231 rfl).run ?_
      first | exact hJh2 | (simp only [if_pos h2] at hJh2; exact hJh2) | (simp only [eq_true h2, not_true_eq_false, true_and, and_true, false_and, and_false, true_or, or_true, false_or, or_false, not_true_eq_false, not_false_eq_true] at hJh2; exact hJh2) | exact Run.eq (by simp [eq_true h2, not_true_eq_false, bI]) (by simp [eq_true h2, not_true_eq_false, bI]) rfl hJh2

/-! CarryNetsModel.least -/
theorem eX11_least_0 : decode MX11_least.2.1 0 = .ok (.iload_n 0, 1) := by decide +kernel
theorem eX11_least_1 : decode MX11_least.2.1 1 = .ok (.iload_n 1, 1) := by decide +kernel
theorem eX11_least_2 : decode MX11_least.2.1 2 = .ok (.if_icmp .ge 7, 3) := by decide +kernel
theorem eX11_least_5 : decode MX11_least.2.1 5 = .ok (.iload_n 0, 1) := by decide +kernel
theorem eX11_least_6 : decode MX11_least.2.1 6 = .ok (.goto 4, 3) := by decide +kernel
theorem eX11_least_9 : decode MX11_least.2.1 9 = .ok (.iload_n 1, 1) := by decide +kernel
theorem eX11_least_10 : decode MX11_least.2.1 10 = .ok (.ireturn, 1) := by decide +kernel
set_option maxRecDepth 20000 in
theorem bX11_least_0 {d : Nat} {Q : Option Value → St → Prop} (x0 : Int32) (x1 : Int32) (σ : St) 
    (k1 : Q (some (.int (if x1 ≤ x0 then x1 else x0))) σ)
    : Run MX11_least d 0 [some (.int x0), some (.int x1)] [] σ Q := by
  refine (go_iload_n 0 eX11_least_0 rfl rfl).run ?_
  refine (go_iload_n 1 eX11_least_1 rfl rfl).run ?_
  have hJh1 : Run MX11_least d 10 [none, none] [.int (if x1 ≤ x0 then x1 else x0)] σ Q := by
    exact Run.ret (v := some (.int (if x1 ≤ x0 then x1 else x0))) k1 ⟨Or.inl rfl, eX11_least_10⟩ rfl
  refine (bi_ge 9 eX11_least_2 rfl).run (fun h1 => ?_) (fun h1 => ?_)
  · refine (go_iload_n 1 eX11_least_9 rfl rfl).run ?_
    refine (go_sub (L' := [none, none]) (lsub_drop (lsub_drop lsub_nil))).run ?_
    first | exact hJh1 | (simp only [if_pos h1] at hJh1; exact hJh1) | (simp only [eq_true h1, eq_false (i32_nlt.mpr h1), true_and, and_true, false_and, and_false, true_or, or_true, false_or, or_false, not_true_eq_false, not_false_eq_true] at hJh1; exact hJh1) | exact Run.eq (by simp [eq_true h1, eq_false (i32_nlt.mpr h1), bI]) (by simp [eq_true h1, eq_false (i32_nlt.mpr h1), bI]) rfl hJh1
  · refine (go_iload_n 0 eX11_least_5 rfl rfl).run ?_
    refine (go_goto 10 eX11_least_6 rfl).run ?_
    refine (go_sub (L' := [none, none]) (lsub_drop (lsub_drop lsub_nil))).run ?_
    first | exact hJh1 | (simp only [if_neg (i32_nle.mpr h1)] at hJh1; exact hJh1) | (simp only [eq_true h1, eq_false (i32_nle.mpr h1), true_and, and_true, false_and, and_false, true_or, or_true, false_or, or_false, not_true_eq_false, not_false_eq_true] at hJh1; exact hJh1) | exact Run.eq (by simp [eq_true h1, eq_false (i32_nle.mpr h1), bI]) (by simp [eq_true h1, eq_false (i32_nle.mpr h1), bI]) rfl hJh1

theorem qX11_least (d : Nat) (x0 : Int32) (x1 : Int32) (σ : St) : Ct yX11_least MX11_least d [.int x0, .int x1] σ (fun v σ1 => v = some (.int (if x1 ≤ x0 then x1 else x0)) ∧ σ1 = σ) :=
  Ct.of mX11_least.1 (Nat.le_of_ble_eq_true rfl) (bX11_least_0 x0 x1 σ   (⟨by first | rfl | (simp only [true_and, and_true, false_and, and_false, true_or, or_true, false_or, or_false, not_true_eq_false, not_false_eq_true, if_true, if_false]; done) | (simp [bI]; done), by first | rfl | (simp only [true_and, and_true, false_and, and_false, true_or, or_true, false_or, or_false, not_true_eq_false, not_false_eq_true, if_true, if_false]; done) | (simp [bI]; done)⟩))

/-! CarryNetsModel.roomOf -/
theorem eX11_roomOf_0 : decode MX11_roomOf.2.1 0 = .ok (.iload_n 3, 1) := by decide +kernel
theorem eX11_roomOf_1 : decode MX11_roomOf.2.1 1 = .ok (.iconst 1, 1) := by decide +kernel
theorem eX11_roomOf_2 : decode MX11_roomOf.2.1 2 = .ok (.if_icmp .ne 28, 3) := by decide +kernel
theorem eX11_roomOf_5 : decode MX11_roomOf.2.1 5 = .ok (.bipush 15, 2) := by decide +kernel
theorem eX11_roomOf_7 : decode MX11_roomOf.2.1 7 = .ok (.iload_n 0, 1) := by decide +kernel
theorem eX11_roomOf_8 : decode MX11_roomOf.2.1 8 = .ok (.ifCond .ne 12, 3) := by decide +kernel
theorem eX11_roomOf_11 : decode MX11_roomOf.2.1 11 = .ok (.iload_n 2, 1) := by decide +kernel
theorem eX11_roomOf_12 : decode MX11_roomOf.2.1 12 = .ok (.iload 5, 2) := by decide +kernel
theorem eX11_roomOf_14 : decode MX11_roomOf.2.1 14 = .ok (.isub, 1) := by decide +kernel
theorem eX11_roomOf_15 : decode MX11_roomOf.2.1 15 = .ok (.iconst 1, 1) := by decide +kernel
theorem eX11_roomOf_16 : decode MX11_roomOf.2.1 16 = .ok (.iadd, 1) := by decide +kernel
theorem eX11_roomOf_17 : decode MX11_roomOf.2.1 17 = .ok (.goto 9, 3) := by decide +kernel
theorem eX11_roomOf_20 : decode MX11_roomOf.2.1 20 = .ok (.iload_n 2, 1) := by decide +kernel
theorem eX11_roomOf_21 : decode MX11_roomOf.2.1 21 = .ok (.iload 5, 2) := by decide +kernel
theorem eX11_roomOf_23 : decode MX11_roomOf.2.1 23 = .ok (.isub, 1) := by decide +kernel
theorem eX11_roomOf_24 : decode MX11_roomOf.2.1 24 = .ok (.iload_n 0, 1) := by decide +kernel
theorem eX11_roomOf_25 : decode MX11_roomOf.2.1 25 = .ok (.iadd, 1) := by decide +kernel
theorem eX11_roomOf_26 : decode MX11_roomOf.2.1 26 = .ok (.invokestatic 244, 3) := by decide +kernel
theorem eX11_roomOf_29 : decode MX11_roomOf.2.1 29 = .ok (.ireturn, 1) := by decide +kernel
theorem eX11_roomOf_30 : decode MX11_roomOf.2.1 30 = .ok (.bipush 15, 2) := by decide +kernel
theorem eX11_roomOf_32 : decode MX11_roomOf.2.1 32 = .ok (.iload_n 2, 1) := by decide +kernel
theorem eX11_roomOf_33 : decode MX11_roomOf.2.1 33 = .ok (.invokestatic 244, 3) := by decide +kernel
theorem eX11_roomOf_36 : decode MX11_roomOf.2.1 36 = .ok (.iload_n 1, 1) := by decide +kernel
theorem eX11_roomOf_37 : decode MX11_roomOf.2.1 37 = .ok (.ifCond .ne 8, 3) := by decide +kernel
theorem eX11_roomOf_40 : decode MX11_roomOf.2.1 40 = .ok (.bipush 15, 2) := by decide +kernel
theorem eX11_roomOf_42 : decode MX11_roomOf.2.1 42 = .ok (.goto 16, 3) := by decide +kernel
theorem eX11_roomOf_45 : decode MX11_roomOf.2.1 45 = .ok (.iload_n 2, 1) := by decide +kernel
theorem eX11_roomOf_46 : decode MX11_roomOf.2.1 46 = .ok (.iconst 1, 1) := by decide +kernel
theorem eX11_roomOf_47 : decode MX11_roomOf.2.1 47 = .ok (.iadd, 1) := by decide +kernel
theorem eX11_roomOf_48 : decode MX11_roomOf.2.1 48 = .ok (.iload 4, 2) := by decide +kernel
theorem eX11_roomOf_50 : decode MX11_roomOf.2.1 50 = .ok (.iadd, 1) := by decide +kernel
theorem eX11_roomOf_51 : decode MX11_roomOf.2.1 51 = .ok (.iload 4, 2) := by decide +kernel
theorem eX11_roomOf_53 : decode MX11_roomOf.2.1 53 = .ok (.iload_n 0, 1) := by decide +kernel
theorem eX11_roomOf_54 : decode MX11_roomOf.2.1 54 = .ok (.imul, 1) := by decide +kernel
theorem eX11_roomOf_55 : decode MX11_roomOf.2.1 55 = .ok (.iadd, 1) := by decide +kernel
theorem eX11_roomOf_56 : decode MX11_roomOf.2.1 56 = .ok (.iload_n 1, 1) := by decide +kernel
theorem eX11_roomOf_57 : decode MX11_roomOf.2.1 57 = .ok (.isub, 1) := by decide +kernel
theorem eX11_roomOf_58 : decode MX11_roomOf.2.1 58 = .ok (.invokestatic 244, 3) := by decide +kernel
theorem eX11_roomOf_61 : decode MX11_roomOf.2.1 61 = .ok (.ireturn, 1) := by decide +kernel
set_option maxRecDepth 20000 in
theorem bX11_roomOf_0 {d : Nat} {Q : Option Value → St → Prop} (x0 : Int32) (x1 : Int32) (x2 : Int32) (x3 : Int32) (x4 : Int32) (x5 : Int32) (σ : St) 
    (k1 : ¬ x3 = 1 → Q (some (.int ((if (if x1 = 0 then (15 : Int32) else ((((x2 + 1) + x4) + (x4 * x0)) - x1)) ≤ ((if x2 ≤ (15 : Int32) then x2 else (15 : Int32))) then (if x1 = 0 then (15 : Int32) else ((((x2 + 1) + x4) + (x4 * x0)) - x1)) else ((if x2 ≤ (15 : Int32) then x2 else (15 : Int32))))))) σ)
    (k2 : x3 = 1 → Q (some (.int ((if (if x0 = 0 then ((x2 - x5) + 1) else ((x2 - x5) + x0)) ≤ (15 : Int32) then (if x0 = 0 then ((x2 - x5) + 1) else ((x2 - x5) + x0)) else (15 : Int32))))) σ)
    : Run MX11_roomOf (d + 1) 0 [some (.int x0), some (.int x1), some (.int x2), some (.int x3), some (.int x4), some (.int x5)] [] σ Q := by
  refine (go_iload_n 3 eX11_roomOf_0 rfl rfl).run ?_
  refine (go_iconst (v := 1) eX11_roomOf_1 rfl).run ?_
  refine (bi_ne 30 eX11_roomOf_2 rfl).run (fun h1 => ?_) (fun h1 => ?_)
  · refine (go_bipush (v := 15) eX11_roomOf_30 rfl).run ?_
    refine (go_iload_n 2 eX11_roomOf_32 rfl rfl).run ?_
    refine Run.callS1 (d := d) (As := [.int 15, .int x2]) (r := .int ((if x2 ≤ (15 : Int32) then x2 else (15 : Int32)))) mX11_least lkX11_244 rfl rfl rfl (Nat.le_of_ble_eq_true rfl) eX11_roomOf_33 (qX11_least d (15 : Int32) x2 σ  ) ?_
    refine (go_iload_n 1 eX11_roomOf_36 rfl rfl).run ?_
    have hJh2 : Run MX11_roomOf (d + 1) 58 [none, none, none, none, none, none] [.int (if x1 = 0 then (15 : Int32) else ((((x2 + 1) + x4) + (x4 * x0)) - x1)), .int ((if x2 ≤ (15 : Int32) then x2 else (15 : Int32)))] σ Q := by
      refine Run.callS1 (d := d) (As := [.int ((if x2 ≤ (15 : Int32) then x2 else (15 : Int32))), .int (if x1 = 0 then (15 : Int32) else ((((x2 + 1) + x4) + (x4 * x0)) - x1))]) (r := .int ((if (if x1 = 0 then (15 : Int32) else ((((x2 + 1) + x4) + (x4 * x0)) - x1)) ≤ ((if x2 ≤ (15 : Int32) then x2 else (15 : Int32))) then (if x1 = 0 then (15 : Int32) else ((((x2 + 1) + x4) + (x4 * x0)) - x1)) else ((if x2 ≤ (15 : Int32) then x2 else (15 : Int32)))))) mX11_least lkX11_244 rfl rfl rfl (Nat.le_of_ble_eq_true rfl) eX11_roomOf_58 (qX11_least d ((if x2 ≤ (15 : Int32) then x2 else (15 : Int32))) (if x1 = 0 then (15 : Int32) else ((((x2 + 1) + x4) + (x4 * x0)) - x1)) σ  ) ?_
      exact Run.ret (v := some (.int ((if (if x1 = 0 then (15 : Int32) else ((((x2 + 1) + x4) + (x4 * x0)) - x1)) ≤ ((if x2 ≤ (15 : Int32) then x2 else (15 : Int32))) then (if x1 = 0 then (15 : Int32) else ((((x2 + 1) + x4) + (x4 * x0)) - x1)) else ((if x2 ≤ (15 : Int32) then x2 else (15 : Int32))))))) (k1 h1) ⟨Or.inl rfl, eX11_roomOf_61⟩ rfl
    refine (bz_ne 45 eX11_roomOf_37 rfl).run (fun h2 => ?_) (fun h2 => ?_)
    · refine (go_iload_n 2 eX11_roomOf_45 rfl rfl).run ?_
      refine (go_iconst (v := 1) eX11_roomOf_46 rfl).run ?_
      refine (go_iadd eX11_roomOf_47).run ?_
      refine (go_iload 4 eX11_roomOf_48 rfl).run ?_
      refine (go_iadd eX11_roomOf_50).run ?_
      refine (go_iload 4 eX11_roomOf_51 rfl).run ?_
      refine (go_iload_n 0 eX11_roomOf_53 rfl rfl).run ?_
      refine (go_imul eX11_roomOf_54).run ?_
      refine (go_iadd eX11_roomOf_55).run ?_
      refine (go_iload_n 1 eX11_roomOf_56 rfl rfl).run ?_
      refine (go_isub eX11_roomOf_57).run ?_
      refine (go_sub (L' := [none, none, none, none, none, none]) (lsub_drop (lsub_drop (lsub_drop (lsub_drop (lsub_drop (lsub_drop lsub_nil))))))).run ?_
      first | exact hJh2 | (simp only [if_neg (h2)] at hJh2; exact hJh2) | (simp only [eq_false h2, not_false_eq_true, true_and, and_true, false_and, and_false, true_or, or_true, false_or, or_false, not_true_eq_false, not_false_eq_true] at hJh2; exact hJh2) | exact Run.eq (by simp [eq_false h2, not_false_eq_true, bI]) (by simp [eq_false h2, not_false_eq_true, bI]) rfl hJh2
    · refine (go_bipush (v := 15) eX11_roomOf_40 rfl).run ?_
      refine (go_goto 58 eX11_roomOf_42 rfl).run ?_
      refine (go_sub (L' := [none, none, none, none, none, none]) (lsub_drop (lsub_drop (lsub_drop (lsub_drop (lsub_drop (lsub_drop lsub_nil))))))).run ?_
      first | exact hJh2 | (simp only [if_pos h2] at hJh2; exact hJh2) | (simp only [eq_true h2, not_true_eq_false, true_and, and_true, false_and, and_false, true_or, or_true, false_or, or_false, not_true_eq_false, not_false_eq_true] at hJh2; exact hJh2) | exact Run.eq (by simp [eq_true h2, not_true_eq_false, bI]) (by simp [eq_true h2, not_true_eq_false, bI]) rfl hJh2
  · refine (go_bipush (v := 15) eX11_roomOf_5 rfl).run ?_
    refine (go_iload_n 0 eX11_roomOf_7 rfl rfl).run ?_
    have hJh3 : Run MX11_roomOf (d + 1) 26 [none, none, none, none, none, none] [.int (if x0 = 0 then ((x2 - x5) + 1) else ((x2 - x5) + x0)), .int 15] σ Q := by
      refine Run.callS1 (d := d) (As := [.int 15, .int (if x0 = 0 then ((x2 - x5) + 1) else ((x2 - x5) + x0))]) (r := .int ((if (if x0 = 0 then ((x2 - x5) + 1) else ((x2 - x5) + x0)) ≤ (15 : Int32) then (if x0 = 0 then ((x2 - x5) + 1) else ((x2 - x5) + x0)) else (15 : Int32)))) mX11_least lkX11_244 rfl rfl rfl (Nat.le_of_ble_eq_true rfl) eX11_roomOf_26 (qX11_least d (15 : Int32) (if x0 = 0 then ((x2 - x5) + 1) else ((x2 - x5) + x0)) σ  ) ?_
      exact Run.ret (v := some (.int ((if (if x0 = 0 then ((x2 - x5) + 1) else ((x2 - x5) + x0)) ≤ (15 : Int32) then (if x0 = 0 then ((x2 - x5) + 1) else ((x2 - x5) + x0)) else (15 : Int32))))) (k2 h1) ⟨Or.inl rfl, eX11_roomOf_29⟩ rfl
    refine (bz_ne 20 eX11_roomOf_8 rfl).run (fun h3 => ?_) (fun h3 => ?_)
    · refine (go_iload_n 2 eX11_roomOf_20 rfl rfl).run ?_
      refine (go_iload 5 eX11_roomOf_21 rfl).run ?_
      refine (go_isub eX11_roomOf_23).run ?_
      refine (go_iload_n 0 eX11_roomOf_24 rfl rfl).run ?_
      refine (go_iadd eX11_roomOf_25).run ?_
      refine (go_sub (L' := [none, none, none, none, none, none]) (lsub_drop (lsub_drop (lsub_drop (lsub_drop (lsub_drop (lsub_drop lsub_nil))))))).run ?_
      first | exact hJh3 | (simp only [if_neg (h3)] at hJh3; exact hJh3) | (simp only [eq_false h3, not_false_eq_true, true_and, and_true, false_and, and_false, true_or, or_true, false_or, or_false, not_true_eq_false, not_false_eq_true] at hJh3; exact hJh3) | exact Run.eq (by simp [eq_false h3, not_false_eq_true, bI]) (by simp [eq_false h3, not_false_eq_true, bI]) rfl hJh3
    · refine (go_iload_n 2 eX11_roomOf_11 rfl rfl).run ?_
      refine (go_iload 5 eX11_roomOf_12 rfl).run ?_
      refine (go_isub eX11_roomOf_14).run ?_
      refine (go_iconst (v := 1) eX11_roomOf_15 rfl).run ?_
      refine (go_iadd eX11_roomOf_16).run ?_
      refine (go_goto 26 eX11_roomOf_17 rfl).run ?_
      refine (go_sub (L' := [none, none, none, none, none, none]) (lsub_drop (lsub_drop (lsub_drop (lsub_drop (lsub_drop (lsub_drop lsub_nil))))))).run ?_
      first | exact hJh3 | (simp only [if_pos h3] at hJh3; exact hJh3) | (simp only [eq_true h3, not_true_eq_false, true_and, and_true, false_and, and_false, true_or, or_true, false_or, or_false, not_true_eq_false, not_false_eq_true] at hJh3; exact hJh3) | exact Run.eq (by simp [eq_true h3, not_true_eq_false, bI]) (by simp [eq_true h3, not_true_eq_false, bI]) rfl hJh3

def rX11_roomOf (x0 : Int32) (x1 : Int32) (x2 : Int32) (x3 : Int32) (x4 : Int32) (x5 : Int32) (σ : St) : Int32 := (if x3 = 1 then ((if (if x0 = 0 then ((x2 - x5) + 1) else ((x2 - x5) + x0)) ≤ (15 : Int32) then (if x0 = 0 then ((x2 - x5) + 1) else ((x2 - x5) + x0)) else (15 : Int32))) else ((if (if x1 = 0 then (15 : Int32) else ((((x2 + 1) + x4) + (x4 * x0)) - x1)) ≤ ((if x2 ≤ (15 : Int32) then x2 else (15 : Int32))) then (if x1 = 0 then (15 : Int32) else ((((x2 + 1) + x4) + (x4 * x0)) - x1)) else ((if x2 ≤ (15 : Int32) then x2 else (15 : Int32))))))
theorem qX11_roomOf (d : Nat) (x0 : Int32) (x1 : Int32) (x2 : Int32) (x3 : Int32) (x4 : Int32) (x5 : Int32) (σ : St) : Ct yX11_roomOf MX11_roomOf (d + 1) [.int x0, .int x1, .int x2, .int x3, .int x4, .int x5] σ (fun v σ1 => v = some (.int (rX11_roomOf x0 x1 x2 x3 x4 x5 σ)) ∧ σ1 = σ) :=
  Ct.of mX11_roomOf.1 (Nat.le_of_ble_eq_true rfl) (bX11_roomOf_0 x0 x1 x2 x3 x4 x5 σ   (fun h1 => ⟨by first | rfl | (simp only [rX11_roomOf, eq_false h1, not_false_eq_true, true_and, and_true, false_and, and_false, true_or, or_true, false_or, or_false, not_true_eq_false, not_false_eq_true, if_true, if_false]; done) | (simp [rX11_roomOf, eq_false h1, not_false_eq_true, bI]; done), by first | rfl | (simp only [rX11_roomOf, eq_false h1, not_false_eq_true, true_and, and_true, false_and, and_false, true_or, or_true, false_or, or_false, not_true_eq_false, not_false_eq_true, if_true, if_false]; done) | (simp [rX11_roomOf, eq_false h1, not_false_eq_true, bI]; done)⟩) (fun h1 => ⟨by first | rfl | (simp only [rX11_roomOf, eq_true h1, not_true_eq_false, true_and, and_true, false_and, and_false, true_or, or_true, false_or, or_false, not_true_eq_false, not_false_eq_true, if_true, if_false]; done) | (simp [rX11_roomOf, eq_true h1, not_true_eq_false, bI]; done), by first | rfl | (simp only [rX11_roomOf, eq_true h1, not_true_eq_false, true_and, and_true, false_and, and_false, true_or, or_true, false_or, or_false, not_true_eq_false, not_false_eq_true, if_true, if_false]; done) | (simp [rX11_roomOf, eq_true h1, not_true_eq_false, bI]; done)⟩))

/-! CarryNetsModel.aboveThen -/
theorem eX11_aboveThen_0 : decode MX11_aboveThen.2.1 0 = .ok (.iload_n 2, 1) := by decide +kernel
theorem eX11_aboveThen_1 : decode MX11_aboveThen.2.1 1 = .ok (.iload 4, 2) := by decide +kernel
theorem eX11_aboveThen_3 : decode MX11_aboveThen.2.1 3 = .ok (.iload_n 1, 1) := by decide +kernel
theorem eX11_aboveThen_4 : decode MX11_aboveThen.2.1 4 = .ok (.imul, 1) := by decide +kernel
theorem eX11_aboveThen_5 : decode MX11_aboveThen.2.1 5 = .ok (.iadd, 1) := by decide +kernel
theorem eX11_aboveThen_6 : decode MX11_aboveThen.2.1 6 = .ok (.istore 5, 2) := by decide +kernel
theorem eX11_aboveThen_8 : decode MX11_aboveThen.2.1 8 = .ok (.iload_n 3, 1) := by decide +kernel
theorem eX11_aboveThen_9 : decode MX11_aboveThen.2.1 9 = .ok (.iconst 1, 1) := by decide +kernel
theorem eX11_aboveThen_10 : decode MX11_aboveThen.2.1 10 = .ok (.if_icmp .ne 7, 3) := by decide +kernel
theorem eX11_aboveThen_13 : decode MX11_aboveThen.2.1 13 = .ok (.iconst 0, 1) := by decide +kernel
theorem eX11_aboveThen_14 : decode MX11_aboveThen.2.1 14 = .ok (.goto 15, 3) := by decide +kernel
theorem eX11_aboveThen_17 : decode MX11_aboveThen.2.1 17 = .ok (.iload 5, 2) := by decide +kernel
theorem eX11_aboveThen_19 : decode MX11_aboveThen.2.1 19 = .ok (.iload_n 0, 1) := by decide +kernel
theorem eX11_aboveThen_20 : decode MX11_aboveThen.2.1 20 = .ok (.if_icmp .le 8, 3) := by decide +kernel
theorem eX11_aboveThen_23 : decode MX11_aboveThen.2.1 23 = .ok (.iload 5, 2) := by decide +kernel
theorem eX11_aboveThen_25 : decode MX11_aboveThen.2.1 25 = .ok (.goto 4, 3) := by decide +kernel
theorem eX11_aboveThen_28 : decode MX11_aboveThen.2.1 28 = .ok (.iload_n 0, 1) := by decide +kernel
theorem eX11_aboveThen_29 : decode MX11_aboveThen.2.1 29 = .ok (.ireturn, 1) := by decide +kernel
set_option maxRecDepth 20000 in
theorem bX11_aboveThen_0 {d : Nat} {Q : Option Value → St → Prop} (x0 : Int32) (x1 : Int32) (x2 : Int32) (x3 : Int32) (x4 : Int32) (σ : St) 
    (k1 : Q (some (.int (if x3 = 1 then (0 : Int32) else (if (x2 + (x4 * x1)) ≤ x0 then x0 else (x2 + (x4 * x1)))))) σ)
    : Run MX11_aboveThen d 0 [some (.int x0), some (.int x1), some (.int x2), some (.int x3), some (.int x4), none] [] σ Q := by
  refine (go_iload_n 2 eX11_aboveThen_0 rfl rfl).run ?_
  refine (go_iload 4 eX11_aboveThen_1 rfl).run ?_
  refine (go_iload_n 1 eX11_aboveThen_3 rfl rfl).run ?_
  refine (go_imul eX11_aboveThen_4).run ?_
  refine (go_iadd eX11_aboveThen_5).run ?_
  refine (go_istore 5 (L' := [some (.int x0), some (.int x1), some (.int x2), some (.int x3), some (.int x4), some (.int (x2 + (x4 * x1)))]) eX11_aboveThen_6 (Nat.le_of_ble_eq_true rfl) rfl).run ?_
  refine (go_iload_n 3 eX11_aboveThen_8 rfl rfl).run ?_
  refine (go_iconst (v := 1) eX11_aboveThen_9 rfl).run ?_
  have hJh1 : Run MX11_aboveThen d 29 [none, none, none, none, none, none] [.int (if x3 = 1 then (0 : Int32) else (if (x2 + (x4 * x1)) ≤ x0 then x0 else (x2 + (x4 * x1))))] σ Q := by
    exact Run.ret (v := some (.int (if x3 = 1 then (0 : Int32) else (if (x2 + (x4 * x1)) ≤ x0 then x0 else (x2 + (x4 * x1)))))) k1 ⟨Or.inl rfl, eX11_aboveThen_29⟩ rfl
  refine (bi_ne 17 eX11_aboveThen_10 rfl).run (fun h1 => ?_) (fun h1 => ?_)
  · refine (go_iload 5 eX11_aboveThen_17 rfl).run ?_
    refine (go_iload_n 0 eX11_aboveThen_19 rfl rfl).run ?_
    have hJh2 : Run MX11_aboveThen d 29 [none, none, none, none, none, none] [.int (if (x2 + (x4 * x1)) ≤ x0 then x0 else (x2 + (x4 * x1)))] σ Q := by
      first | exact hJh1 | (simp only [if_neg (h1)] at hJh1; exact hJh1) | (simp only [eq_false h1, not_false_eq_true, true_and, and_true, false_and, and_false, true_or, or_true, false_or, or_false, not_true_eq_false, not_false_eq_true] at hJh1; exact hJh1) | exact Run.eq (by simp [eq_false h1, not_false_eq_true, bI]) (by simp [eq_false h1, not_false_eq_true, bI]) rfl hJh1
    refine (bi_le 28 eX11_aboveThen_20 rfl).run (fun h2 => ?_) (fun h2 => ?_)
    · refine (go_iload_n 0 eX11_aboveThen_28 rfl rfl).run ?_
      refine (go_sub (L' := [none, none, none, none, none, none]) (lsub_drop (lsub_drop (lsub_drop (lsub_drop (lsub_drop (lsub_drop lsub_nil))))))).run ?_
      first | exact hJh2 | (simp only [if_pos h2] at hJh2; exact hJh2) | (simp only [eq_true h2, eq_false (i32_nlt.mpr h2), true_and, and_true, false_and, and_false, true_or, or_true, false_or, or_false, not_true_eq_false, not_false_eq_true] at hJh2; exact hJh2) | exact Run.eq (by simp [eq_true h2, eq_false (i32_nlt.mpr h2), bI]) (by simp [eq_true h2, eq_false (i32_nlt.mpr h2), bI]) rfl hJh2
    · refine (go_iload 5 eX11_aboveThen_23 rfl).run ?_
      refine (go_goto 29 eX11_aboveThen_25 rfl).run ?_
      refine (go_sub (L' := [none, none, none, none, none, none]) (lsub_drop (lsub_drop (lsub_drop (lsub_drop (lsub_drop (lsub_drop lsub_nil))))))).run ?_
      first | exact hJh2 | (simp only [if_neg (i32_nle.mpr h2)] at hJh2; exact hJh2) | (simp only [eq_true h2, eq_false (i32_nle.mpr h2), true_and, and_true, false_and, and_false, true_or, or_true, false_or, or_false, not_true_eq_false, not_false_eq_true] at hJh2; exact hJh2) | exact Run.eq (by simp [eq_true h2, eq_false (i32_nle.mpr h2), bI]) (by simp [eq_true h2, eq_false (i32_nle.mpr h2), bI]) rfl hJh2
  · refine (go_iconst (v := 0) eX11_aboveThen_13 rfl).run ?_
    refine (go_goto 29 eX11_aboveThen_14 rfl).run ?_
    refine (go_sub (L' := [none, none, none, none, none, none]) (lsub_drop (lsub_drop (lsub_drop (lsub_drop (lsub_drop (lsub_drop lsub_nil))))))).run ?_
    first | exact hJh1 | (simp only [if_pos h1] at hJh1; exact hJh1) | (simp only [eq_true h1, not_true_eq_false, true_and, and_true, false_and, and_false, true_or, or_true, false_or, or_false, not_true_eq_false, not_false_eq_true] at hJh1; exact hJh1) | exact Run.eq (by simp [eq_true h1, not_true_eq_false, bI]) (by simp [eq_true h1, not_true_eq_false, bI]) rfl hJh1

def rX11_aboveThen (x0 : Int32) (x1 : Int32) (x2 : Int32) (x3 : Int32) (x4 : Int32) (σ : St) : Int32 := (if x3 = 1 then (0 : Int32) else (if (x2 + (x4 * x1)) ≤ x0 then x0 else (x2 + (x4 * x1))))
theorem qX11_aboveThen (d : Nat) (x0 : Int32) (x1 : Int32) (x2 : Int32) (x3 : Int32) (x4 : Int32) (σ : St) : Ct yX11_aboveThen MX11_aboveThen d [.int x0, .int x1, .int x2, .int x3, .int x4] σ (fun v σ1 => v = some (.int (rX11_aboveThen x0 x1 x2 x3 x4 σ)) ∧ σ1 = σ) :=
  Ct.of mX11_aboveThen.1 (Nat.le_of_ble_eq_true rfl) (bX11_aboveThen_0 x0 x1 x2 x3 x4 σ   (⟨by first | rfl | (simp only [rX11_aboveThen, true_and, and_true, false_and, and_false, true_or, or_true, false_or, or_false, not_true_eq_false, not_false_eq_true, if_true, if_false]; done) | (simp [rX11_aboveThen, bI]; done), by first | rfl | (simp only [rX11_aboveThen, true_and, and_true, false_and, and_false, true_or, or_true, false_or, or_false, not_true_eq_false, not_false_eq_true, if_true, if_false]; done) | (simp [rX11_aboveThen, bI]; done)⟩))

/-! CarryNetsModel.fillsBelow -/
theorem eX11_fillsBelow_0 : decode MX11_fillsBelow.2.1 0 = .ok (.iconst 0, 1) := by decide +kernel
theorem eX11_fillsBelow_1 : decode MX11_fillsBelow.2.1 1 = .ok (.istore 5, 2) := by decide +kernel
theorem eX11_fillsBelow_3 : decode MX11_fillsBelow.2.1 3 = .ok (.iload 5, 2) := by decide +kernel
theorem eX11_fillsBelow_5 : decode MX11_fillsBelow.2.1 5 = .ok (.sipush 130, 3) := by decide +kernel
theorem eX11_fillsBelow_8 : decode MX11_fillsBelow.2.1 8 = .ok (.if_icmp .ge 17, 3) := by decide +kernel
theorem eX11_fillsBelow_11 : decode MX11_fillsBelow.2.1 11 = .ok (.aload_n 0, 1) := by decide +kernel
theorem eX11_fillsBelow_12 : decode MX11_fillsBelow.2.1 12 = .ok (.getfield 67, 3) := by decide +kernel
theorem eX11_fillsBelow_15 : decode MX11_fillsBelow.2.1 15 = .ok (.iload 5, 2) := by decide +kernel
theorem eX11_fillsBelow_17 : decode MX11_fillsBelow.2.1 17 = .ok (.iconst 0, 1) := by decide +kernel
theorem eX11_fillsBelow_18 : decode MX11_fillsBelow.2.1 18 = .ok (.iastore, 1) := by decide +kernel
theorem eX11_fillsBelow_19 : decode MX11_fillsBelow.2.1 19 = .ok (.iinc 5 1, 3) := by decide +kernel
theorem eX11_fillsBelow_22 : decode MX11_fillsBelow.2.1 22 = .ok (.goto (-19), 3) := by decide +kernel
theorem eX11_fillsBelow_25 : decode MX11_fillsBelow.2.1 25 = .ok (.iconst 1, 1) := by decide +kernel
theorem eX11_fillsBelow_26 : decode MX11_fillsBelow.2.1 26 = .ok (.istore 5, 2) := by decide +kernel
theorem eX11_fillsBelow_28 : decode MX11_fillsBelow.2.1 28 = .ok (.iload 5, 2) := by decide +kernel
theorem eX11_fillsBelow_30 : decode MX11_fillsBelow.2.1 30 = .ok (.iload 4, 2) := by decide +kernel
theorem eX11_fillsBelow_32 : decode MX11_fillsBelow.2.1 32 = .ok (.if_icmp .gt 136, 3) := by decide +kernel
theorem eX11_fillsBelow_35 : decode MX11_fillsBelow.2.1 35 = .ok (.iconst 0, 1) := by decide +kernel
theorem eX11_fillsBelow_36 : decode MX11_fillsBelow.2.1 36 = .ok (.istore 6, 2) := by decide +kernel
theorem eX11_fillsBelow_38 : decode MX11_fillsBelow.2.1 38 = .ok (.iload 6, 2) := by decide +kernel
theorem eX11_fillsBelow_40 : decode MX11_fillsBelow.2.1 40 = .ok (.iload_n 2, 1) := by decide +kernel
theorem eX11_fillsBelow_41 : decode MX11_fillsBelow.2.1 41 = .ok (.iconst 1, 1) := by decide +kernel
theorem eX11_fillsBelow_42 : decode MX11_fillsBelow.2.1 42 = .ok (.if_icmp .ne 7, 3) := by decide +kernel
theorem eX11_fillsBelow_45 : decode MX11_fillsBelow.2.1 45 = .ok (.iconst 1, 1) := by decide +kernel
theorem eX11_fillsBelow_46 : decode MX11_fillsBelow.2.1 46 = .ok (.goto 6, 3) := by decide +kernel
theorem eX11_fillsBelow_49 : decode MX11_fillsBelow.2.1 49 = .ok (.sipush 130, 3) := by decide +kernel
theorem eX11_fillsBelow_52 : decode MX11_fillsBelow.2.1 52 = .ok (.if_icmp .ge 110, 3) := by decide +kernel
theorem eX11_fillsBelow_55 : decode MX11_fillsBelow.2.1 55 = .ok (.sipush (-1000), 3) := by decide +kernel
theorem eX11_fillsBelow_58 : decode MX11_fillsBelow.2.1 58 = .ok (.istore 7, 2) := by decide +kernel
theorem eX11_fillsBelow_60 : decode MX11_fillsBelow.2.1 60 = .ok (.iload 5, 2) := by decide +kernel
theorem eX11_fillsBelow_62 : decode MX11_fillsBelow.2.1 62 = .ok (.iconst 1, 1) := by decide +kernel
theorem eX11_fillsBelow_63 : decode MX11_fillsBelow.2.1 63 = .ok (.isub, 1) := by decide +kernel
theorem eX11_fillsBelow_64 : decode MX11_fillsBelow.2.1 64 = .ok (.iload 6, 2) := by decide +kernel
theorem eX11_fillsBelow_66 : decode MX11_fillsBelow.2.1 66 = .ok (.iload_n 1, 1) := by decide +kernel
theorem eX11_fillsBelow_67 : decode MX11_fillsBelow.2.1 67 = .ok (.iload_n 2, 1) := by decide +kernel
theorem eX11_fillsBelow_68 : decode MX11_fillsBelow.2.1 68 = .ok (.iload_n 3, 1) := by decide +kernel
theorem eX11_fillsBelow_69 : decode MX11_fillsBelow.2.1 69 = .ok (.iload 4, 2) := by decide +kernel
theorem eX11_fillsBelow_71 : decode MX11_fillsBelow.2.1 71 = .ok (.invokestatic 248, 3) := by decide +kernel
theorem eX11_fillsBelow_74 : decode MX11_fillsBelow.2.1 74 = .ok (.istore 8, 2) := by decide +kernel
theorem eX11_fillsBelow_76 : decode MX11_fillsBelow.2.1 76 = .ok (.iconst 1, 1) := by decide +kernel
theorem eX11_fillsBelow_77 : decode MX11_fillsBelow.2.1 77 = .ok (.istore 9, 2) := by decide +kernel
theorem eX11_fillsBelow_79 : decode MX11_fillsBelow.2.1 79 = .ok (.iload 9, 2) := by decide +kernel
theorem eX11_fillsBelow_81 : decode MX11_fillsBelow.2.1 81 = .ok (.iload 8, 2) := by decide +kernel
theorem eX11_fillsBelow_83 : decode MX11_fillsBelow.2.1 83 = .ok (.if_icmp .gt 57, 3) := by decide +kernel
theorem eX11_fillsBelow_86 : decode MX11_fillsBelow.2.1 86 = .ok (.iload 9, 2) := by decide +kernel
theorem eX11_fillsBelow_88 : decode MX11_fillsBelow.2.1 88 = .ok (.aload_n 0, 1) := by decide +kernel
theorem eX11_fillsBelow_89 : decode MX11_fillsBelow.2.1 89 = .ok (.getfield 67, 3) := by decide +kernel
theorem eX11_fillsBelow_92 : decode MX11_fillsBelow.2.1 92 = .ok (.sipush 130, 3) := by decide +kernel
theorem eX11_fillsBelow_95 : decode MX11_fillsBelow.2.1 95 = .ok (.iload 5, 2) := by decide +kernel
theorem eX11_fillsBelow_97 : decode MX11_fillsBelow.2.1 97 = .ok (.iconst 1, 1) := by decide +kernel
theorem eX11_fillsBelow_98 : decode MX11_fillsBelow.2.1 98 = .ok (.isub, 1) := by decide +kernel
theorem eX11_fillsBelow_99 : decode MX11_fillsBelow.2.1 99 = .ok (.imul, 1) := by decide +kernel
theorem eX11_fillsBelow_100 : decode MX11_fillsBelow.2.1 100 = .ok (.iload 6, 2) := by decide +kernel
theorem eX11_fillsBelow_102 : decode MX11_fillsBelow.2.1 102 = .ok (.iload 5, 2) := by decide +kernel
theorem eX11_fillsBelow_104 : decode MX11_fillsBelow.2.1 104 = .ok (.iconst 1, 1) := by decide +kernel
theorem eX11_fillsBelow_105 : decode MX11_fillsBelow.2.1 105 = .ok (.isub, 1) := by decide +kernel
theorem eX11_fillsBelow_106 : decode MX11_fillsBelow.2.1 106 = .ok (.iload 9, 2) := by decide +kernel
theorem eX11_fillsBelow_108 : decode MX11_fillsBelow.2.1 108 = .ok (.iload_n 2, 1) := by decide +kernel
theorem eX11_fillsBelow_109 : decode MX11_fillsBelow.2.1 109 = .ok (.iload_n 3, 1) := by decide +kernel
theorem eX11_fillsBelow_110 : decode MX11_fillsBelow.2.1 110 = .ok (.invokestatic 252, 3) := by decide +kernel
theorem eX11_fillsBelow_113 : decode MX11_fillsBelow.2.1 113 = .ok (.iadd, 1) := by decide +kernel
theorem eX11_fillsBelow_114 : decode MX11_fillsBelow.2.1 114 = .ok (.iaload, 1) := by decide +kernel
theorem eX11_fillsBelow_115 : decode MX11_fillsBelow.2.1 115 = .ok (.iadd, 1) := by decide +kernel
theorem eX11_fillsBelow_116 : decode MX11_fillsBelow.2.1 116 = .ok (.istore 10, 2) := by decide +kernel
theorem eX11_fillsBelow_118 : decode MX11_fillsBelow.2.1 118 = .ok (.iload 10, 2) := by decide +kernel
theorem eX11_fillsBelow_120 : decode MX11_fillsBelow.2.1 120 = .ok (.iload 7, 2) := by decide +kernel
theorem eX11_fillsBelow_122 : decode MX11_fillsBelow.2.1 122 = .ok (.if_icmp .le 8, 3) := by decide +kernel
theorem eX11_fillsBelow_125 : decode MX11_fillsBelow.2.1 125 = .ok (.iload 10, 2) := by decide +kernel
theorem eX11_fillsBelow_127 : decode MX11_fillsBelow.2.1 127 = .ok (.goto 5, 3) := by decide +kernel
theorem eX11_fillsBelow_130 : decode MX11_fillsBelow.2.1 130 = .ok (.iload 7, 2) := by decide +kernel
theorem eX11_fillsBelow_132 : decode MX11_fillsBelow.2.1 132 = .ok (.istore 7, 2) := by decide +kernel
theorem eX11_fillsBelow_134 : decode MX11_fillsBelow.2.1 134 = .ok (.iinc 9 1, 3) := by decide +kernel
theorem eX11_fillsBelow_137 : decode MX11_fillsBelow.2.1 137 = .ok (.goto (-58), 3) := by decide +kernel
theorem eX11_fillsBelow_140 : decode MX11_fillsBelow.2.1 140 = .ok (.aload_n 0, 1) := by decide +kernel
theorem eX11_fillsBelow_141 : decode MX11_fillsBelow.2.1 141 = .ok (.getfield 67, 3) := by decide +kernel
theorem eX11_fillsBelow_144 : decode MX11_fillsBelow.2.1 144 = .ok (.sipush 130, 3) := by decide +kernel
theorem eX11_fillsBelow_147 : decode MX11_fillsBelow.2.1 147 = .ok (.iload 5, 2) := by decide +kernel
theorem eX11_fillsBelow_149 : decode MX11_fillsBelow.2.1 149 = .ok (.imul, 1) := by decide +kernel
theorem eX11_fillsBelow_150 : decode MX11_fillsBelow.2.1 150 = .ok (.iload 6, 2) := by decide +kernel
theorem eX11_fillsBelow_152 : decode MX11_fillsBelow.2.1 152 = .ok (.iadd, 1) := by decide +kernel
theorem eX11_fillsBelow_153 : decode MX11_fillsBelow.2.1 153 = .ok (.iload 7, 2) := by decide +kernel
theorem eX11_fillsBelow_155 : decode MX11_fillsBelow.2.1 155 = .ok (.iastore, 1) := by decide +kernel
theorem eX11_fillsBelow_156 : decode MX11_fillsBelow.2.1 156 = .ok (.iinc 6 1, 3) := by decide +kernel
theorem eX11_fillsBelow_159 : decode MX11_fillsBelow.2.1 159 = .ok (.goto (-121), 3) := by decide +kernel
theorem eX11_fillsBelow_162 : decode MX11_fillsBelow.2.1 162 = .ok (.iinc 5 1, 3) := by decide +kernel
theorem eX11_fillsBelow_165 : decode MX11_fillsBelow.2.1 165 = .ok (.goto (-137), 3) := by decide +kernel
theorem eX11_fillsBelow_168 : decode MX11_fillsBelow.2.1 168 = .ok (.return_, 1) := by decide +kernel
set_option maxRecDepth 20000 in
theorem bX11_fillsBelow_0 {d : Nat} {Q : Option Value → St → Prop} (x1 : Int32) (x2 : Int32) (x3 : Int32) (x4 : Int32) (σ : St) 
    (k1 : Run MX11_fillsBelow (d + 2) 3 [some (.ref 88), some (.int x1), some (.int x2), some (.int x3), some (.int x4), some (.int 0), none, none, none, none, none] [] σ Q)
    : Run MX11_fillsBelow (d + 2) 0 [some (.ref 88), some (.int x1), some (.int x2), some (.int x3), some (.int x4), none, none, none, none, none, none] [] σ Q := by
  refine (go_iconst (v := 0) eX11_fillsBelow_0 rfl).run ?_
  refine (go_istore 5 (L' := [some (.ref 88), some (.int x1), some (.int x2), some (.int x3), some (.int x4), some (.int 0), none, none, none, none, none]) eX11_fillsBelow_1 (Nat.le_of_ble_eq_true rfl) rfl).run ?_
  exact k1

set_option maxRecDepth 20000 in
theorem bX11_fillsBelow_3 {d : Nat} {Q : Option Value → St → Prop} (x1 : Int32) (x2 : Int32) (x3 : Int32) (x4 : Int32) (x5 : Int32) (σ : St) 
    (g1 : x5 < 130 → vp_in x5 1690)
    (k1 : (130 : Int32) ≤ x5 → Run MX11_fillsBelow (d + 2) 28 [some (.ref 88), some (.int x1), some (.int x2), some (.int x3), some (.int x4), some (.int 1), none, none, none, none, none] [] σ Q)
    (k2 : x5 < 130 → Run MX11_fillsBelow (d + 2) 3 [some (.ref 88), some (.int x1), some (.int x2), some (.int x3), some (.int x4), some (.int (x5 + 1)), none, none, none, none, none] [] (sA σ 103 (upd (σ.1 103) x5.toNatClampNeg 0)) Q)
    : Run MX11_fillsBelow (d + 2) 3 [some (.ref 88), some (.int x1), some (.int x2), some (.int x3), some (.int x4), some (.int x5), none, none, none, none, none] [] σ Q := by
  refine (go_iload 5 eX11_fillsBelow_3 rfl).run ?_
  refine (go_sipush (v := 130) eX11_fillsBelow_5 rfl).run ?_
  refine (bi_ge 25 eX11_fillsBelow_8 rfl).run (fun h1 => ?_) (fun h1 => ?_)
  · refine (go_iconst (v := 1) eX11_fillsBelow_25 rfl).run ?_
    refine (go_istore 5 (L' := [some (.ref 88), some (.int x1), some (.int x2), some (.int x3), some (.int x4), some (.int 1), none, none, none, none, none]) eX11_fillsBelow_26 (Nat.le_of_ble_eq_true rfl) rfl).run ?_
    exact (k1 h1)
  · refine (go_aload_n 0 eX11_fillsBelow_11 rfl rfl).run ?_
    refine (go_getr flX11_67 rf_10_27 kd_88 gr_88_27 eX11_fillsBelow_12).run ?_
    refine (go_iload 5 eX11_fillsBelow_15 rfl).run ?_
    refine (go_iconst (v := 0) eX11_fillsBelow_17 rfl).run ?_
    refine (go_iast kd_103 ln_103 (g1 h1) eX11_fillsBelow_18).run ?_
    refine (go_iinc 5 (v := (x5 + 1)) (L' := [some (.ref 88), some (.int x1), some (.int x2), some (.int x3), some (.int x4), some (.int (x5 + 1)), none, none, none, none, none]) eX11_fillsBelow_19 rfl rfl (Nat.le_of_ble_eq_true rfl) rfl).run ?_
    refine (go_goto 3 eX11_fillsBelow_22 rfl).run ?_
    exact (k2 h1)

set_option maxRecDepth 20000 in
theorem bX11_fillsBelow_28 {d : Nat} {Q : Option Value → St → Prop} (x1 : Int32) (x2 : Int32) (x3 : Int32) (x4 : Int32) (x5 : Int32) (σ : St) 
    (k1 : x4 < x5 → Q (none) σ)
    (k2 : x5 ≤ x4 → Run MX11_fillsBelow (d + 2) 38 [some (.ref 88), some (.int x1), some (.int x2), some (.int x3), some (.int x4), some (.int x5), some (.int 0), none, none, none, none] [] σ Q)
    : Run MX11_fillsBelow (d + 2) 28 [some (.ref 88), some (.int x1), some (.int x2), some (.int x3), some (.int x4), some (.int x5), none, none, none, none, none] [] σ Q := by
  refine (go_iload 5 eX11_fillsBelow_28 rfl).run ?_
  refine (go_iload 4 eX11_fillsBelow_30 rfl).run ?_
  refine (bi_gt 168 eX11_fillsBelow_32 rfl).run (fun h1 => ?_) (fun h1 => ?_)
  · exact Run.ret (v := none) (k1 h1) ⟨rfl, eX11_fillsBelow_168⟩ rfl
  · refine (go_iconst (v := 0) eX11_fillsBelow_35 rfl).run ?_
    refine (go_istore 6 (L' := [some (.ref 88), some (.int x1), some (.int x2), some (.int x3), some (.int x4), some (.int x5), some (.int 0), none, none, none, none]) eX11_fillsBelow_36 (Nat.le_of_ble_eq_true rfl) rfl).run ?_
    exact (k2 h1)

set_option maxRecDepth 20000 in
theorem bX11_fillsBelow_38 {d : Nat} {Q : Option Value → St → Prop} (x1 : Int32) (x2 : Int32) (x3 : Int32) (x4 : Int32) (x5 : Int32) (x6 : Int32) (σ : St) 
    (k1 : (if x2 = 1 then (1 : Int32) else 130) ≤ x6 → Run MX11_fillsBelow (d + 2) 28 [some (.ref 88), some (.int x1), some (.int x2), some (.int x3), some (.int x4), some (.int (x5 + 1)), none, none, none, none, none] [] σ Q)
    (k2 : x6 < (if x2 = 1 then (1 : Int32) else 130) → Run MX11_fillsBelow (d + 2) 79 [some (.ref 88), some (.int x1), some (.int x2), some (.int x3), some (.int x4), some (.int x5), some (.int x6), some (.int (-1000)), some (.int ((rX11_roomOf (x5 - 1) x6 x1 x2 x3 x4 σ))), some (.int 1), none] [] σ Q)
    : Run MX11_fillsBelow (d + 2) 38 [some (.ref 88), some (.int x1), some (.int x2), some (.int x3), some (.int x4), some (.int x5), some (.int x6), none, none, none, none] [] σ Q := by
  refine (go_iload 6 eX11_fillsBelow_38 rfl).run ?_
  refine (go_iload_n 2 eX11_fillsBelow_40 rfl rfl).run ?_
  refine (go_iconst (v := 1) eX11_fillsBelow_41 rfl).run ?_
  have hJh1 : Run MX11_fillsBelow (d + 2) 52 [some (.ref 88), some (.int x1), some (.int x2), some (.int x3), some (.int x4), some (.int x5), some (.int x6), none, none, none, none] [.int (if x2 = 1 then (1 : Int32) else 130), .int x6] σ Q := by
    refine (bi_ge 162 eX11_fillsBelow_52 rfl).run (fun h2 => ?_) (fun h2 => ?_)
    · refine (go_iinc 5 (v := (x5 + 1)) (L' := [some (.ref 88), some (.int x1), some (.int x2), some (.int x3), some (.int x4), some (.int (x5 + 1)), some (.int x6), none, none, none, none]) eX11_fillsBelow_162 rfl rfl (Nat.le_of_ble_eq_true rfl) rfl).run ?_
      refine (go_goto 28 eX11_fillsBelow_165 rfl).run ?_
      refine (go_sub (L' := [some (.ref 88), some (.int x1), some (.int x2), some (.int x3), some (.int x4), some (.int (x5 + 1)), none, none, none, none, none]) (lsub_keep (lsub_keep (lsub_keep (lsub_keep (lsub_keep (lsub_keep (lsub_drop (lsub_keep (lsub_keep (lsub_keep (lsub_keep lsub_nil)))))))))))).run ?_
      exact (k1 h2)
    · refine (go_sipush (v := -1000) eX11_fillsBelow_55 rfl).run ?_
      refine (go_istore 7 (L' := [some (.ref 88), some (.int x1), some (.int x2), some (.int x3), some (.int x4), some (.int x5), some (.int x6), some (.int (-1000)), none, none, none]) eX11_fillsBelow_58 (Nat.le_of_ble_eq_true rfl) rfl).run ?_
      refine (go_iload 5 eX11_fillsBelow_60 rfl).run ?_
      refine (go_iconst (v := 1) eX11_fillsBelow_62 rfl).run ?_
      refine (go_isub eX11_fillsBelow_63).run ?_
      refine (go_iload 6 eX11_fillsBelow_64 rfl).run ?_
      refine (go_iload_n 1 eX11_fillsBelow_66 rfl rfl).run ?_
      refine (go_iload_n 2 eX11_fillsBelow_67 rfl rfl).run ?_
      refine (go_iload_n 3 eX11_fillsBelow_68 rfl rfl).run ?_
      refine (go_iload 4 eX11_fillsBelow_69 rfl).run ?_
      refine Run.callS1 (d := (d + 1)) (As := [.int (x5 - 1), .int x6, .int x1, .int x2, .int x3, .int x4]) (r := .int ((rX11_roomOf (x5 - 1) x6 x1 x2 x3 x4 σ))) mX11_roomOf lkX11_248 rfl rfl rfl (Nat.le_of_ble_eq_true rfl) eX11_fillsBelow_71 (qX11_roomOf d (x5 - 1) x6 x1 x2 x3 x4 σ  ) ?_
      refine (go_istore 8 (L' := [some (.ref 88), some (.int x1), some (.int x2), some (.int x3), some (.int x4), some (.int x5), some (.int x6), some (.int (-1000)), some (.int ((rX11_roomOf (x5 - 1) x6 x1 x2 x3 x4 σ))), none, none]) eX11_fillsBelow_74 (Nat.le_of_ble_eq_true rfl) rfl).run ?_
      refine (go_iconst (v := 1) eX11_fillsBelow_76 rfl).run ?_
      refine (go_istore 9 (L' := [some (.ref 88), some (.int x1), some (.int x2), some (.int x3), some (.int x4), some (.int x5), some (.int x6), some (.int (-1000)), some (.int ((rX11_roomOf (x5 - 1) x6 x1 x2 x3 x4 σ))), some (.int 1), none]) eX11_fillsBelow_77 (Nat.le_of_ble_eq_true rfl) rfl).run ?_
      exact (k2 h2)
  refine (bi_ne 49 eX11_fillsBelow_42 rfl).run (fun h1 => ?_) (fun h1 => ?_)
  · refine (go_sipush (v := 130) eX11_fillsBelow_49 rfl).run ?_
    first | exact hJh1 | (simp only [if_neg (h1)] at hJh1; exact hJh1) | (simp only [eq_false h1, not_false_eq_true, true_and, and_true, false_and, and_false, true_or, or_true, false_or, or_false, not_true_eq_false, not_false_eq_true] at hJh1; exact hJh1) | exact Run.eq (by simp [eq_false h1, not_false_eq_true, bI]) (by simp [eq_false h1, not_false_eq_true, bI]) rfl hJh1
  · refine (go_iconst (v := 1) eX11_fillsBelow_45 rfl).run ?_
    refine (go_goto 52 eX11_fillsBelow_46 rfl).run ?_
    first | exact hJh1 | (simp only [if_pos h1] at hJh1; exact hJh1) | (simp only [eq_true h1, not_true_eq_false, true_and, and_true, false_and, and_false, true_or, or_true, false_or, or_false, not_true_eq_false, not_false_eq_true] at hJh1; exact hJh1) | exact Run.eq (by simp [eq_true h1, not_true_eq_false, bI]) (by simp [eq_true h1, not_true_eq_false, bI]) rfl hJh1

set_option maxRecDepth 20000 in
theorem bX11_fillsBelow_79 {d : Nat} {Q : Option Value → St → Prop} (x1 : Int32) (x2 : Int32) (x3 : Int32) (x4 : Int32) (x5 : Int32) (x6 : Int32) (x7 : Int32) (x8 : Int32) (x9 : Int32) (σ : St) 
    (g1 : x8 < x9 → vp_in (((130 : Int32) * x5) + x6) 1690)
    (g2 : x9 ≤ x8 → vp_in (((130 : Int32) * (x5 - 1)) + ((rX11_aboveThen x6 (x5 - 1) x9 x2 x3 σ))) 1690)
    (k1 : x8 < x9 → Run MX11_fillsBelow (d + 2) 38 [some (.ref 88), some (.int x1), some (.int x2), some (.int x3), some (.int x4), some (.int x5), some (.int (x6 + 1)), none, none, none, none] [] (sA σ 103 (upd (σ.1 103) (((130 : Int32) * x5) + x6).toNatClampNeg x7)) Q)
    (k2 : x9 ≤ x8 → Run MX11_fillsBelow (d + 2) 79 [some (.ref 88), some (.int x1), some (.int x2), some (.int x3), some (.int x4), some (.int x5), some (.int x6), some (.int (if (x9 + (σ.1 103 (((130 : Int32) * (x5 - 1)) + ((rX11_aboveThen x6 (x5 - 1) x9 x2 x3 σ))).toNatClampNeg)) ≤ x7 then x7 else (x9 + (σ.1 103 (((130 : Int32) * (x5 - 1)) + ((rX11_aboveThen x6 (x5 - 1) x9 x2 x3 σ))).toNatClampNeg)))), some (.int x8), some (.int (x9 + 1)), none] [] σ Q)
    : Run MX11_fillsBelow (d + 2) 79 [some (.ref 88), some (.int x1), some (.int x2), some (.int x3), some (.int x4), some (.int x5), some (.int x6), some (.int x7), some (.int x8), some (.int x9), none] [] σ Q := by
  refine (go_iload 9 eX11_fillsBelow_79 rfl).run ?_
  refine (go_iload 8 eX11_fillsBelow_81 rfl).run ?_
  refine (bi_gt 140 eX11_fillsBelow_83 rfl).run (fun h1 => ?_) (fun h1 => ?_)
  · refine (go_aload_n 0 eX11_fillsBelow_140 rfl rfl).run ?_
    refine (go_getr flX11_67 rf_10_27 kd_88 gr_88_27 eX11_fillsBelow_141).run ?_
    refine (go_sipush (v := 130) eX11_fillsBelow_144 rfl).run ?_
    refine (go_iload 5 eX11_fillsBelow_147 rfl).run ?_
    refine (go_imul eX11_fillsBelow_149).run ?_
    refine (go_iload 6 eX11_fillsBelow_150 rfl).run ?_
    refine (go_iadd eX11_fillsBelow_152).run ?_
    refine (go_iload 7 eX11_fillsBelow_153 rfl).run ?_
    refine (go_iast kd_103 ln_103 (g1 h1) eX11_fillsBelow_155).run ?_
    refine (go_iinc 6 (v := (x6 + 1)) (L' := [some (.ref 88), some (.int x1), some (.int x2), some (.int x3), some (.int x4), some (.int x5), some (.int (x6 + 1)), some (.int x7), some (.int x8), some (.int x9), none]) eX11_fillsBelow_156 rfl rfl (Nat.le_of_ble_eq_true rfl) rfl).run ?_
    refine (go_goto 38 eX11_fillsBelow_159 rfl).run ?_
    refine (go_sub (L' := [some (.ref 88), some (.int x1), some (.int x2), some (.int x3), some (.int x4), some (.int x5), some (.int (x6 + 1)), none, none, none, none]) (lsub_keep (lsub_keep (lsub_keep (lsub_keep (lsub_keep (lsub_keep (lsub_keep (lsub_drop (lsub_drop (lsub_drop (lsub_keep lsub_nil)))))))))))).run ?_
    exact (k1 h1)
  · refine (go_iload 9 eX11_fillsBelow_86 rfl).run ?_
    refine (go_aload_n 0 eX11_fillsBelow_88 rfl rfl).run ?_
    refine (go_getr flX11_67 rf_10_27 kd_88 gr_88_27 eX11_fillsBelow_89).run ?_
    refine (go_sipush (v := 130) eX11_fillsBelow_92 rfl).run ?_
    refine (go_iload 5 eX11_fillsBelow_95 rfl).run ?_
    refine (go_iconst (v := 1) eX11_fillsBelow_97 rfl).run ?_
    refine (go_isub eX11_fillsBelow_98).run ?_
    refine (go_imul eX11_fillsBelow_99).run ?_
    refine (go_iload 6 eX11_fillsBelow_100 rfl).run ?_
    refine (go_iload 5 eX11_fillsBelow_102 rfl).run ?_
    refine (go_iconst (v := 1) eX11_fillsBelow_104 rfl).run ?_
    refine (go_isub eX11_fillsBelow_105).run ?_
    refine (go_iload 9 eX11_fillsBelow_106 rfl).run ?_
    refine (go_iload_n 2 eX11_fillsBelow_108 rfl rfl).run ?_
    refine (go_iload_n 3 eX11_fillsBelow_109 rfl rfl).run ?_
    refine Run.callS1 (d := (d + 1)) (As := [.int x6, .int (x5 - 1), .int x9, .int x2, .int x3]) (r := .int ((rX11_aboveThen x6 (x5 - 1) x9 x2 x3 σ))) mX11_aboveThen lkX11_252 rfl rfl rfl (Nat.le_of_ble_eq_true rfl) eX11_fillsBelow_110 (qX11_aboveThen (d + 1) x6 (x5 - 1) x9 x2 x3 σ  ) ?_
    refine (go_iadd eX11_fillsBelow_113).run ?_
    refine (go_iald kd_103 ln_103 (g2 h1) eX11_fillsBelow_114).run ?_
    refine (go_iadd eX11_fillsBelow_115).run ?_
    refine (go_istore 10 (L' := [some (.ref 88), some (.int x1), some (.int x2), some (.int x3), some (.int x4), some (.int x5), some (.int x6), some (.int x7), some (.int x8), some (.int x9), some (.int (x9 + (σ.1 103 (((130 : Int32) * (x5 - 1)) + ((rX11_aboveThen x6 (x5 - 1) x9 x2 x3 σ))).toNatClampNeg)))]) eX11_fillsBelow_116 (Nat.le_of_ble_eq_true rfl) rfl).run ?_
    refine (go_iload 10 eX11_fillsBelow_118 rfl).run ?_
    refine (go_iload 7 eX11_fillsBelow_120 rfl).run ?_
    have hJh2 : Run MX11_fillsBelow (d + 2) 132 [some (.ref 88), some (.int x1), some (.int x2), some (.int x3), some (.int x4), some (.int x5), some (.int x6), none, some (.int x8), some (.int x9), none] [.int (if (x9 + (σ.1 103 (((130 : Int32) * (x5 - 1)) + ((rX11_aboveThen x6 (x5 - 1) x9 x2 x3 σ))).toNatClampNeg)) ≤ x7 then x7 else (x9 + (σ.1 103 (((130 : Int32) * (x5 - 1)) + ((rX11_aboveThen x6 (x5 - 1) x9 x2 x3 σ))).toNatClampNeg)))] σ Q := by
      refine (go_istore 7 (L' := [some (.ref 88), some (.int x1), some (.int x2), some (.int x3), some (.int x4), some (.int x5), some (.int x6), some (.int (if (x9 + (σ.1 103 (((130 : Int32) * (x5 - 1)) + ((rX11_aboveThen x6 (x5 - 1) x9 x2 x3 σ))).toNatClampNeg)) ≤ x7 then x7 else (x9 + (σ.1 103 (((130 : Int32) * (x5 - 1)) + ((rX11_aboveThen x6 (x5 - 1) x9 x2 x3 σ))).toNatClampNeg)))), some (.int x8), some (.int x9), none]) eX11_fillsBelow_132 (Nat.le_of_ble_eq_true rfl) rfl).run ?_
      refine (go_iinc 9 (v := (x9 + 1)) (L' := [some (.ref 88), some (.int x1), some (.int x2), some (.int x3), some (.int x4), some (.int x5), some (.int x6), some (.int (if (x9 + (σ.1 103 (((130 : Int32) * (x5 - 1)) + ((rX11_aboveThen x6 (x5 - 1) x9 x2 x3 σ))).toNatClampNeg)) ≤ x7 then x7 else (x9 + (σ.1 103 (((130 : Int32) * (x5 - 1)) + ((rX11_aboveThen x6 (x5 - 1) x9 x2 x3 σ))).toNatClampNeg)))), some (.int x8), some (.int (x9 + 1)), none]) eX11_fillsBelow_134 rfl rfl (Nat.le_of_ble_eq_true rfl) rfl).run ?_
      refine (go_goto 79 eX11_fillsBelow_137 rfl).run ?_
      exact (k2 h1)
    refine (bi_le 130 eX11_fillsBelow_122 rfl).run (fun h2 => ?_) (fun h2 => ?_)
    · refine (go_iload 7 eX11_fillsBelow_130 rfl).run ?_
      refine (go_sub (L' := [some (.ref 88), some (.int x1), some (.int x2), some (.int x3), some (.int x4), some (.int x5), some (.int x6), none, some (.int x8), some (.int x9), none]) (lsub_keep (lsub_keep (lsub_keep (lsub_keep (lsub_keep (lsub_keep (lsub_keep (lsub_drop (lsub_keep (lsub_keep (lsub_drop lsub_nil)))))))))))).run ?_
      first | exact hJh2 | (simp only [if_pos h2] at hJh2; exact hJh2) | (simp only [eq_true h2, eq_false (i32_nlt.mpr h2), true_and, and_true, false_and, and_false, true_or, or_true, false_or, or_false, not_true_eq_false, not_false_eq_true] at hJh2; exact hJh2) | exact Run.eq (by simp [eq_true h2, eq_false (i32_nlt.mpr h2), bI]) (by simp [eq_true h2, eq_false (i32_nlt.mpr h2), bI]) rfl hJh2
    · refine (go_iload 10 eX11_fillsBelow_125 rfl).run ?_
      refine (go_goto 132 eX11_fillsBelow_127 rfl).run ?_
      refine (go_sub (L' := [some (.ref 88), some (.int x1), some (.int x2), some (.int x3), some (.int x4), some (.int x5), some (.int x6), none, some (.int x8), some (.int x9), none]) (lsub_keep (lsub_keep (lsub_keep (lsub_keep (lsub_keep (lsub_keep (lsub_keep (lsub_drop (lsub_keep (lsub_keep (lsub_drop lsub_nil)))))))))))).run ?_
      first | exact hJh2 | (simp only [if_neg (i32_nle.mpr h2)] at hJh2; exact hJh2) | (simp only [eq_true h2, eq_false (i32_nle.mpr h2), true_and, and_true, false_and, and_false, true_or, or_true, false_or, or_false, not_true_eq_false, not_false_eq_true] at hJh2; exact hJh2) | exact Run.eq (by simp [eq_true h2, eq_false (i32_nle.mpr h2), bI]) (by simp [eq_true h2, eq_false (i32_nle.mpr h2), bI]) rfl hJh2

/-! CarryNetsModel.sizes -/
theorem eX11_sizes_0 : decode MX11_sizes.2.1 0 = .ok (.iload_n 1, 1) := by decide +kernel
theorem eX11_sizes_1 : decode MX11_sizes.2.1 1 = .ok (.i2l, 1) := by decide +kernel
theorem eX11_sizes_2 : decode MX11_sizes.2.1 2 = .ok (.lconst 1, 1) := by decide +kernel
theorem eX11_sizes_3 : decode MX11_sizes.2.1 3 = .ok (.ldc2_w 157, 3) := by decide +kernel
theorem eX11_sizes_6 : decode MX11_sizes.2.1 6 = .ok (.invokestatic 109, 3) := by decide +kernel
theorem eX11_sizes_9 : decode MX11_sizes.2.1 9 = .ok (.ifCond .eq 40, 3) := by decide +kernel
theorem eX11_sizes_12 : decode MX11_sizes.2.1 12 = .ok (.iload_n 2, 1) := by decide +kernel
theorem eX11_sizes_13 : decode MX11_sizes.2.1 13 = .ok (.i2l, 1) := by decide +kernel
theorem eX11_sizes_14 : decode MX11_sizes.2.1 14 = .ok (.lconst 0, 1) := by decide +kernel
theorem eX11_sizes_15 : decode MX11_sizes.2.1 15 = .ok (.lconst 1, 1) := by decide +kernel
theorem eX11_sizes_16 : decode MX11_sizes.2.1 16 = .ok (.invokestatic 109, 3) := by decide +kernel
theorem eX11_sizes_19 : decode MX11_sizes.2.1 19 = .ok (.ifCond .eq 30, 3) := by decide +kernel
theorem eX11_sizes_22 : decode MX11_sizes.2.1 22 = .ok (.iload_n 2, 1) := by decide +kernel
theorem eX11_sizes_23 : decode MX11_sizes.2.1 23 = .ok (.ifCond .ne 15, 3) := by decide +kernel
theorem eX11_sizes_26 : decode MX11_sizes.2.1 26 = .ok (.iload_n 3, 1) := by decide +kernel
theorem eX11_sizes_27 : decode MX11_sizes.2.1 27 = .ok (.i2l, 1) := by decide +kernel
theorem eX11_sizes_28 : decode MX11_sizes.2.1 28 = .ok (.lconst 1, 1) := by decide +kernel
theorem eX11_sizes_29 : decode MX11_sizes.2.1 29 = .ok (.ldc2_w 199, 3) := by decide +kernel
theorem eX11_sizes_32 : decode MX11_sizes.2.1 32 = .ok (.invokestatic 109, 3) := by decide +kernel
theorem eX11_sizes_35 : decode MX11_sizes.2.1 35 = .ok (.ifCond .eq 14, 3) := by decide +kernel
theorem eX11_sizes_38 : decode MX11_sizes.2.1 38 = .ok (.iload 4, 2) := by decide +kernel
theorem eX11_sizes_40 : decode MX11_sizes.2.1 40 = .ok (.i2l, 1) := by decide +kernel
theorem eX11_sizes_41 : decode MX11_sizes.2.1 41 = .ok (.lconst 0, 1) := by decide +kernel
theorem eX11_sizes_42 : decode MX11_sizes.2.1 42 = .ok (.lconst 1, 1) := by decide +kernel
theorem eX11_sizes_43 : decode MX11_sizes.2.1 43 = .ok (.invokestatic 109, 3) := by decide +kernel
theorem eX11_sizes_46 : decode MX11_sizes.2.1 46 = .ok (.ifCond .ne 7, 3) := by decide +kernel
theorem eX11_sizes_49 : decode MX11_sizes.2.1 49 = .ok (.ldc2_w 205, 3) := by decide +kernel
theorem eX11_sizes_52 : decode MX11_sizes.2.1 52 = .ok (.lreturn, 1) := by decide +kernel
theorem eX11_sizes_53 : decode MX11_sizes.2.1 53 = .ok (.iconst 0, 1) := by decide +kernel
theorem eX11_sizes_54 : decode MX11_sizes.2.1 54 = .ok (.istore 5, 2) := by decide +kernel
theorem eX11_sizes_56 : decode MX11_sizes.2.1 56 = .ok (.iconst 0, 1) := by decide +kernel
theorem eX11_sizes_57 : decode MX11_sizes.2.1 57 = .ok (.istore 6, 2) := by decide +kernel
theorem eX11_sizes_59 : decode MX11_sizes.2.1 59 = .ok (.iconst 0, 1) := by decide +kernel
theorem eX11_sizes_60 : decode MX11_sizes.2.1 60 = .ok (.istore 7, 2) := by decide +kernel
theorem eX11_sizes_62 : decode MX11_sizes.2.1 62 = .ok (.iload 7, 2) := by decide +kernel
theorem eX11_sizes_64 : decode MX11_sizes.2.1 64 = .ok (.ifCond .ne 84, 3) := by decide +kernel
theorem eX11_sizes_67 : decode MX11_sizes.2.1 67 = .ok (.iinc 5 1, 3) := by decide +kernel
theorem eX11_sizes_70 : decode MX11_sizes.2.1 70 = .ok (.iconst 0, 1) := by decide +kernel
theorem eX11_sizes_71 : decode MX11_sizes.2.1 71 = .ok (.istore 6, 2) := by decide +kernel
theorem eX11_sizes_73 : decode MX11_sizes.2.1 73 = .ok (.iload 7, 2) := by decide +kernel
theorem eX11_sizes_75 : decode MX11_sizes.2.1 75 = .ok (.ifCond .ne (-13), 3) := by decide +kernel
theorem eX11_sizes_78 : decode MX11_sizes.2.1 78 = .ok (.iload 6, 2) := by decide +kernel
theorem eX11_sizes_80 : decode MX11_sizes.2.1 80 = .ok (.bipush 12, 2) := by decide +kernel
theorem eX11_sizes_82 : decode MX11_sizes.2.1 82 = .ok (.iload_n 1, 1) := by decide +kernel
theorem eX11_sizes_83 : decode MX11_sizes.2.1 83 = .ok (.invokestatic 244, 3) := by decide +kernel
theorem eX11_sizes_86 : decode MX11_sizes.2.1 86 = .ok (.if_icmp .ge (-24), 3) := by decide +kernel
theorem eX11_sizes_89 : decode MX11_sizes.2.1 89 = .ok (.iinc 6 1, 3) := by decide +kernel
theorem eX11_sizes_92 : decode MX11_sizes.2.1 92 = .ok (.iload_n 2, 1) := by decide +kernel
theorem eX11_sizes_93 : decode MX11_sizes.2.1 93 = .ok (.iconst 1, 1) := by decide +kernel
theorem eX11_sizes_94 : decode MX11_sizes.2.1 94 = .ok (.if_icmp .eq 9, 3) := by decide +kernel
theorem eX11_sizes_97 : decode MX11_sizes.2.1 97 = .ok (.iload 6, 2) := by decide +kernel
theorem eX11_sizes_99 : decode MX11_sizes.2.1 99 = .ok (.iconst 1, 1) := by decide +kernel
theorem eX11_sizes_100 : decode MX11_sizes.2.1 100 = .ok (.if_icmp .ne 23, 3) := by decide +kernel
theorem eX11_sizes_103 : decode MX11_sizes.2.1 103 = .ok (.aload_n 0, 1) := by decide +kernel
theorem eX11_sizes_104 : decode MX11_sizes.2.1 104 = .ok (.iload 5, 2) := by decide +kernel
theorem eX11_sizes_106 : decode MX11_sizes.2.1 106 = .ok (.iload_n 2, 1) := by decide +kernel
theorem eX11_sizes_107 : decode MX11_sizes.2.1 107 = .ok (.iload_n 3, 1) := by decide +kernel
theorem eX11_sizes_108 : decode MX11_sizes.2.1 108 = .ok (.iload_n 2, 1) := by decide +kernel
theorem eX11_sizes_109 : decode MX11_sizes.2.1 109 = .ok (.iconst 1, 1) := by decide +kernel
theorem eX11_sizes_110 : decode MX11_sizes.2.1 110 = .ok (.if_icmp .ne 8, 3) := by decide +kernel
theorem eX11_sizes_113 : decode MX11_sizes.2.1 113 = .ok (.iload 6, 2) := by decide +kernel
theorem eX11_sizes_115 : decode MX11_sizes.2.1 115 = .ok (.goto 5, 3) := by decide +kernel
theorem eX11_sizes_118 : decode MX11_sizes.2.1 118 = .ok (.bipush 12, 2) := by decide +kernel
theorem eX11_sizes_120 : decode MX11_sizes.2.1 120 = .ok (.invokevirtual 256, 3) := by decide +kernel
theorem eX11_sizes_123 : decode MX11_sizes.2.1 123 = .ok (.aload_n 0, 1) := by decide +kernel
theorem eX11_sizes_124 : decode MX11_sizes.2.1 124 = .ok (.getfield 67, 3) := by decide +kernel
theorem eX11_sizes_127 : decode MX11_sizes.2.1 127 = .ok (.sipush 130, 3) := by decide +kernel
theorem eX11_sizes_130 : decode MX11_sizes.2.1 130 = .ok (.iload 6, 2) := by decide +kernel
theorem eX11_sizes_132 : decode MX11_sizes.2.1 132 = .ok (.imul, 1) := by decide +kernel
theorem eX11_sizes_133 : decode MX11_sizes.2.1 133 = .ok (.iaload, 1) := by decide +kernel
theorem eX11_sizes_134 : decode MX11_sizes.2.1 134 = .ok (.iload_n 1, 1) := by decide +kernel
theorem eX11_sizes_135 : decode MX11_sizes.2.1 135 = .ok (.if_icmp .lt 7, 3) := by decide +kernel
theorem eX11_sizes_138 : decode MX11_sizes.2.1 138 = .ok (.iconst 1, 1) := by decide +kernel
theorem eX11_sizes_139 : decode MX11_sizes.2.1 139 = .ok (.goto 4, 3) := by decide +kernel
theorem eX11_sizes_142 : decode MX11_sizes.2.1 142 = .ok (.iconst 0, 1) := by decide +kernel
theorem eX11_sizes_143 : decode MX11_sizes.2.1 143 = .ok (.istore 7, 2) := by decide +kernel
theorem eX11_sizes_145 : decode MX11_sizes.2.1 145 = .ok (.goto (-72), 3) := by decide +kernel
theorem eX11_sizes_148 : decode MX11_sizes.2.1 148 = .ok (.iload 4, 2) := by decide +kernel
theorem eX11_sizes_150 : decode MX11_sizes.2.1 150 = .ok (.ifCond .ne 7, 3) := by decide +kernel
theorem eX11_sizes_153 : decode MX11_sizes.2.1 153 = .ok (.iload 5, 2) := by decide +kernel
theorem eX11_sizes_155 : decode MX11_sizes.2.1 155 = .ok (.i2l, 1) := by decide +kernel
theorem eX11_sizes_156 : decode MX11_sizes.2.1 156 = .ok (.lreturn, 1) := by decide +kernel
theorem eX11_sizes_157 : decode MX11_sizes.2.1 157 = .ok (.lconst 0, 1) := by decide +kernel
theorem eX11_sizes_158 : decode MX11_sizes.2.1 158 = .ok (.lstore 8, 2) := by decide +kernel
theorem eX11_sizes_160 : decode MX11_sizes.2.1 160 = .ok (.iload_n 1, 1) := by decide +kernel
theorem eX11_sizes_161 : decode MX11_sizes.2.1 161 = .ok (.istore 10, 2) := by decide +kernel
theorem eX11_sizes_163 : decode MX11_sizes.2.1 163 = .ok (.iconst 0, 1) := by decide +kernel
theorem eX11_sizes_164 : decode MX11_sizes.2.1 164 = .ok (.istore 11, 2) := by decide +kernel
theorem eX11_sizes_166 : decode MX11_sizes.2.1 166 = .ok (.iload 6, 2) := by decide +kernel
theorem eX11_sizes_168 : decode MX11_sizes.2.1 168 = .ok (.iconst 1, 1) := by decide +kernel
theorem eX11_sizes_169 : decode MX11_sizes.2.1 169 = .ok (.isub, 1) := by decide +kernel
theorem eX11_sizes_170 : decode MX11_sizes.2.1 170 = .ok (.istore 12, 2) := by decide +kernel
theorem eX11_sizes_172 : decode MX11_sizes.2.1 172 = .ok (.iload 12, 2) := by decide +kernel
theorem eX11_sizes_174 : decode MX11_sizes.2.1 174 = .ok (.ifCond .lt 89, 3) := by decide +kernel
theorem eX11_sizes_177 : decode MX11_sizes.2.1 177 = .ok (.iconst 1, 1) := by decide +kernel
theorem eX11_sizes_178 : decode MX11_sizes.2.1 178 = .ok (.istore 13, 2) := by decide +kernel
theorem eX11_sizes_180 : decode MX11_sizes.2.1 180 = .ok (.iload 10, 2) := by decide +kernel
theorem eX11_sizes_182 : decode MX11_sizes.2.1 182 = .ok (.iload 13, 2) := by decide +kernel
theorem eX11_sizes_184 : decode MX11_sizes.2.1 184 = .ok (.isub, 1) := by decide +kernel
theorem eX11_sizes_185 : decode MX11_sizes.2.1 185 = .ok (.iload 12, 2) := by decide +kernel
theorem eX11_sizes_187 : decode MX11_sizes.2.1 187 = .ok (.if_icmp .lt 34, 3) := by decide +kernel
theorem eX11_sizes_190 : decode MX11_sizes.2.1 190 = .ok (.iload 10, 2) := by decide +kernel
theorem eX11_sizes_192 : decode MX11_sizes.2.1 192 = .ok (.iload 13, 2) := by decide +kernel
theorem eX11_sizes_194 : decode MX11_sizes.2.1 194 = .ok (.isub, 1) := by decide +kernel
theorem eX11_sizes_195 : decode MX11_sizes.2.1 195 = .ok (.aload_n 0, 1) := by decide +kernel
theorem eX11_sizes_196 : decode MX11_sizes.2.1 196 = .ok (.getfield 67, 3) := by decide +kernel
theorem eX11_sizes_199 : decode MX11_sizes.2.1 199 = .ok (.sipush 130, 3) := by decide +kernel
theorem eX11_sizes_202 : decode MX11_sizes.2.1 202 = .ok (.iload 12, 2) := by decide +kernel
theorem eX11_sizes_204 : decode MX11_sizes.2.1 204 = .ok (.imul, 1) := by decide +kernel
theorem eX11_sizes_205 : decode MX11_sizes.2.1 205 = .ok (.iload 11, 2) := by decide +kernel
theorem eX11_sizes_207 : decode MX11_sizes.2.1 207 = .ok (.iload 12, 2) := by decide +kernel
theorem eX11_sizes_209 : decode MX11_sizes.2.1 209 = .ok (.iload 13, 2) := by decide +kernel
theorem eX11_sizes_211 : decode MX11_sizes.2.1 211 = .ok (.iload_n 2, 1) := by decide +kernel
theorem eX11_sizes_212 : decode MX11_sizes.2.1 212 = .ok (.iload_n 3, 1) := by decide +kernel
theorem eX11_sizes_213 : decode MX11_sizes.2.1 213 = .ok (.invokestatic 252, 3) := by decide +kernel
theorem eX11_sizes_216 : decode MX11_sizes.2.1 216 = .ok (.iadd, 1) := by decide +kernel
theorem eX11_sizes_217 : decode MX11_sizes.2.1 217 = .ok (.iaload, 1) := by decide +kernel
theorem eX11_sizes_218 : decode MX11_sizes.2.1 218 = .ok (.if_icmp .le 9, 3) := by decide +kernel
theorem eX11_sizes_221 : decode MX11_sizes.2.1 221 = .ok (.iinc 13 1, 3) := by decide +kernel
theorem eX11_sizes_224 : decode MX11_sizes.2.1 224 = .ok (.goto (-44), 3) := by decide +kernel
theorem eX11_sizes_227 : decode MX11_sizes.2.1 227 = .ok (.lload 8, 2) := by decide +kernel
theorem eX11_sizes_229 : decode MX11_sizes.2.1 229 = .ok (.iconst 4, 1) := by decide +kernel
theorem eX11_sizes_230 : decode MX11_sizes.2.1 230 = .ok (.lshl, 1) := by decide +kernel
theorem eX11_sizes_231 : decode MX11_sizes.2.1 231 = .ok (.iload 13, 2) := by decide +kernel
theorem eX11_sizes_233 : decode MX11_sizes.2.1 233 = .ok (.i2l, 1) := by decide +kernel
theorem eX11_sizes_234 : decode MX11_sizes.2.1 234 = .ok (.lor, 1) := by decide +kernel
theorem eX11_sizes_235 : decode MX11_sizes.2.1 235 = .ok (.lstore 8, 2) := by decide +kernel
theorem eX11_sizes_237 : decode MX11_sizes.2.1 237 = .ok (.iload 10, 2) := by decide +kernel
theorem eX11_sizes_239 : decode MX11_sizes.2.1 239 = .ok (.iload 13, 2) := by decide +kernel
theorem eX11_sizes_241 : decode MX11_sizes.2.1 241 = .ok (.isub, 1) := by decide +kernel
theorem eX11_sizes_242 : decode MX11_sizes.2.1 242 = .ok (.istore 10, 2) := by decide +kernel
theorem eX11_sizes_244 : decode MX11_sizes.2.1 244 = .ok (.iload 11, 2) := by decide +kernel
theorem eX11_sizes_246 : decode MX11_sizes.2.1 246 = .ok (.iload 12, 2) := by decide +kernel
theorem eX11_sizes_248 : decode MX11_sizes.2.1 248 = .ok (.iload 13, 2) := by decide +kernel
theorem eX11_sizes_250 : decode MX11_sizes.2.1 250 = .ok (.iload_n 2, 1) := by decide +kernel
theorem eX11_sizes_251 : decode MX11_sizes.2.1 251 = .ok (.iload_n 3, 1) := by decide +kernel
theorem eX11_sizes_252 : decode MX11_sizes.2.1 252 = .ok (.invokestatic 252, 3) := by decide +kernel
theorem eX11_sizes_255 : decode MX11_sizes.2.1 255 = .ok (.istore 11, 2) := by decide +kernel
theorem eX11_sizes_257 : decode MX11_sizes.2.1 257 = .ok (.iinc 12 (-1), 3) := by decide +kernel
theorem eX11_sizes_260 : decode MX11_sizes.2.1 260 = .ok (.goto (-88), 3) := by decide +kernel
theorem eX11_sizes_263 : decode MX11_sizes.2.1 263 = .ok (.lload 8, 2) := by decide +kernel
theorem eX11_sizes_265 : decode MX11_sizes.2.1 265 = .ok (.lreturn, 1) := by decide +kernel
set_option maxRecDepth 20000 in
theorem bX11_sizes_0 {d : Nat} {Q : Option Value → St → Prop} (x1 : Int32) (x2 : Int32) (x3 : Int32) (x4 : Int32) (σ : St) 
    (k1 : (¬ ((1 : Int64) ≤ x1.toInt64 ∧ x1.toInt64 ≤ (32 : Int64))) → Q (some (.long (-1))) σ)
    (k2 : ((1 : Int64) ≤ x1.toInt64 ∧ x1.toInt64 ≤ (32 : Int64)) → (¬ ((0 : Int64) ≤ x2.toInt64 ∧ x2.toInt64 ≤ (1 : Int64))) → Q (some (.long (-1))) σ)
    (k3 : ((1 : Int64) ≤ x1.toInt64 ∧ x1.toInt64 ≤ (32 : Int64)) → ((0 : Int64) ≤ x2.toInt64 ∧ x2.toInt64 ≤ (1 : Int64)) → ¬ x2 = 0 → ((0 : Int64) ≤ x4.toInt64 ∧ x4.toInt64 ≤ (1 : Int64)) → Run MX11_sizes (d + 3) 62 [some (.ref 88), some (.int x1), some (.int x2), some (.int x3), some (.int x4), some (.int 0), some (.int 0), some (.int 0), none, none, none, none, none, none] [] σ Q)
    (k4 : ((1 : Int64) ≤ x1.toInt64 ∧ x1.toInt64 ≤ (32 : Int64)) → ((0 : Int64) ≤ x2.toInt64 ∧ x2.toInt64 ≤ (1 : Int64)) → ¬ x2 = 0 → (¬ ((0 : Int64) ≤ x4.toInt64 ∧ x4.toInt64 ≤ (1 : Int64))) → Q (some (.long (-1))) σ)
    (k5 : ((1 : Int64) ≤ x1.toInt64 ∧ x1.toInt64 ≤ (32 : Int64)) → ((0 : Int64) ≤ x2.toInt64 ∧ x2.toInt64 ≤ (1 : Int64)) → x2 = 0 → (¬ ((1 : Int64) ≤ x3.toInt64 ∧ x3.toInt64 ≤ (9 : Int64))) → Q (some (.long (-1))) σ)
    (k6 : ((1 : Int64) ≤ x1.toInt64 ∧ x1.toInt64 ≤ (32 : Int64)) → ((0 : Int64) ≤ x2.toInt64 ∧ x2.toInt64 ≤ (1 : Int64)) → x2 = 0 → ((1 : Int64) ≤ x3.toInt64 ∧ x3.toInt64 ≤ (9 : Int64)) → ((0 : Int64) ≤ x4.toInt64 ∧ x4.toInt64 ≤ (1 : Int64)) → Run MX11_sizes (d + 3) 62 [some (.ref 88), some (.int x1), some (.int x2), some (.int x3), some (.int x4), some (.int 0), some (.int 0), some (.int 0), none, none, none, none, none, none] [] σ Q)
    (k7 : ((1 : Int64) ≤ x1.toInt64 ∧ x1.toInt64 ≤ (32 : Int64)) → ((0 : Int64) ≤ x2.toInt64 ∧ x2.toInt64 ≤ (1 : Int64)) → x2 = 0 → ((1 : Int64) ≤ x3.toInt64 ∧ x3.toInt64 ≤ (9 : Int64)) → (¬ ((0 : Int64) ≤ x4.toInt64 ∧ x4.toInt64 ≤ (1 : Int64))) → Q (some (.long (-1))) σ)
    : Run MX11_sizes (d + 3) 0 [some (.ref 88), some (.int x1), some (.int x2), some (.int x3), some (.int x4), none, none, none, none, none, none, none, none, none] [] σ Q := by
  refine (go_iload_n 1 eX11_sizes_0 rfl rfl).run ?_
  refine (go_i2l eX11_sizes_1).run ?_
  refine (go_lconst (v := 1) eX11_sizes_2 rfl).run ?_
  refine (go_ldc2 csX11_157 eX11_sizes_3).run ?_
  refine Run.callS1 (d := (d + 2)) (As := [.long x1.toInt64, .long 1, .long (32)]) (r := .int (bI ((1 : Int64) ≤ x1.toInt64 ∧ x1.toInt64 ≤ (32 : Int64)))) mX11_in lkX11_109 rfl rfl rfl (Nat.le_of_ble_eq_true rfl) eX11_sizes_6 (qX11_in (d + 2) x1.toInt64 (1 : Int64) (32 : Int64) σ  ) ?_
  refine (br_ifeq_b 49 eX11_sizes_9 rfl).run (fun h1 => ?_) (fun h1 => ?_)
  · refine (go_ldc2 csX11_205 eX11_sizes_49).run ?_
    exact Run.ret (v := some (.long (-1))) (k1 h1) ⟨rfl, eX11_sizes_52⟩ rfl
  · refine (go_iload_n 2 eX11_sizes_12 rfl rfl).run ?_
    refine (go_i2l eX11_sizes_13).run ?_
    refine (go_lconst (v := 0) eX11_sizes_14 rfl).run ?_
    refine (go_lconst (v := 1) eX11_sizes_15 rfl).run ?_
    refine Run.callS1 (d := (d + 2)) (As := [.long x2.toInt64, .long 0, .long 1]) (r := .int (bI ((0 : Int64) ≤ x2.toInt64 ∧ x2.toInt64 ≤ (1 : Int64)))) mX11_in lkX11_109 rfl rfl rfl (Nat.le_of_ble_eq_true rfl) eX11_sizes_16 (qX11_in (d + 2) x2.toInt64 (0 : Int64) (1 : Int64) σ  ) ?_
    refine (br_ifeq_b 49 eX11_sizes_19 rfl).run (fun h2 => ?_) (fun h2 => ?_)
    · refine (go_ldc2 csX11_205 eX11_sizes_49).run ?_
      exact Run.ret (v := some (.long (-1))) (k2 h1 h2) ⟨rfl, eX11_sizes_52⟩ rfl
    · refine (go_iload_n 2 eX11_sizes_22 rfl rfl).run ?_
      refine (bz_ne 38 eX11_sizes_23 rfl).run (fun h3 => ?_) (fun h3 => ?_)
      · refine (go_iload 4 eX11_sizes_38 rfl).run ?_
        refine (go_i2l eX11_sizes_40).run ?_
        refine (go_lconst (v := 0) eX11_sizes_41 rfl).run ?_
        refine (go_lconst (v := 1) eX11_sizes_42 rfl).run ?_
        refine Run.callS1 (d := (d + 2)) (As := [.long x4.toInt64, .long 0, .long 1]) (r := .int (bI ((0 : Int64) ≤ x4.toInt64 ∧ x4.toInt64 ≤ (1 : Int64)))) mX11_in lkX11_109 rfl rfl rfl (Nat.le_of_ble_eq_true rfl) eX11_sizes_43 (qX11_in (d + 2) x4.toInt64 (0 : Int64) (1 : Int64) σ  ) ?_
        refine (br_ifne_b 53 eX11_sizes_46 rfl).run (fun h4 => ?_) (fun h4 => ?_)
        · refine (go_iconst (v := 0) eX11_sizes_53 rfl).run ?_
          refine (go_istore 5 (L' := [some (.ref 88), some (.int x1), some (.int x2), some (.int x3), some (.int x4), some (.int 0), none, none, none, none, none, none, none, none]) eX11_sizes_54 (Nat.le_of_ble_eq_true rfl) rfl).run ?_
          refine (go_iconst (v := 0) eX11_sizes_56 rfl).run ?_
          refine (go_istore 6 (L' := [some (.ref 88), some (.int x1), some (.int x2), some (.int x3), some (.int x4), some (.int 0), some (.int 0), none, none, none, none, none, none, none]) eX11_sizes_57 (Nat.le_of_ble_eq_true rfl) rfl).run ?_
          refine (go_iconst (v := 0) eX11_sizes_59 rfl).run ?_
          refine (go_istore 7 (L' := [some (.ref 88), some (.int x1), some (.int x2), some (.int x3), some (.int x4), some (.int 0), some (.int 0), some (.int 0), none, none, none, none, none, none]) eX11_sizes_60 (Nat.le_of_ble_eq_true rfl) rfl).run ?_
          exact (k3 h1 h2 h3 h4)
        · refine (go_ldc2 csX11_205 eX11_sizes_49).run ?_
          exact Run.ret (v := some (.long (-1))) (k4 h1 h2 h3 h4) ⟨rfl, eX11_sizes_52⟩ rfl
      · refine (go_iload_n 3 eX11_sizes_26 rfl rfl).run ?_
        refine (go_i2l eX11_sizes_27).run ?_
        refine (go_lconst (v := 1) eX11_sizes_28 rfl).run ?_
        refine (go_ldc2 csX11_199 eX11_sizes_29).run ?_
        refine Run.callS1 (d := (d + 2)) (As := [.long x3.toInt64, .long 1, .long (9)]) (r := .int (bI ((1 : Int64) ≤ x3.toInt64 ∧ x3.toInt64 ≤ (9 : Int64)))) mX11_in lkX11_109 rfl rfl rfl (Nat.le_of_ble_eq_true rfl) eX11_sizes_32 (qX11_in (d + 2) x3.toInt64 (1 : Int64) (9 : Int64) σ  ) ?_
        refine (br_ifeq_b 49 eX11_sizes_35 rfl).run (fun h5 => ?_) (fun h5 => ?_)
        · refine (go_ldc2 csX11_205 eX11_sizes_49).run ?_
          exact Run.ret (v := some (.long (-1))) (k5 h1 h2 h3 h5) ⟨rfl, eX11_sizes_52⟩ rfl
        · refine (go_iload 4 eX11_sizes_38 rfl).run ?_
          refine (go_i2l eX11_sizes_40).run ?_
          refine (go_lconst (v := 0) eX11_sizes_41 rfl).run ?_
          refine (go_lconst (v := 1) eX11_sizes_42 rfl).run ?_
          refine Run.callS1 (d := (d + 2)) (As := [.long x4.toInt64, .long 0, .long 1]) (r := .int (bI ((0 : Int64) ≤ x4.toInt64 ∧ x4.toInt64 ≤ (1 : Int64)))) mX11_in lkX11_109 rfl rfl rfl (Nat.le_of_ble_eq_true rfl) eX11_sizes_43 (qX11_in (d + 2) x4.toInt64 (0 : Int64) (1 : Int64) σ  ) ?_
          refine (br_ifne_b 53 eX11_sizes_46 rfl).run (fun h6 => ?_) (fun h6 => ?_)
          · refine (go_iconst (v := 0) eX11_sizes_53 rfl).run ?_
            refine (go_istore 5 (L' := [some (.ref 88), some (.int x1), some (.int x2), some (.int x3), some (.int x4), some (.int 0), none, none, none, none, none, none, none, none]) eX11_sizes_54 (Nat.le_of_ble_eq_true rfl) rfl).run ?_
            refine (go_iconst (v := 0) eX11_sizes_56 rfl).run ?_
            refine (go_istore 6 (L' := [some (.ref 88), some (.int x1), some (.int x2), some (.int x3), some (.int x4), some (.int 0), some (.int 0), none, none, none, none, none, none, none]) eX11_sizes_57 (Nat.le_of_ble_eq_true rfl) rfl).run ?_
            refine (go_iconst (v := 0) eX11_sizes_59 rfl).run ?_
            refine (go_istore 7 (L' := [some (.ref 88), some (.int x1), some (.int x2), some (.int x3), some (.int x4), some (.int 0), some (.int 0), some (.int 0), none, none, none, none, none, none]) eX11_sizes_60 (Nat.le_of_ble_eq_true rfl) rfl).run ?_
            exact (k6 h1 h2 h3 h5 h6)
          · refine (go_ldc2 csX11_205 eX11_sizes_49).run ?_
            exact Run.ret (v := some (.long (-1))) (k7 h1 h2 h3 h5 h6) ⟨rfl, eX11_sizes_52⟩ rfl

set_option maxRecDepth 20000 in
theorem bX11_sizes_62 {d : Nat} {Q : Option Value → St → Prop} (x1 : Int32) (x2 : Int32) (x3 : Int32) (x4 : Int32) (x5 : Int32) (x6 : Int32) (x7 : Int32) (σ : St) 
    (k1 : ¬ x7 = 0 → ¬ x4 = 0 → Run MX11_sizes (d + 3) 172 [some (.ref 88), none, some (.int x2), some (.int x3), none, none, none, none, some (.long 0), none, some (.int x1), some (.int 0), some (.int (x6 - 1)), none] [] σ Q)
    (k2 : ¬ x7 = 0 → x4 = 0 → Q (some (.long x5.toInt64)) σ)
    (k3 : x7 = 0 → Run MX11_sizes (d + 3) 73 [some (.ref 88), some (.int x1), some (.int x2), some (.int x3), some (.int x4), some (.int (x5 + 1)), some (.int 0), some (.int x7), none, none, none, none, none, none] [] σ Q)
    : Run MX11_sizes (d + 3) 62 [some (.ref 88), some (.int x1), some (.int x2), some (.int x3), some (.int x4), some (.int x5), some (.int x6), some (.int x7), none, none, none, none, none, none] [] σ Q := by
  refine (go_iload 7 eX11_sizes_62 rfl).run ?_
  refine (bz_ne 148 eX11_sizes_64 rfl).run (fun h1 => ?_) (fun h1 => ?_)
  · refine (go_iload 4 eX11_sizes_148 rfl).run ?_
    refine (bz_ne 157 eX11_sizes_150 rfl).run (fun h2 => ?_) (fun h2 => ?_)
    · refine (go_lconst (v := 0) eX11_sizes_157 rfl).run ?_
      refine (go_lstore 8 (L' := [some (.ref 88), some (.int x1), some (.int x2), some (.int x3), some (.int x4), some (.int x5), some (.int x6), some (.int x7), some (.long 0), none, none, none, none, none]) eX11_sizes_158 (Nat.le_of_ble_eq_true rfl) rfl).run ?_
      refine (go_iload_n 1 eX11_sizes_160 rfl rfl).run ?_
      refine (go_istore 10 (L' := [some (.ref 88), some (.int x1), some (.int x2), some (.int x3), some (.int x4), some (.int x5), some (.int x6), some (.int x7), some (.long 0), none, some (.int x1), none, none, none]) eX11_sizes_161 (Nat.le_of_ble_eq_true rfl) rfl).run ?_
      refine (go_iconst (v := 0) eX11_sizes_163 rfl).run ?_
      refine (go_istore 11 (L' := [some (.ref 88), some (.int x1), some (.int x2), some (.int x3), some (.int x4), some (.int x5), some (.int x6), some (.int x7), some (.long 0), none, some (.int x1), some (.int 0), none, none]) eX11_sizes_164 (Nat.le_of_ble_eq_true rfl) rfl).run ?_
      refine (go_iload 6 eX11_sizes_166 rfl).run ?_
      refine (go_iconst (v := 1) eX11_sizes_168 rfl).run ?_
      refine (go_isub eX11_sizes_169).run ?_
      refine (go_istore 12 (L' := [some (.ref 88), some (.int x1), some (.int x2), some (.int x3), some (.int x4), some (.int x5), some (.int x6), some (.int x7), some (.long 0), none, some (.int x1), some (.int 0), some (.int (x6 - 1)), none]) eX11_sizes_170 (Nat.le_of_ble_eq_true rfl) rfl).run ?_
      refine (go_sub (L' := [some (.ref 88), none, some (.int x2), some (.int x3), none, none, none, none, some (.long 0), none, some (.int x1), some (.int 0), some (.int (x6 - 1)), none]) (lsub_keep (lsub_drop (lsub_keep (lsub_keep (lsub_drop (lsub_drop (lsub_drop (lsub_drop (lsub_keep (lsub_keep (lsub_keep (lsub_keep (lsub_keep (lsub_keep lsub_nil))))))))))))))).run ?_
      exact (k1 h1 h2)
    · refine (go_iload 5 eX11_sizes_153 rfl).run ?_
      refine (go_i2l eX11_sizes_155).run ?_
      exact Run.ret (v := some (.long x5.toInt64)) (k2 h1 h2) ⟨rfl, eX11_sizes_156⟩ rfl
  · refine (go_iinc 5 (v := (x5 + 1)) (L' := [some (.ref 88), some (.int x1), some (.int x2), some (.int x3), some (.int x4), some (.int (x5 + 1)), some (.int x6), some (.int x7), none, none, none, none, none, none]) eX11_sizes_67 rfl rfl (Nat.le_of_ble_eq_true rfl) rfl).run ?_
    refine (go_iconst (v := 0) eX11_sizes_70 rfl).run ?_
    refine (go_istore 6 (L' := [some (.ref 88), some (.int x1), some (.int x2), some (.int x3), some (.int x4), some (.int (x5 + 1)), some (.int 0), some (.int x7), none, none, none, none, none, none]) eX11_sizes_71 (Nat.le_of_ble_eq_true rfl) rfl).run ?_
    exact (k3 h1)

set_option maxRecDepth 20000 in
theorem bX11_sizes_172 {d : Nat} {Q : Option Value → St → Prop} (x2 : Int32) (x3 : Int32) (x8 : Int64) (x10 : Int32) (x11 : Int32) (x12 : Int32) (σ : St) 
    (k1 : x12 < 0 → Q (some (.long x8)) σ)
    (k2 : (0 : Int32) ≤ x12 → Run MX11_sizes (d + 3) 180 [some (.ref 88), none, some (.int x2), some (.int x3), none, none, none, none, some (.long x8), none, some (.int x10), some (.int x11), some (.int x12), some (.int 1)] [] σ Q)
    : Run MX11_sizes (d + 3) 172 [some (.ref 88), none, some (.int x2), some (.int x3), none, none, none, none, some (.long x8), none, some (.int x10), some (.int x11), some (.int x12), none] [] σ Q := by
  refine (go_iload 12 eX11_sizes_172 rfl).run ?_
  refine (bz_lt 263 eX11_sizes_174 rfl).run (fun h1 => ?_) (fun h1 => ?_)
  · refine (go_lload 8 eX11_sizes_263 rfl).run ?_
    exact Run.ret (v := some (.long x8)) (k1 h1) ⟨rfl, eX11_sizes_265⟩ rfl
  · refine (go_iconst (v := 1) eX11_sizes_177 rfl).run ?_
    refine (go_istore 13 (L' := [some (.ref 88), none, some (.int x2), some (.int x3), none, none, none, none, some (.long x8), none, some (.int x10), some (.int x11), some (.int x12), some (.int 1)]) eX11_sizes_178 (Nat.le_of_ble_eq_true rfl) rfl).run ?_
    exact (k2 h1)

set_option maxRecDepth 20000 in
theorem bX11_sizes_73 {d : Nat} {Q : Option Value → St → Prop} (x1 : Int32) (x2 : Int32) (x3 : Int32) (x4 : Int32) (x5 : Int32) (x6 : Int32) (x7 : Int32) (σ : St) 
    (g1 : x7 = 0 → x6 < ((if x1 ≤ (12 : Int32) then x1 else (12 : Int32))) → ¬ x2 = 1 → ¬ (x6 + 1) = 1 → vp_in ((130 : Int32) * (x6 + 1)) 1690)
    (k1 : ¬ x7 = 0 → Run MX11_sizes (d + 3) 62 [some (.ref 88), some (.int x1), some (.int x2), some (.int x3), some (.int x4), some (.int x5), some (.int x6), some (.int x7), none, none, none, none, none, none] [] σ Q)
    (k2 : x7 = 0 → ((if x1 ≤ (12 : Int32) then x1 else (12 : Int32))) ≤ x6 → Run MX11_sizes (d + 3) 62 [some (.ref 88), some (.int x1), some (.int x2), some (.int x3), some (.int x4), some (.int x5), some (.int x6), some (.int x7), none, none, none, none, none, none] [] σ Q)
    (k3 : x7 = 0 → x6 < ((if x1 ≤ (12 : Int32) then x1 else (12 : Int32))) → x2 = 1 → Ct yX11_fillsBelow MX11_fillsBelow (d + 2) [.ref 88, .int x5, .int x2, .int x3, .int (if x2 = 1 then (x6 + 1) else 12)] σ (fun v σ1 => Run MX11_sizes (d + 3) 123 [some (.ref 88), some (.int x1), some (.int x2), some (.int x3), some (.int x4), some (.int x5), some (.int (x6 + 1)), none, none, none, none, none, none, none] (v.toList ++ []) σ1 Q))
    (k4 : x7 = 0 → x6 < ((if x1 ≤ (12 : Int32) then x1 else (12 : Int32))) → ¬ x2 = 1 → ¬ (x6 + 1) = 1 → Run MX11_sizes (d + 3) 73 [some (.ref 88), some (.int x1), some (.int x2), some (.int x3), some (.int x4), some (.int x5), some (.int (x6 + 1)), some (.int (bI (x1 ≤ (σ.1 103 ((130 : Int32) * (x6 + 1)).toNatClampNeg)))), none, none, none, none, none, none] [] σ Q)
    (k5 : x7 = 0 → x6 < ((if x1 ≤ (12 : Int32) then x1 else (12 : Int32))) → ¬ x2 = 1 → (x6 + 1) = 1 → Ct yX11_fillsBelow MX11_fillsBelow (d + 2) [.ref 88, .int x5, .int x2, .int x3, .int (if x2 = 1 then (x6 + 1) else 12)] σ (fun v σ1 => Run MX11_sizes (d + 3) 123 [some (.ref 88), some (.int x1), some (.int x2), some (.int x3), some (.int x4), some (.int x5), some (.int (x6 + 1)), none, none, none, none, none, none, none] (v.toList ++ []) σ1 Q))
    : Run MX11_sizes (d + 3) 73 [some (.ref 88), some (.int x1), some (.int x2), some (.int x3), some (.int x4), some (.int x5), some (.int x6), some (.int x7), none, none, none, none, none, none] [] σ Q := by
  refine (go_iload 7 eX11_sizes_73 rfl).run ?_
  refine (bz_ne 62 eX11_sizes_75 rfl).run (fun h1 => ?_) (fun h1 => ?_)
  · exact (k1 h1)
  · refine (go_iload 6 eX11_sizes_78 rfl).run ?_
    refine (go_bipush (v := 12) eX11_sizes_80 rfl).run ?_
    refine (go_iload_n 1 eX11_sizes_82 rfl rfl).run ?_
    refine Run.callS1 (d := (d + 2)) (As := [.int 12, .int x1]) (r := .int ((if x1 ≤ (12 : Int32) then x1 else (12 : Int32)))) mX11_least lkX11_244 rfl rfl rfl (Nat.le_of_ble_eq_true rfl) eX11_sizes_83 (qX11_least (d + 2) (12 : Int32) x1 σ  ) ?_
    refine (bi_ge 62 eX11_sizes_86 rfl).run (fun h2 => ?_) (fun h2 => ?_)
    · exact (k2 h1 h2)
    · refine (go_iinc 6 (v := (x6 + 1)) (L' := [some (.ref 88), some (.int x1), some (.int x2), some (.int x3), some (.int x4), some (.int x5), some (.int (x6 + 1)), some (.int x7), none, none, none, none, none, none]) eX11_sizes_89 rfl rfl (Nat.le_of_ble_eq_true rfl) rfl).run ?_
      refine (go_iload_n 2 eX11_sizes_92 rfl rfl).run ?_
      refine (go_iconst (v := 1) eX11_sizes_93 rfl).run ?_
      refine (bi_eq 103 eX11_sizes_94 rfl).run (fun h3 => ?_) (fun h3 => ?_)
      · refine (go_aload_n 0 eX11_sizes_103 rfl rfl).run ?_
        refine (go_iload 5 eX11_sizes_104 rfl).run ?_
        refine (go_iload_n 2 eX11_sizes_106 rfl rfl).run ?_
        refine (go_iload_n 3 eX11_sizes_107 rfl rfl).run ?_
        refine (go_iload_n 2 eX11_sizes_108 rfl rfl).run ?_
        refine (go_iconst (v := 1) eX11_sizes_109 rfl).run ?_
        have hJh4 : Run MX11_sizes (d + 3) 120 [some (.ref 88), some (.int x1), some (.int x2), some (.int x3), some (.int x4), some (.int x5), some (.int (x6 + 1)), none, none, none, none, none, none, none] [.int (if x2 = 1 then (x6 + 1) else 12), .int x3, .int x2, .int x5, .ref 88] σ Q := by
          exact Run.callV (d := (d + 2)) (As := [.int x5, .int x2, .int x3, .int (if x2 = 1 then (x6 + 1) else 12)]) mX11_fillsBelow lkX11_256 kd_88 (by decide) rfl rfl rfl rfl rfl (Nat.le_of_ble_eq_true rfl) eX11_sizes_120 (k3 h1 h2 h3)
        refine (bi_ne 118 eX11_sizes_110 rfl).run (fun h4 => ?_) (fun h4 => ?_)
        · refine (go_bipush (v := 12) eX11_sizes_118 rfl).run ?_
          refine (go_sub (L' := [some (.ref 88), some (.int x1), some (.int x2), some (.int x3), some (.int x4), some (.int x5), some (.int (x6 + 1)), none, none, none, none, none, none, none]) (lsub_keep (lsub_keep (lsub_keep (lsub_keep (lsub_keep (lsub_keep (lsub_keep (lsub_drop (lsub_keep (lsub_keep (lsub_keep (lsub_keep (lsub_keep (lsub_keep lsub_nil))))))))))))))).run ?_
          first | exact hJh4 | (simp only [if_neg (h4)] at hJh4; exact hJh4) | (simp only [eq_false h4, not_false_eq_true, true_and, and_true, false_and, and_false, true_or, or_true, false_or, or_false, not_true_eq_false, not_false_eq_true] at hJh4; exact hJh4) | exact Run.eq (by simp [eq_false h4, not_false_eq_true, bI]) (by simp [eq_false h4, not_false_eq_true, bI]) rfl hJh4
        · refine (go_iload 6 eX11_sizes_113 rfl).run ?_
          refine (go_goto 120 eX11_sizes_115 rfl).run ?_
          refine (go_sub (L' := [some (.ref 88), some (.int x1), some (.int x2), some (.int x3), some (.int x4), some (.int x5), some (.int (x6 + 1)), none, none, none, none, none, none, none]) (lsub_keep (lsub_keep (lsub_keep (lsub_keep (lsub_keep (lsub_keep (lsub_keep (lsub_drop (lsub_keep (lsub_keep (lsub_keep (lsub_keep (lsub_keep (lsub_keep lsub_nil))))))))))))))).run ?_
          first | exact hJh4 | (simp only [if_pos h4] at hJh4; exact hJh4) | (simp only [eq_true h4, not_true_eq_false, true_and, and_true, false_and, and_false, true_or, or_true, false_or, or_false, not_true_eq_false, not_false_eq_true] at hJh4; exact hJh4) | exact Run.eq (by simp [eq_true h4, not_true_eq_false, bI]) (by simp [eq_true h4, not_true_eq_false, bI]) rfl hJh4
      · refine (go_iload 6 eX11_sizes_97 rfl).run ?_
        refine (go_iconst (v := 1) eX11_sizes_99 rfl).run ?_
        refine (bi_ne 123 eX11_sizes_100 rfl).run (fun h5 => ?_) (fun h5 => ?_)
        · refine (go_aload_n 0 eX11_sizes_123 rfl rfl).run ?_
          refine (go_getr flX11_67 rf_10_27 kd_88 gr_88_27 eX11_sizes_124).run ?_
          refine (go_sipush (v := 130) eX11_sizes_127 rfl).run ?_
          refine (go_iload 6 eX11_sizes_130 rfl).run ?_
          refine (go_imul eX11_sizes_132).run ?_
          refine (go_iald kd_103 ln_103 (g1 h1 h2 h3 h5) eX11_sizes_133).run ?_
          refine (go_iload_n 1 eX11_sizes_134 rfl rfl).run ?_
          have hJh6 : Run MX11_sizes (d + 3) 143 [some (.ref 88), some (.int x1), some (.int x2), some (.int x3), some (.int x4), some (.int x5), some (.int (x6 + 1)), none, none, none, none, none, none, none] [.int (bI (x1 ≤ (σ.1 103 ((130 : Int32) * (x6 + 1)).toNatClampNeg)))] σ Q := by
            refine (go_istore 7 (L' := [some (.ref 88), some (.int x1), some (.int x2), some (.int x3), some (.int x4), some (.int x5), some (.int (x6 + 1)), some (.int (bI (x1 ≤ (σ.1 103 ((130 : Int32) * (x6 + 1)).toNatClampNeg)))), none, none, none, none, none, none]) eX11_sizes_143 (Nat.le_of_ble_eq_true rfl) rfl).run ?_
            refine (go_goto 73 eX11_sizes_145 rfl).run ?_
            exact (k4 h1 h2 h3 h5)
          refine (bi_lt 142 eX11_sizes_135 rfl).run (fun h6 => ?_) (fun h6 => ?_)
          · refine (go_iconst (v := 0) eX11_sizes_142 rfl).run ?_
            refine (go_sub (L' := [some (.ref 88), some (.int x1), some (.int x2), some (.int x3), some (.int x4), some (.int x5), some (.int (x6 + 1)), none, none, none, none, none, none, none]) (lsub_keep (lsub_keep (lsub_keep (lsub_keep (lsub_keep (lsub_keep (lsub_keep (lsub_drop (lsub_keep (lsub_keep (lsub_keep (lsub_keep (lsub_keep (lsub_keep lsub_nil))))))))))))))).run ?_
            first | exact hJh6 | (simp only [if_pos h6] at hJh6; exact hJh6) | (simp only [eq_true h6, eq_false (i32_nle.mpr h6), true_and, and_true, false_and, and_false, true_or, or_true, false_or, or_false, not_true_eq_false, not_false_eq_true] at hJh6; exact hJh6) | exact Run.eq (by simp [eq_true h6, eq_false (i32_nle.mpr h6), bI]) (by simp [eq_true h6, eq_false (i32_nle.mpr h6), bI]) rfl hJh6
          · refine (go_iconst (v := 1) eX11_sizes_138 rfl).run ?_
            refine (go_goto 143 eX11_sizes_139 rfl).run ?_
            refine (go_sub (L' := [some (.ref 88), some (.int x1), some (.int x2), some (.int x3), some (.int x4), some (.int x5), some (.int (x6 + 1)), none, none, none, none, none, none, none]) (lsub_keep (lsub_keep (lsub_keep (lsub_keep (lsub_keep (lsub_keep (lsub_keep (lsub_drop (lsub_keep (lsub_keep (lsub_keep (lsub_keep (lsub_keep (lsub_keep lsub_nil))))))))))))))).run ?_
            first | exact hJh6 | (simp only [if_neg (i32_nlt.mpr h6)] at hJh6; exact hJh6) | (simp only [eq_true h6, eq_false (i32_nlt.mpr h6), true_and, and_true, false_and, and_false, true_or, or_true, false_or, or_false, not_true_eq_false, not_false_eq_true] at hJh6; exact hJh6) | exact Run.eq (by simp [eq_true h6, eq_false (i32_nlt.mpr h6), bI]) (by simp [eq_true h6, eq_false (i32_nlt.mpr h6), bI]) rfl hJh6
        · refine (go_aload_n 0 eX11_sizes_103 rfl rfl).run ?_
          refine (go_iload 5 eX11_sizes_104 rfl).run ?_
          refine (go_iload_n 2 eX11_sizes_106 rfl rfl).run ?_
          refine (go_iload_n 3 eX11_sizes_107 rfl rfl).run ?_
          refine (go_iload_n 2 eX11_sizes_108 rfl rfl).run ?_
          refine (go_iconst (v := 1) eX11_sizes_109 rfl).run ?_
          have hJh7 : Run MX11_sizes (d + 3) 120 [some (.ref 88), some (.int x1), some (.int x2), some (.int x3), some (.int x4), some (.int x5), some (.int (x6 + 1)), none, none, none, none, none, none, none] [.int (if x2 = 1 then (x6 + 1) else 12), .int x3, .int x2, .int x5, .ref 88] σ Q := by
            exact Run.callV (d := (d + 2)) (As := [.int x5, .int x2, .int x3, .int (if x2 = 1 then (x6 + 1) else 12)]) mX11_fillsBelow lkX11_256 kd_88 (by decide) rfl rfl rfl rfl rfl (Nat.le_of_ble_eq_true rfl) eX11_sizes_120 (k5 h1 h2 h3 h5)
          refine (bi_ne 118 eX11_sizes_110 rfl).run (fun h7 => ?_) (fun h7 => ?_)
          · refine (go_bipush (v := 12) eX11_sizes_118 rfl).run ?_
            refine (go_sub (L' := [some (.ref 88), some (.int x1), some (.int x2), some (.int x3), some (.int x4), some (.int x5), some (.int (x6 + 1)), none, none, none, none, none, none, none]) (lsub_keep (lsub_keep (lsub_keep (lsub_keep (lsub_keep (lsub_keep (lsub_keep (lsub_drop (lsub_keep (lsub_keep (lsub_keep (lsub_keep (lsub_keep (lsub_keep lsub_nil))))))))))))))).run ?_
            first | exact hJh7 | (simp only [if_neg (h7)] at hJh7; exact hJh7) | (simp only [eq_false h7, not_false_eq_true, true_and, and_true, false_and, and_false, true_or, or_true, false_or, or_false, not_true_eq_false, not_false_eq_true] at hJh7; exact hJh7) | exact Run.eq (by simp [eq_false h7, not_false_eq_true, bI]) (by simp [eq_false h7, not_false_eq_true, bI]) rfl hJh7
          · refine (go_iload 6 eX11_sizes_113 rfl).run ?_
            refine (go_goto 120 eX11_sizes_115 rfl).run ?_
            refine (go_sub (L' := [some (.ref 88), some (.int x1), some (.int x2), some (.int x3), some (.int x4), some (.int x5), some (.int (x6 + 1)), none, none, none, none, none, none, none]) (lsub_keep (lsub_keep (lsub_keep (lsub_keep (lsub_keep (lsub_keep (lsub_keep (lsub_drop (lsub_keep (lsub_keep (lsub_keep (lsub_keep (lsub_keep (lsub_keep lsub_nil))))))))))))))).run ?_
            first | exact hJh7 | (simp only [if_pos h7] at hJh7; exact hJh7) | (simp only [eq_true h7, not_true_eq_false, true_and, and_true, false_and, and_false, true_or, or_true, false_or, or_false, not_true_eq_false, not_false_eq_true] at hJh7; exact hJh7) | exact Run.eq (by simp [eq_true h7, not_true_eq_false, bI]) (by simp [eq_true h7, not_true_eq_false, bI]) rfl hJh7

set_option maxRecDepth 20000 in
theorem bX11_sizes_180 {d : Nat} {Q : Option Value → St → Prop} (x2 : Int32) (x3 : Int32) (x8 : Int64) (x10 : Int32) (x11 : Int32) (x12 : Int32) (x13 : Int32) (σ : St) 
    (g1 : x12 ≤ (x10 - x13) → vp_in (((130 : Int32) * x12) + ((rX11_aboveThen x11 x12 x13 x2 x3 σ))) 1690)
    (k1 : (x10 - x13) < x12 → Run MX11_sizes (d + 3) 180 [some (.ref 88), none, some (.int x2), some (.int x3), none, none, none, none, some (.long x8), none, some (.int x10), some (.int x11), some (.int x12), some (.int (x13 + 1))] [] σ Q)
    (k2 : x12 ≤ (x10 - x13) → (x10 - x13) ≤ (σ.1 103 (((130 : Int32) * x12) + ((rX11_aboveThen x11 x12 x13 x2 x3 σ))).toNatClampNeg) → Run MX11_sizes (d + 3) 172 [some (.ref 88), none, some (.int x2), some (.int x3), none, none, none, none, some (.long ((x8 <<< ((4 : Int32).toInt64 &&& 63)) ||| x13.toInt64)), none, some (.int (x10 - x13)), some (.int ((rX11_aboveThen x11 x12 x13 x2 x3 σ))), some (.int (x12 + (-1))), none] [] σ Q)
    (k3 : x12 ≤ (x10 - x13) → (σ.1 103 (((130 : Int32) * x12) + ((rX11_aboveThen x11 x12 x13 x2 x3 σ))).toNatClampNeg) < (x10 - x13) → Run MX11_sizes (d + 3) 180 [some (.ref 88), none, some (.int x2), some (.int x3), none, none, none, none, some (.long x8), none, some (.int x10), some (.int x11), some (.int x12), some (.int (x13 + 1))] [] σ Q)
    : Run MX11_sizes (d + 3) 180 [some (.ref 88), none, some (.int x2), some (.int x3), none, none, none, none, some (.long x8), none, some (.int x10), some (.int x11), some (.int x12), some (.int x13)] [] σ Q := by
  refine (go_iload 10 eX11_sizes_180 rfl).run ?_
  refine (go_iload 13 eX11_sizes_182 rfl).run ?_
  refine (go_isub eX11_sizes_184).run ?_
  refine (go_iload 12 eX11_sizes_185 rfl).run ?_
  refine (bi_lt 221 eX11_sizes_187 rfl).run (fun h1 => ?_) (fun h1 => ?_)
  · refine (go_iinc 13 (v := (x13 + 1)) (L' := [some (.ref 88), none, some (.int x2), some (.int x3), none, none, none, none, some (.long x8), none, some (.int x10), some (.int x11), some (.int x12), some (.int (x13 + 1))]) eX11_sizes_221 rfl rfl (Nat.le_of_ble_eq_true rfl) rfl).run ?_
    refine (go_goto 180 eX11_sizes_224 rfl).run ?_
    exact (k1 h1)
  · refine (go_iload 10 eX11_sizes_190 rfl).run ?_
    refine (go_iload 13 eX11_sizes_192 rfl).run ?_
    refine (go_isub eX11_sizes_194).run ?_
    refine (go_aload_n 0 eX11_sizes_195 rfl rfl).run ?_
    refine (go_getr flX11_67 rf_10_27 kd_88 gr_88_27 eX11_sizes_196).run ?_
    refine (go_sipush (v := 130) eX11_sizes_199 rfl).run ?_
    refine (go_iload 12 eX11_sizes_202 rfl).run ?_
    refine (go_imul eX11_sizes_204).run ?_
    refine (go_iload 11 eX11_sizes_205 rfl).run ?_
    refine (go_iload 12 eX11_sizes_207 rfl).run ?_
    refine (go_iload 13 eX11_sizes_209 rfl).run ?_
    refine (go_iload_n 2 eX11_sizes_211 rfl rfl).run ?_
    refine (go_iload_n 3 eX11_sizes_212 rfl rfl).run ?_
    refine Run.callS1 (d := (d + 2)) (As := [.int x11, .int x12, .int x13, .int x2, .int x3]) (r := .int ((rX11_aboveThen x11 x12 x13 x2 x3 σ))) mX11_aboveThen lkX11_252 rfl rfl rfl (Nat.le_of_ble_eq_true rfl) eX11_sizes_213 (qX11_aboveThen (d + 2) x11 x12 x13 x2 x3 σ  ) ?_
    refine (go_iadd eX11_sizes_216).run ?_
    refine (go_iald kd_103 ln_103 (g1 h1) eX11_sizes_217).run ?_
    refine (bi_le 227 eX11_sizes_218 rfl).run (fun h2 => ?_) (fun h2 => ?_)
    · refine (go_lload 8 eX11_sizes_227 rfl).run ?_
      refine (go_iconst (v := 4) eX11_sizes_229 rfl).run ?_
      refine (go_lshl eX11_sizes_230).run ?_
      refine (go_iload 13 eX11_sizes_231 rfl).run ?_
      refine (go_i2l eX11_sizes_233).run ?_
      refine (go_lor eX11_sizes_234).run ?_
      refine (go_lstore 8 (L' := [some (.ref 88), none, some (.int x2), some (.int x3), none, none, none, none, some (.long ((x8 <<< ((4 : Int32).toInt64 &&& 63)) ||| x13.toInt64)), none, some (.int x10), some (.int x11), some (.int x12), some (.int x13)]) eX11_sizes_235 (Nat.le_of_ble_eq_true rfl) rfl).run ?_
      refine (go_iload 10 eX11_sizes_237 rfl).run ?_
      refine (go_iload 13 eX11_sizes_239 rfl).run ?_
      refine (go_isub eX11_sizes_241).run ?_
      refine (go_istore 10 (L' := [some (.ref 88), none, some (.int x2), some (.int x3), none, none, none, none, some (.long ((x8 <<< ((4 : Int32).toInt64 &&& 63)) ||| x13.toInt64)), none, some (.int (x10 - x13)), some (.int x11), some (.int x12), some (.int x13)]) eX11_sizes_242 (Nat.le_of_ble_eq_true rfl) rfl).run ?_
      refine (go_iload 11 eX11_sizes_244 rfl).run ?_
      refine (go_iload 12 eX11_sizes_246 rfl).run ?_
      refine (go_iload 13 eX11_sizes_248 rfl).run ?_
      refine (go_iload_n 2 eX11_sizes_250 rfl rfl).run ?_
      refine (go_iload_n 3 eX11_sizes_251 rfl rfl).run ?_
      refine Run.callS1 (d := (d + 2)) (As := [.int x11, .int x12, .int x13, .int x2, .int x3]) (r := .int ((rX11_aboveThen x11 x12 x13 x2 x3 σ))) mX11_aboveThen lkX11_252 rfl rfl rfl (Nat.le_of_ble_eq_true rfl) eX11_sizes_252 (qX11_aboveThen (d + 2) x11 x12 x13 x2 x3 σ  ) ?_
      refine (go_istore 11 (L' := [some (.ref 88), none, some (.int x2), some (.int x3), none, none, none, none, some (.long ((x8 <<< ((4 : Int32).toInt64 &&& 63)) ||| x13.toInt64)), none, some (.int (x10 - x13)), some (.int ((rX11_aboveThen x11 x12 x13 x2 x3 σ))), some (.int x12), some (.int x13)]) eX11_sizes_255 (Nat.le_of_ble_eq_true rfl) rfl).run ?_
      refine (go_iinc 12 (v := (x12 + (-1))) (L' := [some (.ref 88), none, some (.int x2), some (.int x3), none, none, none, none, some (.long ((x8 <<< ((4 : Int32).toInt64 &&& 63)) ||| x13.toInt64)), none, some (.int (x10 - x13)), some (.int ((rX11_aboveThen x11 x12 x13 x2 x3 σ))), some (.int (x12 + (-1))), some (.int x13)]) eX11_sizes_257 rfl rfl (Nat.le_of_ble_eq_true rfl) rfl).run ?_
      refine (go_goto 172 eX11_sizes_260 rfl).run ?_
      refine (go_sub (L' := [some (.ref 88), none, some (.int x2), some (.int x3), none, none, none, none, some (.long ((x8 <<< ((4 : Int32).toInt64 &&& 63)) ||| x13.toInt64)), none, some (.int (x10 - x13)), some (.int ((rX11_aboveThen x11 x12 x13 x2 x3 σ))), some (.int (x12 + (-1))), none]) (lsub_keep (lsub_keep (lsub_keep (lsub_keep (lsub_keep (lsub_keep (lsub_keep (lsub_keep (lsub_keep (lsub_keep (lsub_keep (lsub_keep (lsub_keep (lsub_drop lsub_nil))))))))))))))).run ?_
      exact (k2 h1 h2)
    · refine (go_iinc 13 (v := (x13 + 1)) (L' := [some (.ref 88), none, some (.int x2), some (.int x3), none, none, none, none, some (.long x8), none, some (.int x10), some (.int x11), some (.int x12), some (.int (x13 + 1))]) eX11_sizes_221 rfl rfl (Nat.le_of_ble_eq_true rfl) rfl).run ?_
      refine (go_goto 180 eX11_sizes_224 rfl).run ?_
      exact (k3 h1 h2)

set_option maxRecDepth 20000 in
theorem bX11_sizes_123 {d : Nat} {Q : Option Value → St → Prop} (x1 : Int32) (x2 : Int32) (x3 : Int32) (x4 : Int32) (x5 : Int32) (x6 : Int32) (σ : St) 
    (g1 : vp_in ((130 : Int32) * x6) 1690)
    (k1 : Run MX11_sizes (d + 3) 73 [some (.ref 88), some (.int x1), some (.int x2), some (.int x3), some (.int x4), some (.int x5), some (.int x6), some (.int (bI (x1 ≤ (σ.1 103 ((130 : Int32) * x6).toNatClampNeg)))), none, none, none, none, none, none] [] σ Q)
    : Run MX11_sizes (d + 3) 123 [some (.ref 88), some (.int x1), some (.int x2), some (.int x3), some (.int x4), some (.int x5), some (.int x6), none, none, none, none, none, none, none] [] σ Q := by
  refine (go_aload_n 0 eX11_sizes_123 rfl rfl).run ?_
  refine (go_getr flX11_67 rf_10_27 kd_88 gr_88_27 eX11_sizes_124).run ?_
  refine (go_sipush (v := 130) eX11_sizes_127 rfl).run ?_
  refine (go_iload 6 eX11_sizes_130 rfl).run ?_
  refine (go_imul eX11_sizes_132).run ?_
  refine (go_iald kd_103 ln_103 g1 eX11_sizes_133).run ?_
  refine (go_iload_n 1 eX11_sizes_134 rfl rfl).run ?_
  have hJh1 : Run MX11_sizes (d + 3) 143 [some (.ref 88), some (.int x1), some (.int x2), some (.int x3), some (.int x4), some (.int x5), some (.int x6), none, none, none, none, none, none, none] [.int (bI (x1 ≤ (σ.1 103 ((130 : Int32) * x6).toNatClampNeg)))] σ Q := by
    refine (go_istore 7 (L' := [some (.ref 88), some (.int x1), some (.int x2), some (.int x3), some (.int x4), some (.int x5), some (.int x6), some (.int (bI (x1 ≤ (σ.1 103 ((130 : Int32) * x6).toNatClampNeg)))), none, none, none, none, none, none]) eX11_sizes_143 (Nat.le_of_ble_eq_true rfl) rfl).run ?_
    refine (go_goto 73 eX11_sizes_145 rfl).run ?_
    exact k1
  refine (bi_lt 142 eX11_sizes_135 rfl).run (fun h1 => ?_) (fun h1 => ?_)
  · refine (go_iconst (v := 0) eX11_sizes_142 rfl).run ?_
    first | exact hJh1 | (simp only [if_pos h1] at hJh1; exact hJh1) | (simp only [eq_true h1, eq_false (i32_nle.mpr h1), true_and, and_true, false_and, and_false, true_or, or_true, false_or, or_false, not_true_eq_false, not_false_eq_true] at hJh1; exact hJh1) | exact Run.eq (by simp [eq_true h1, eq_false (i32_nle.mpr h1), bI]) (by simp [eq_true h1, eq_false (i32_nle.mpr h1), bI]) rfl hJh1
  · refine (go_iconst (v := 1) eX11_sizes_138 rfl).run ?_
    refine (go_goto 143 eX11_sizes_139 rfl).run ?_
    first | exact hJh1 | (simp only [if_neg (i32_nlt.mpr h1)] at hJh1; exact hJh1) | (simp only [eq_true h1, eq_false (i32_nlt.mpr h1), true_and, and_true, false_and, and_false, true_or, or_true, false_or, or_false, not_true_eq_false, not_false_eq_true] at hJh1; exact hJh1) | exact Run.eq (by simp [eq_true h1, eq_false (i32_nlt.mpr h1), bI]) (by simp [eq_true h1, eq_false (i32_nlt.mpr h1), bI]) rfl hJh1


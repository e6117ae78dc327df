/-! CarryNets.pairsRunningAtMost -/
theorem eX10_pairsRunningAtMost_0 : decode MX10_pairsRunningAtMost.2.1 0 = .ok (.iconst 0, 1) := by decide +kernel
theorem eX10_pairsRunningAtMost_1 : decode MX10_pairsRunningAtMost.2.1 1 = .ok (.istore_n 3, 1) := by decide +kernel
theorem eX10_pairsRunningAtMost_2 : decode MX10_pairsRunningAtMost.2.1 2 = .ok (.iload_n 3, 1) := by decide +kernel
theorem eX10_pairsRunningAtMost_3 : decode MX10_pairsRunningAtMost.2.1 3 = .ok (.aload_n 0, 1) := by decide +kernel
theorem eX10_pairsRunningAtMost_4 : decode MX10_pairsRunningAtMost.2.1 4 = .ok (.getfield 57, 3) := by decide +kernel
theorem eX10_pairsRunningAtMost_7 : decode MX10_pairsRunningAtMost.2.1 7 = .ok (.arraylength, 1) := by decide +kernel
theorem eX10_pairsRunningAtMost_8 : decode MX10_pairsRunningAtMost.2.1 8 = .ok (.if_icmp .ge 24, 3) := by decide +kernel
theorem eX10_pairsRunningAtMost_11 : decode MX10_pairsRunningAtMost.2.1 11 = .ok (.aload_n 0, 1) := by decide +kernel
theorem eX10_pairsRunningAtMost_12 : decode MX10_pairsRunningAtMost.2.1 12 = .ok (.getfield 57, 3) := by decide +kernel
theorem eX10_pairsRunningAtMost_15 : decode MX10_pairsRunningAtMost.2.1 15 = .ok (.iload_n 3, 1) := by decide +kernel
theorem eX10_pairsRunningAtMost_16 : decode MX10_pairsRunningAtMost.2.1 16 = .ok (.iload_n 3, 1) := by decide +kernel
theorem eX10_pairsRunningAtMost_17 : decode MX10_pairsRunningAtMost.2.1 17 = .ok (.ifCond .ne 7, 3) := by decide +kernel
theorem eX10_pairsRunningAtMost_20 : decode MX10_pairsRunningAtMost.2.1 20 = .ok (.lconst 1, 1) := by decide +kernel
theorem eX10_pairsRunningAtMost_21 : decode MX10_pairsRunningAtMost.2.1 21 = .ok (.goto 4, 3) := by decide +kernel
theorem eX10_pairsRunningAtMost_24 : decode MX10_pairsRunningAtMost.2.1 24 = .ok (.lconst 0, 1) := by decide +kernel
theorem eX10_pairsRunningAtMost_25 : decode MX10_pairsRunningAtMost.2.1 25 = .ok (.lastore, 1) := by decide +kernel
theorem eX10_pairsRunningAtMost_26 : decode MX10_pairsRunningAtMost.2.1 26 = .ok (.iinc 3 1, 3) := by decide +kernel
theorem eX10_pairsRunningAtMost_29 : decode MX10_pairsRunningAtMost.2.1 29 = .ok (.goto (-27), 3) := by decide +kernel
theorem eX10_pairsRunningAtMost_32 : decode MX10_pairsRunningAtMost.2.1 32 = .ok (.iload_n 2, 1) := by decide +kernel
theorem eX10_pairsRunningAtMost_33 : decode MX10_pairsRunningAtMost.2.1 33 = .ok (.aload_n 0, 1) := by decide +kernel
theorem eX10_pairsRunningAtMost_34 : decode MX10_pairsRunningAtMost.2.1 34 = .ok (.getfield 57, 3) := by decide +kernel
theorem eX10_pairsRunningAtMost_37 : decode MX10_pairsRunningAtMost.2.1 37 = .ok (.arraylength, 1) := by decide +kernel
theorem eX10_pairsRunningAtMost_38 : decode MX10_pairsRunningAtMost.2.1 38 = .ok (.iconst 1, 1) := by decide +kernel
theorem eX10_pairsRunningAtMost_39 : decode MX10_pairsRunningAtMost.2.1 39 = .ok (.isub, 1) := by decide +kernel
theorem eX10_pairsRunningAtMost_40 : decode MX10_pairsRunningAtMost.2.1 40 = .ok (.invokestatic 344, 3) := by decide +kernel
theorem eX10_pairsRunningAtMost_43 : decode MX10_pairsRunningAtMost.2.1 43 = .ok (.istore_n 3, 1) := by decide +kernel
theorem eX10_pairsRunningAtMost_44 : decode MX10_pairsRunningAtMost.2.1 44 = .ok (.iconst 0, 1) := by decide +kernel
theorem eX10_pairsRunningAtMost_45 : decode MX10_pairsRunningAtMost.2.1 45 = .ok (.istore 4, 2) := by decide +kernel
theorem eX10_pairsRunningAtMost_47 : decode MX10_pairsRunningAtMost.2.1 47 = .ok (.iload 4, 2) := by decide +kernel
theorem eX10_pairsRunningAtMost_49 : decode MX10_pairsRunningAtMost.2.1 49 = .ok (.iload_n 1, 1) := by decide +kernel
theorem eX10_pairsRunningAtMost_50 : decode MX10_pairsRunningAtMost.2.1 50 = .ok (.if_icmp .ge 85, 3) := by decide +kernel
theorem eX10_pairsRunningAtMost_53 : decode MX10_pairsRunningAtMost.2.1 53 = .ok (.aload_n 0, 1) := by decide +kernel
theorem eX10_pairsRunningAtMost_54 : decode MX10_pairsRunningAtMost.2.1 54 = .ok (.invokevirtual 347, 3) := by decide +kernel
theorem eX10_pairsRunningAtMost_57 : decode MX10_pairsRunningAtMost.2.1 57 = .ok (.lstore 5, 2) := by decide +kernel
theorem eX10_pairsRunningAtMost_59 : decode MX10_pairsRunningAtMost.2.1 59 = .ok (.aload_n 0, 1) := by decide +kernel
theorem eX10_pairsRunningAtMost_60 : decode MX10_pairsRunningAtMost.2.1 60 = .ok (.getfield 57, 3) := by decide +kernel
theorem eX10_pairsRunningAtMost_63 : decode MX10_pairsRunningAtMost.2.1 63 = .ok (.iconst 0, 1) := by decide +kernel
theorem eX10_pairsRunningAtMost_64 : decode MX10_pairsRunningAtMost.2.1 64 = .ok (.laload, 1) := by decide +kernel
theorem eX10_pairsRunningAtMost_65 : decode MX10_pairsRunningAtMost.2.1 65 = .ok (.lstore 7, 2) := by decide +kernel
theorem eX10_pairsRunningAtMost_67 : decode MX10_pairsRunningAtMost.2.1 67 = .ok (.iload_n 3, 1) := by decide +kernel
theorem eX10_pairsRunningAtMost_68 : decode MX10_pairsRunningAtMost.2.1 68 = .ok (.istore 9, 2) := by decide +kernel
theorem eX10_pairsRunningAtMost_70 : decode MX10_pairsRunningAtMost.2.1 70 = .ok (.iload 9, 2) := by decide +kernel
theorem eX10_pairsRunningAtMost_72 : decode MX10_pairsRunningAtMost.2.1 72 = .ok (.iconst 1, 1) := by decide +kernel
theorem eX10_pairsRunningAtMost_73 : decode MX10_pairsRunningAtMost.2.1 73 = .ok (.if_icmp .le 29, 3) := by decide +kernel
theorem eX10_pairsRunningAtMost_76 : decode MX10_pairsRunningAtMost.2.1 76 = .ok (.aload_n 0, 1) := by decide +kernel
theorem eX10_pairsRunningAtMost_77 : decode MX10_pairsRunningAtMost.2.1 77 = .ok (.getfield 57, 3) := by decide +kernel
theorem eX10_pairsRunningAtMost_80 : decode MX10_pairsRunningAtMost.2.1 80 = .ok (.iload 9, 2) := by decide +kernel
theorem eX10_pairsRunningAtMost_82 : decode MX10_pairsRunningAtMost.2.1 82 = .ok (.ldc2_w 351, 3) := by decide +kernel
theorem eX10_pairsRunningAtMost_85 : decode MX10_pairsRunningAtMost.2.1 85 = .ok (.aload_n 0, 1) := by decide +kernel
theorem eX10_pairsRunningAtMost_86 : decode MX10_pairsRunningAtMost.2.1 86 = .ok (.getfield 57, 3) := by decide +kernel
theorem eX10_pairsRunningAtMost_89 : decode MX10_pairsRunningAtMost.2.1 89 = .ok (.iload 9, 2) := by decide +kernel
theorem eX10_pairsRunningAtMost_91 : decode MX10_pairsRunningAtMost.2.1 91 = .ok (.iconst 1, 1) := by decide +kernel
theorem eX10_pairsRunningAtMost_92 : decode MX10_pairsRunningAtMost.2.1 92 = .ok (.isub, 1) := by decide +kernel
theorem eX10_pairsRunningAtMost_93 : decode MX10_pairsRunningAtMost.2.1 93 = .ok (.laload, 1) := by decide +kernel
theorem eX10_pairsRunningAtMost_94 : decode MX10_pairsRunningAtMost.2.1 94 = .ok (.lmul, 1) := by decide +kernel
theorem eX10_pairsRunningAtMost_95 : decode MX10_pairsRunningAtMost.2.1 95 = .ok (.lastore, 1) := by decide +kernel
theorem eX10_pairsRunningAtMost_96 : decode MX10_pairsRunningAtMost.2.1 96 = .ok (.iinc 9 (-1), 3) := by decide +kernel
theorem eX10_pairsRunningAtMost_99 : decode MX10_pairsRunningAtMost.2.1 99 = .ok (.goto (-29), 3) := by decide +kernel
theorem eX10_pairsRunningAtMost_102 : decode MX10_pairsRunningAtMost.2.1 102 = .ok (.iload_n 3, 1) := by decide +kernel
theorem eX10_pairsRunningAtMost_103 : decode MX10_pairsRunningAtMost.2.1 103 = .ok (.ifCond .le 11, 3) := by decide +kernel
theorem eX10_pairsRunningAtMost_106 : decode MX10_pairsRunningAtMost.2.1 106 = .ok (.aload_n 0, 1) := by decide +kernel
theorem eX10_pairsRunningAtMost_107 : decode MX10_pairsRunningAtMost.2.1 107 = .ok (.getfield 57, 3) := by decide +kernel
theorem eX10_pairsRunningAtMost_110 : decode MX10_pairsRunningAtMost.2.1 110 = .ok (.iconst 1, 1) := by decide +kernel
theorem eX10_pairsRunningAtMost_111 : decode MX10_pairsRunningAtMost.2.1 111 = .ok (.lload 5, 2) := by decide +kernel
theorem eX10_pairsRunningAtMost_113 : decode MX10_pairsRunningAtMost.2.1 113 = .ok (.lastore, 1) := by decide +kernel
theorem eX10_pairsRunningAtMost_114 : decode MX10_pairsRunningAtMost.2.1 114 = .ok (.aload_n 0, 1) := by decide +kernel
theorem eX10_pairsRunningAtMost_115 : decode MX10_pairsRunningAtMost.2.1 115 = .ok (.getfield 57, 3) := by decide +kernel
theorem eX10_pairsRunningAtMost_118 : decode MX10_pairsRunningAtMost.2.1 118 = .ok (.iconst 0, 1) := by decide +kernel
theorem eX10_pairsRunningAtMost_119 : decode MX10_pairsRunningAtMost.2.1 119 = .ok (.lload 5, 2) := by decide +kernel
theorem eX10_pairsRunningAtMost_121 : decode MX10_pairsRunningAtMost.2.1 121 = .ok (.ldc2_w 351, 3) := by decide +kernel
theorem eX10_pairsRunningAtMost_124 : decode MX10_pairsRunningAtMost.2.1 124 = .ok (.lload 7, 2) := by decide +kernel
theorem eX10_pairsRunningAtMost_126 : decode MX10_pairsRunningAtMost.2.1 126 = .ok (.lmul, 1) := by decide +kernel
theorem eX10_pairsRunningAtMost_127 : decode MX10_pairsRunningAtMost.2.1 127 = .ok (.ladd, 1) := by decide +kernel
theorem eX10_pairsRunningAtMost_128 : decode MX10_pairsRunningAtMost.2.1 128 = .ok (.lastore, 1) := by decide +kernel
theorem eX10_pairsRunningAtMost_129 : decode MX10_pairsRunningAtMost.2.1 129 = .ok (.iinc 4 1, 3) := by decide +kernel
theorem eX10_pairsRunningAtMost_132 : decode MX10_pairsRunningAtMost.2.1 132 = .ok (.goto (-85), 3) := by decide +kernel
theorem eX10_pairsRunningAtMost_135 : decode MX10_pairsRunningAtMost.2.1 135 = .ok (.aload_n 0, 1) := by decide +kernel
theorem eX10_pairsRunningAtMost_136 : decode MX10_pairsRunningAtMost.2.1 136 = .ok (.invokevirtual 347, 3) := by decide +kernel
theorem eX10_pairsRunningAtMost_139 : decode MX10_pairsRunningAtMost.2.1 139 = .ok (.lreturn, 1) := by decide +kernel
set_option maxRecDepth 20000 in
theorem bX10_pairsRunningAtMost_0 {d : Nat} {Q : Option Value → St → Prop} (x1 : Int32) (x2 : Int32) (σ : St) 
    (k1 : Run MX10_pairsRunningAtMost (d + 1) 2 [some (.ref 0), some (.int x1), some (.int x2), some (.int 0), none, none, none, none, none, none] [] σ Q)
    : Run MX10_pairsRunningAtMost (d + 1) 0 [some (.ref 0), some (.int x1), some (.int x2), none, none, none, none, none, none, none] [] σ Q := by
  refine (go_iconst (v := 0) eX10_pairsRunningAtMost_0 rfl).run ?_
  refine (go_istore_n 3 (L' := [some (.ref 0), some (.int x1), some (.int x2), some (.int 0), none, none, none, none, none, none]) eX10_pairsRunningAtMost_1 rfl (Nat.le_of_ble_eq_true rfl) rfl).run ?_
  exact k1

set_option maxRecDepth 20000 in
theorem bX10_pairsRunningAtMost_2 {d : Nat} {Q : Option Value → St → Prop} (x1 : Int32) (x2 : Int32) (x3 : Int32) (σ : St) 
    (g1 : x3 < 32 → vp_in x3 32)
    (k1 : (32 : Int32) ≤ x3 → Run MX10_pairsRunningAtMost (d + 1) 47 [some (.ref 0), some (.int x1), none, some (.int (mnI x2 ((32 : Int32) - 1))), some (.int 0), none, none, none, none, none] [] σ Q)
    (k2 : x3 < 32 → Run MX10_pairsRunningAtMost (d + 1) 2 [some (.ref 0), some (.int x1), some (.int x2), some (.int (x3 + 1)), none, none, none, none, none, none] [] (sJ σ 26 (vp_updL (σ.2 26) x3.toNatClampNeg (if x3 = 0 then (1 : Int64) else 0))) Q)
    : Run MX10_pairsRunningAtMost (d + 1) 2 [some (.ref 0), some (.int x1), some (.int x2), some (.int x3), none, none, none, none, none, none] [] σ Q := by
  refine (go_iload_n 3 eX10_pairsRunningAtMost_2 rfl rfl).run ?_
  refine (go_aload_n 0 eX10_pairsRunningAtMost_3 rfl rfl).run ?_
  refine (go_getr flX10_57 rf_9_8 kd_0 gr_0_8 eX10_pairsRunningAtMost_4).run ?_
  refine (go_alen101 (v := 32) kd_26 ln_26 rfl eX10_pairsRunningAtMost_7).run ?_
  refine (bi_ge 32 eX10_pairsRunningAtMost_8 rfl).run (fun h1 => ?_) (fun h1 => ?_)
  · refine (go_iload_n 2 eX10_pairsRunningAtMost_32 rfl rfl).run ?_
    refine (go_aload_n 0 eX10_pairsRunningAtMost_33 rfl rfl).run ?_
    refine (go_getr flX10_57 rf_9_8 kd_0 gr_0_8 eX10_pairsRunningAtMost_34).run ?_
    refine (go_alen101 (v := 32) kd_26 ln_26 rfl eX10_pairsRunningAtMost_37).run ?_
    refine (go_iconst (v := 1) eX10_pairsRunningAtMost_38 rfl).run ?_
    refine (go_isub eX10_pairsRunningAtMost_39).run ?_
    refine (go_minN mm_ok lkX10_344 rfl (Nat.le_of_ble_eq_true rfl) (by omega) eX10_pairsRunningAtMost_40).run ?_
    refine (go_istore_n 3 (L' := [some (.ref 0), some (.int x1), some (.int x2), some (.int (mnI x2 ((32 : Int32) - 1))), none, none, none, none, none, none]) eX10_pairsRunningAtMost_43 rfl (Nat.le_of_ble_eq_true rfl) rfl).run ?_
    refine (go_iconst (v := 0) eX10_pairsRunningAtMost_44 rfl).run ?_
    refine (go_istore 4 (L' := [some (.ref 0), some (.int x1), some (.int x2), some (.int (mnI x2 ((32 : Int32) - 1))), some (.int 0), none, none, none, none, none]) eX10_pairsRunningAtMost_45 (Nat.le_of_ble_eq_true rfl) rfl).run ?_
    refine (go_sub (L' := [some (.ref 0), some (.int x1), none, some (.int (mnI x2 ((32 : Int32) - 1))), some (.int 0), none, none, none, none, none]) (lsub_keep (lsub_keep (lsub_drop (lsub_keep (lsub_keep (lsub_keep (lsub_keep (lsub_keep (lsub_keep (lsub_keep lsub_nil))))))))))).run ?_
    exact (k1 h1)
  · refine (go_aload_n 0 eX10_pairsRunningAtMost_11 rfl rfl).run ?_
    refine (go_getr flX10_57 rf_9_8 kd_0 gr_0_8 eX10_pairsRunningAtMost_12).run ?_
    refine (go_iload_n 3 eX10_pairsRunningAtMost_15 rfl rfl).run ?_
    refine (go_iload_n 3 eX10_pairsRunningAtMost_16 rfl rfl).run ?_
    have hJh2 : Run MX10_pairsRunningAtMost (d + 1) 25 [some (.ref 0), some (.int x1), some (.int x2), some (.int x3), none, none, none, none, none, none] [.long (if x3 = 0 then (1 : Int64) else 0), .int x3, .ref 26] σ Q := by
      refine (go_last kd_26 ln_26 (g1 h1) eX10_pairsRunningAtMost_25).run ?_
      refine (go_iinc 3 (v := (x3 + 1)) (L' := [some (.ref 0), some (.int x1), some (.int x2), some (.int (x3 + 1)), none, none, none, none, none, none]) eX10_pairsRunningAtMost_26 rfl rfl (Nat.le_of_ble_eq_true rfl) rfl).run ?_
      refine (go_goto 2 eX10_pairsRunningAtMost_29 rfl).run ?_
      exact (k2 h1)
    refine (bz_ne 24 eX10_pairsRunningAtMost_17 rfl).run (fun h2 => ?_) (fun h2 => ?_)
    · refine (go_lconst (v := 0) eX10_pairsRunningAtMost_24 rfl).run ?_
      first | exact hJh2 | (simp only [if_neg (h2)] at hJh2; exact hJh2) | (simp only [eq_false h2, not_false_eq_true, true_and, and_true, false_and, and_false, true_or, or_true, false_or, or_false, not_true_eq_false, not_false_eq_true] at hJh2; exact hJh2) | exact Run.eq (by simp [eq_false h2, not_false_eq_true, bI]) (by simp [eq_false h2, not_false_eq_true, bI]) rfl hJh2
    · refine (go_lconst (v := 1) eX10_pairsRunningAtMost_20 rfl).run ?_
      refine (go_goto 25 eX10_pairsRunningAtMost_21 rfl).run ?_
      first | exact hJh2 | (simp only [if_pos h2] at hJh2; exact hJh2) | (simp only [eq_true h2, not_true_eq_false, true_and, and_true, false_and, and_false, true_or, or_true, false_or, or_false, not_true_eq_false, not_false_eq_true] at hJh2; exact hJh2) | exact Run.eq (by simp [eq_true h2, not_true_eq_false, bI]) (by simp [eq_true h2, not_true_eq_false, bI]) rfl hJh2

set_option maxRecDepth 20000 in
theorem bX10_pairsRunningAtMost_47 {d : Nat} {Q : Option Value → St → Prop} (x1 : Int32) (x3 : Int32) (x4 : Int32) (σ : St) 
    (k1 : x1 ≤ x4 → Ct yX10_pairsInAll MX10_pairsInAll d [.ref 0] σ (fun v σ1 => Run MX10_pairsRunningAtMost (d + 1) 139 [none, none, none, none, none, none, none, none, none, none] (v.toList ++ []) σ1 Q))
    (k2 : x4 < x1 → Ct yX10_pairsInAll MX10_pairsInAll d [.ref 0] σ (fun v σ1 => Run MX10_pairsRunningAtMost (d + 1) 57 [some (.ref 0), some (.int x1), none, some (.int x3), some (.int x4), none, none, none, none, none] (v.toList ++ []) σ1 Q))
    : Run MX10_pairsRunningAtMost (d + 1) 47 [some (.ref 0), some (.int x1), none, some (.int x3), some (.int x4), none, none, none, none, none] [] σ Q := by
  refine (go_iload 4 eX10_pairsRunningAtMost_47 rfl).run ?_
  refine (go_iload_n 1 eX10_pairsRunningAtMost_49 rfl rfl).run ?_
  refine (bi_ge 135 eX10_pairsRunningAtMost_50 rfl).run (fun h1 => ?_) (fun h1 => ?_)
  · refine (go_aload_n 0 eX10_pairsRunningAtMost_135 rfl rfl).run ?_
    refine (go_sub (L' := [none, none, none, none, none, none, none, none, none, none]) (lsub_drop (lsub_drop (lsub_keep (lsub_drop (lsub_drop (lsub_keep (lsub_keep (lsub_keep (lsub_keep (lsub_keep lsub_nil))))))))))).run ?_
    exact Run.callV (d := d) (As := []) mX10_pairsInAll lkX10_347 kd_0 (by decide) rfl rfl rfl rfl rfl (Nat.le_of_ble_eq_true rfl) eX10_pairsRunningAtMost_136 (k1 h1)
  · refine (go_aload_n 0 eX10_pairsRunningAtMost_53 rfl rfl).run ?_
    exact Run.callV (d := d) (As := []) mX10_pairsInAll lkX10_347 kd_0 (by decide) rfl rfl rfl rfl rfl (Nat.le_of_ble_eq_true rfl) eX10_pairsRunningAtMost_54 (k2 h1)

set_option maxRecDepth 20000 in
theorem bX10_pairsRunningAtMost_139 {d : Nat} {Q : Option Value → St → Prop} (s0 : Int64) (σ : St) 
    (k1 : Q (some (.long s0)) σ)
    : Run MX10_pairsRunningAtMost (d + 1) 139 [none, none, none, none, none, none, none, none, none, none] [.long s0] σ Q := by
  exact Run.ret (v := some (.long s0)) k1 ⟨rfl, eX10_pairsRunningAtMost_139⟩ rfl

set_option maxRecDepth 20000 in
theorem bX10_pairsRunningAtMost_57 {d : Nat} {Q : Option Value → St → Prop} (x1 : Int32) (x3 : Int32) (x4 : Int32) (s0 : Int64) (σ : St) 
    (k1 : Run MX10_pairsRunningAtMost (d + 1) 70 [some (.ref 0), some (.int x1), none, some (.int x3), some (.int x4), some (.long s0), none, some (.long (σ.2 26 ((0 : Int32).toNatClampNeg))), none, some (.int x3)] [] σ Q)
    : Run MX10_pairsRunningAtMost (d + 1) 57 [some (.ref 0), some (.int x1), none, some (.int x3), some (.int x4), none, none, none, none, none] [.long s0] σ Q := by
  refine (go_lstore 5 (L' := [some (.ref 0), some (.int x1), none, some (.int x3), some (.int x4), some (.long s0), none, none, none, none]) eX10_pairsRunningAtMost_57 (Nat.le_of_ble_eq_true rfl) rfl).run ?_
  refine (go_aload_n 0 eX10_pairsRunningAtMost_59 rfl rfl).run ?_
  refine (go_getr flX10_57 rf_9_8 kd_0 gr_0_8 eX10_pairsRunningAtMost_60).run ?_
  refine (go_iconst (v := 0) eX10_pairsRunningAtMost_63 rfl).run ?_
  refine (go_lald kd_26 ln_26 (vp_lit rfl rfl) eX10_pairsRunningAtMost_64).run ?_
  refine (go_lstore 7 (L' := [some (.ref 0), some (.int x1), none, some (.int x3), some (.int x4), some (.long s0), none, some (.long (σ.2 26 ((0 : Int32).toNatClampNeg))), none, none]) eX10_pairsRunningAtMost_65 (Nat.le_of_ble_eq_true rfl) rfl).run ?_
  refine (go_iload_n 3 eX10_pairsRunningAtMost_67 rfl rfl).run ?_
  refine (go_istore 9 (L' := [some (.ref 0), some (.int x1), none, some (.int x3), some (.int x4), some (.long s0), none, some (.long (σ.2 26 ((0 : Int32).toNatClampNeg))), none, some (.int x3)]) eX10_pairsRunningAtMost_68 (Nat.le_of_ble_eq_true rfl) rfl).run ?_
  exact k1

set_option maxRecDepth 20000 in
theorem bX10_pairsRunningAtMost_70 {d : Nat} {Q : Option Value → St → Prop} (x1 : Int32) (x3 : Int32) (x4 : Int32) (x5 : Int64) (x7 : Int64) (x9 : Int32) (σ : St) 
    (g1 : (1 : Int32) < x9 → vp_in (x9 - 1) 32)
    (g2 : (1 : Int32) < x9 → vp_in x9 32)
    (k1 : x9 ≤ 1 → x3 ≤ 0 → Run MX10_pairsRunningAtMost (d + 1) 47 [some (.ref 0), some (.int x1), none, some (.int x3), some (.int (x4 + 1)), none, none, none, none, none] [] (sJ σ 26 (vp_updL (σ.2 26) ((0 : Int32).toNatClampNeg) (x5 + ((2 : Int64) * x7)))) Q)
    (k2 : x9 ≤ 1 → (0 : Int32) < x3 → Run MX10_pairsRunningAtMost (d + 1) 47 [some (.ref 0), some (.int x1), none, some (.int x3), some (.int (x4 + 1)), none, none, none, none, none] [] (sJ (sJ σ 26 (vp_updL (σ.2 26) ((1 : Int32).toNatClampNeg) x5)) 26 (vp_updL (vp_updL (σ.2 26) ((1 : Int32).toNatClampNeg) x5) ((0 : Int32).toNatClampNeg) (x5 + ((2 : Int64) * x7)))) Q)
    (k3 : (1 : Int32) < x9 → Run MX10_pairsRunningAtMost (d + 1) 70 [some (.ref 0), some (.int x1), none, some (.int x3), some (.int x4), some (.long x5), none, some (.long x7), none, some (.int (x9 + (-1)))] [] (sJ σ 26 (vp_updL (σ.2 26) x9.toNatClampNeg ((2 : Int64) * (σ.2 26 (x9 - 1).toNatClampNeg)))) Q)
    : Run MX10_pairsRunningAtMost (d + 1) 70 [some (.ref 0), some (.int x1), none, some (.int x3), some (.int x4), some (.long x5), none, some (.long x7), none, some (.int x9)] [] σ Q := by
  refine (go_iload 9 eX10_pairsRunningAtMost_70 rfl).run ?_
  refine (go_iconst (v := 1) eX10_pairsRunningAtMost_72 rfl).run ?_
  refine (bi_le 102 eX10_pairsRunningAtMost_73 rfl).run (fun h1 => ?_) (fun h1 => ?_)
  · refine (go_iload_n 3 eX10_pairsRunningAtMost_102 rfl rfl).run ?_
    refine (bz_le 114 eX10_pairsRunningAtMost_103 rfl).run (fun h2 => ?_) (fun h2 => ?_)
    · refine (go_aload_n 0 eX10_pairsRunningAtMost_114 rfl rfl).run ?_
      refine (go_getr flX10_57 rf_9_8 kd_0 gr_0_8 eX10_pairsRunningAtMost_115).run ?_
      refine (go_iconst (v := 0) eX10_pairsRunningAtMost_118 rfl).run ?_
      refine (go_lload 5 eX10_pairsRunningAtMost_119 rfl).run ?_
      refine (go_ldc2 csX10_351 eX10_pairsRunningAtMost_121).run ?_
      refine (go_lload 7 eX10_pairsRunningAtMost_124 rfl).run ?_
      refine (go_lmul eX10_pairsRunningAtMost_126).run ?_
      refine (go_ladd eX10_pairsRunningAtMost_127).run ?_
      refine (go_last kd_26 ln_26 (vp_lit rfl rfl) eX10_pairsRunningAtMost_128).run ?_
      refine (go_iinc 4 (v := (x4 + 1)) (L' := [some (.ref 0), some (.int x1), none, some (.int x3), some (.int (x4 + 1)), some (.long x5), none, some (.long x7), none, some (.int x9)]) eX10_pairsRunningAtMost_129 rfl rfl (Nat.le_of_ble_eq_true rfl) rfl).run ?_
      refine (go_goto 47 eX10_pairsRunningAtMost_132 rfl).run ?_
      refine (go_sub (L' := [some (.ref 0), some (.int x1), none, some (.int x3), some (.int (x4 + 1)), none, none, none, none, none]) (lsub_keep (lsub_keep (lsub_keep (lsub_keep (lsub_keep (lsub_drop (lsub_keep (lsub_drop (lsub_keep (lsub_drop lsub_nil))))))))))).run ?_
      exact (k1 h1 h2)
    · refine (go_aload_n 0 eX10_pairsRunningAtMost_106 rfl rfl).run ?_
      refine (go_getr flX10_57 rf_9_8 kd_0 gr_0_8 eX10_pairsRunningAtMost_107).run ?_
      refine (go_iconst (v := 1) eX10_pairsRunningAtMost_110 rfl).run ?_
      refine (go_lload 5 eX10_pairsRunningAtMost_111 rfl).run ?_
      refine (go_last kd_26 ln_26 (vp_lit rfl rfl) eX10_pairsRunningAtMost_113).run ?_
      refine (go_aload_n 0 eX10_pairsRunningAtMost_114 rfl rfl).run ?_
      refine (go_getr flX10_57 rf_9_8 kd_0 gr_0_8 eX10_pairsRunningAtMost_115).run ?_
      refine (go_iconst (v := 0) eX10_pairsRunningAtMost_118 rfl).run ?_
      refine (go_lload 5 eX10_pairsRunningAtMost_119 rfl).run ?_
      refine (go_ldc2 csX10_351 eX10_pairsRunningAtMost_121).run ?_
      refine (go_lload 7 eX10_pairsRunningAtMost_124 rfl).run ?_
      refine (go_lmul eX10_pairsRunningAtMost_126).run ?_
      refine (go_ladd eX10_pairsRunningAtMost_127).run ?_
      refine (go_last kd_26 ln_26 (vp_lit rfl rfl) eX10_pairsRunningAtMost_128).run ?_
      refine (go_iinc 4 (v := (x4 + 1)) (L' := [some (.ref 0), some (.int x1), none, some (.int x3), some (.int (x4 + 1)), some (.long x5), none, some (.long x7), none, some (.int x9)]) eX10_pairsRunningAtMost_129 rfl rfl (Nat.le_of_ble_eq_true rfl) rfl).run ?_
      refine (go_goto 47 eX10_pairsRunningAtMost_132 rfl).run ?_
      refine (go_sub (L' := [some (.ref 0), some (.int x1), none, some (.int x3), some (.int (x4 + 1)), none, none, none, none, none]) (lsub_keep (lsub_keep (lsub_keep (lsub_keep (lsub_keep (lsub_drop (lsub_keep (lsub_drop (lsub_keep (lsub_drop lsub_nil))))))))))).run ?_
      exact (k2 h1 h2)
  · refine (go_aload_n 0 eX10_pairsRunningAtMost_76 rfl rfl).run ?_
    refine (go_getr flX10_57 rf_9_8 kd_0 gr_0_8 eX10_pairsRunningAtMost_77).run ?_
    refine (go_iload 9 eX10_pairsRunningAtMost_80 rfl).run ?_
    refine (go_ldc2 csX10_351 eX10_pairsRunningAtMost_82).run ?_
    refine (go_aload_n 0 eX10_pairsRunningAtMost_85 rfl rfl).run ?_
    refine (go_getr flX10_57 rf_9_8 kd_0 gr_0_8 eX10_pairsRunningAtMost_86).run ?_
    refine (go_iload 9 eX10_pairsRunningAtMost_89 rfl).run ?_
    refine (go_iconst (v := 1) eX10_pairsRunningAtMost_91 rfl).run ?_
    refine (go_isub eX10_pairsRunningAtMost_92).run ?_
    refine (go_lald kd_26 ln_26 (g1 h1) eX10_pairsRunningAtMost_93).run ?_
    refine (go_lmul eX10_pairsRunningAtMost_94).run ?_
    refine (go_last kd_26 ln_26 (g2 h1) eX10_pairsRunningAtMost_95).run ?_
    refine (go_iinc 9 (v := (x9 + (-1))) (L' := [some (.ref 0), some (.int x1), none, some (.int x3), some (.int x4), some (.long x5), none, some (.long x7), none, some (.int (x9 + (-1)))]) eX10_pairsRunningAtMost_96 rfl rfl (Nat.le_of_ble_eq_true rfl) rfl).run ?_
    refine (go_goto 70 eX10_pairsRunningAtMost_99 rfl).run ?_
    exact (k3 h1)

/-! CarryNets.runs -/
theorem eX10_runs_0 : decode MX10_runs.2.1 0 = .ok (.iload_n 1, 1) := by decide +kernel
theorem eX10_runs_1 : decode MX10_runs.2.1 1 = .ok (.iconst 1, 1) := by decide +kernel
theorem eX10_runs_2 : decode MX10_runs.2.1 2 = .ok (.if_icmp .lt 18, 3) := by decide +kernel
theorem eX10_runs_5 : decode MX10_runs.2.1 5 = .ok (.iload_n 1, 1) := by decide +kernel
theorem eX10_runs_6 : decode MX10_runs.2.1 6 = .ok (.bipush 31, 2) := by decide +kernel
theorem eX10_runs_8 : decode MX10_runs.2.1 8 = .ok (.if_icmp .gt 12, 3) := by decide +kernel
theorem eX10_runs_11 : decode MX10_runs.2.1 11 = .ok (.iload_n 2, 1) := by decide +kernel
theorem eX10_runs_12 : decode MX10_runs.2.1 12 = .ok (.ifCond .lt 8, 3) := by decide +kernel
theorem eX10_runs_15 : decode MX10_runs.2.1 15 = .ok (.iload_n 2, 1) := by decide +kernel
theorem eX10_runs_16 : decode MX10_runs.2.1 16 = .ok (.iload_n 1, 1) := by decide +kernel
theorem eX10_runs_17 : decode MX10_runs.2.1 17 = .ok (.if_icmp .le 7, 3) := by decide +kernel
theorem eX10_runs_20 : decode MX10_runs.2.1 20 = .ok (.ldc2_w 202, 3) := by decide +kernel
theorem eX10_runs_23 : decode MX10_runs.2.1 23 = .ok (.lreturn, 1) := by decide +kernel
theorem eX10_runs_24 : decode MX10_runs.2.1 24 = .ok (.aload_n 0, 1) := by decide +kernel
theorem eX10_runs_25 : decode MX10_runs.2.1 25 = .ok (.iload_n 1, 1) := by decide +kernel
theorem eX10_runs_26 : decode MX10_runs.2.1 26 = .ok (.iload_n 2, 1) := by decide +kernel
theorem eX10_runs_27 : decode MX10_runs.2.1 27 = .ok (.invokevirtual 257, 3) := by decide +kernel
theorem eX10_runs_30 : decode MX10_runs.2.1 30 = .ok (.lreturn, 1) := by decide +kernel
set_option maxRecDepth 20000 in
theorem bX10_runs_0 {d : Nat} {Q : Option Value → St → Prop} (x1 : Int32) (x2 : Int32) (σ : St) 
    (k1 : x1 < 1 → Q (some (.long (-1))) σ)
    (k2 : (1 : Int32) ≤ x1 → (31 : Int32) < x1 → Q (some (.long (-1))) σ)
    (k3 : (1 : Int32) ≤ x1 → x1 ≤ 31 → x2 < 0 → Q (some (.long (-1))) σ)
    (k4 : (1 : Int32) ≤ x1 → x1 ≤ 31 → (0 : Int32) ≤ x2 → x2 ≤ x1 → Ct yX10_pairsRunningAtMost MX10_pairsRunningAtMost (d + 1) [.ref 0, .int x1, .int x2] σ (fun v σ1 => Run MX10_runs (d + 2) 30 [none, none, none] (v.toList ++ []) σ1 Q))
    (k5 : (1 : Int32) ≤ x1 → x1 ≤ 31 → (0 : Int32) ≤ x2 → x1 < x2 → Q (some (.long (-1))) σ)
    : Run MX10_runs (d + 2) 0 [some (.ref 0), some (.int x1), some (.int x2)] [] σ Q := by
  refine (go_iload_n 1 eX10_runs_0 rfl rfl).run ?_
  refine (go_iconst (v := 1) eX10_runs_1 rfl).run ?_
  refine (bi_lt 20 eX10_runs_2 rfl).run (fun h1 => ?_) (fun h1 => ?_)
  · refine (go_ldc2 csX10_202 eX10_runs_20).run ?_
    exact Run.ret (v := some (.long (-1))) (k1 h1) ⟨rfl, eX10_runs_23⟩ rfl
  · refine (go_iload_n 1 eX10_runs_5 rfl rfl).run ?_
    refine (go_bipush (v := 31) eX10_runs_6 rfl).run ?_
    refine (bi_gt 20 eX10_runs_8 rfl).run (fun h2 => ?_) (fun h2 => ?_)
    · refine (go_ldc2 csX10_202 eX10_runs_20).run ?_
      exact Run.ret (v := some (.long (-1))) (k2 h1 h2) ⟨rfl, eX10_runs_23⟩ rfl
    · refine (go_iload_n 2 eX10_runs_11 rfl rfl).run ?_
      refine (bz_lt 20 eX10_runs_12 rfl).run (fun h3 => ?_) (fun h3 => ?_)
      · refine (go_ldc2 csX10_202 eX10_runs_20).run ?_
        exact Run.ret (v := some (.long (-1))) (k3 h1 h2 h3) ⟨rfl, eX10_runs_23⟩ rfl
      · refine (go_iload_n 2 eX10_runs_15 rfl rfl).run ?_
        refine (go_iload_n 1 eX10_runs_16 rfl rfl).run ?_
        refine (bi_le 24 eX10_runs_17 rfl).run (fun h4 => ?_) (fun h4 => ?_)
        · refine (go_aload_n 0 eX10_runs_24 rfl rfl).run ?_
          refine (go_iload_n 1 eX10_runs_25 rfl rfl).run ?_
          refine (go_iload_n 2 eX10_runs_26 rfl rfl).run ?_
          refine (go_sub (L' := [none, none, none]) (lsub_drop (lsub_drop (lsub_drop lsub_nil)))).run ?_
          exact Run.callV (d := (d + 1)) (As := [.int x1, .int x2]) mX10_pairsRunningAtMost lkX10_257 kd_0 (by decide) rfl rfl rfl rfl rfl (Nat.le_of_ble_eq_true rfl) eX10_runs_27 (k4 h1 h2 h3 h4)
        · refine (go_ldc2 csX10_202 eX10_runs_20).run ?_
          exact Run.ret (v := some (.long (-1))) (k5 h1 h2 h3 h4) ⟨rfl, eX10_runs_23⟩ rfl

set_option maxRecDepth 20000 in
theorem bX10_runs_30 {d : Nat} {Q : Option Value → St → Prop} (s0 : Int64) (σ : St) 
    (k1 : Q (some (.long s0)) σ)
    : Run MX10_runs (d + 2) 30 [none, none, none] [.long s0] σ Q := by
  exact Run.ret (v := some (.long s0)) k1 ⟨rfl, eX10_runs_30⟩ rfl

/-! CarryNets.mean -/
theorem eX10_mean_0 : decode MX10_mean.2.1 0 = .ok (.iload_n 1, 1) := by decide +kernel
theorem eX10_mean_1 : decode MX10_mean.2.1 1 = .ok (.iconst 1, 1) := by decide +kernel
theorem eX10_mean_2 : decode MX10_mean.2.1 2 = .ok (.if_icmp .lt 18, 3) := by decide +kernel
theorem eX10_mean_5 : decode MX10_mean.2.1 5 = .ok (.iload_n 1, 1) := by decide +kernel
theorem eX10_mean_6 : decode MX10_mean.2.1 6 = .ok (.bipush 15, 2) := by decide +kernel
theorem eX10_mean_8 : decode MX10_mean.2.1 8 = .ok (.if_icmp .gt 12, 3) := by decide +kernel
theorem eX10_mean_11 : decode MX10_mean.2.1 11 = .ok (.iload_n 2, 1) := by decide +kernel
theorem eX10_mean_12 : decode MX10_mean.2.1 12 = .ok (.ifCond .lt 8, 3) := by decide +kernel
theorem eX10_mean_15 : decode MX10_mean.2.1 15 = .ok (.iload_n 2, 1) := by decide +kernel
theorem eX10_mean_16 : decode MX10_mean.2.1 16 = .ok (.iconst 1, 1) := by decide +kernel
theorem eX10_mean_17 : decode MX10_mean.2.1 17 = .ok (.if_icmp .le 7, 3) := by decide +kernel
theorem eX10_mean_20 : decode MX10_mean.2.1 20 = .ok (.ldc2_w 202, 3) := by decide +kernel
theorem eX10_mean_23 : decode MX10_mean.2.1 23 = .ok (.lreturn, 1) := by decide +kernel
theorem eX10_mean_24 : decode MX10_mean.2.1 24 = .ok (.lconst 1, 1) := by decide +kernel
theorem eX10_mean_25 : decode MX10_mean.2.1 25 = .ok (.iconst 2, 1) := by decide +kernel
theorem eX10_mean_26 : decode MX10_mean.2.1 26 = .ok (.iload_n 1, 1) := by decide +kernel
theorem eX10_mean_27 : decode MX10_mean.2.1 27 = .ok (.imul, 1) := by decide +kernel
theorem eX10_mean_28 : decode MX10_mean.2.1 28 = .ok (.lshl, 1) := by decide +kernel
theorem eX10_mean_29 : decode MX10_mean.2.1 29 = .ok (.lstore_n 3, 1) := by decide +kernel
theorem eX10_mean_30 : decode MX10_mean.2.1 30 = .ok (.lconst 0, 1) := by decide +kernel
theorem eX10_mean_31 : decode MX10_mean.2.1 31 = .ok (.lstore 5, 2) := by decide +kernel
theorem eX10_mean_33 : decode MX10_mean.2.1 33 = .ok (.iconst 0, 1) := by decide +kernel
theorem eX10_mean_34 : decode MX10_mean.2.1 34 = .ok (.istore 7, 2) := by decide +kernel
theorem eX10_mean_36 : decode MX10_mean.2.1 36 = .ok (.iload 7, 2) := by decide +kernel
theorem eX10_mean_38 : decode MX10_mean.2.1 38 = .ok (.iload_n 1, 1) := by decide +kernel
theorem eX10_mean_39 : decode MX10_mean.2.1 39 = .ok (.if_icmp .ge 23, 3) := by decide +kernel
theorem eX10_mean_42 : decode MX10_mean.2.1 42 = .ok (.lload 5, 2) := by decide +kernel
theorem eX10_mean_44 : decode MX10_mean.2.1 44 = .ok (.lload_n 3, 1) := by decide +kernel
theorem eX10_mean_45 : decode MX10_mean.2.1 45 = .ok (.aload_n 0, 1) := by decide +kernel
theorem eX10_mean_46 : decode MX10_mean.2.1 46 = .ok (.iload_n 1, 1) := by decide +kernel
theorem eX10_mean_47 : decode MX10_mean.2.1 47 = .ok (.iload 7, 2) := by decide +kernel
theorem eX10_mean_49 : decode MX10_mean.2.1 49 = .ok (.invokevirtual 257, 3) := by decide +kernel
theorem eX10_mean_52 : decode MX10_mean.2.1 52 = .ok (.lsub, 1) := by decide +kernel
theorem eX10_mean_53 : decode MX10_mean.2.1 53 = .ok (.ladd, 1) := by decide +kernel
theorem eX10_mean_54 : decode MX10_mean.2.1 54 = .ok (.lstore 5, 2) := by decide +kernel
theorem eX10_mean_56 : decode MX10_mean.2.1 56 = .ok (.iinc 7 1, 3) := by decide +kernel
theorem eX10_mean_59 : decode MX10_mean.2.1 59 = .ok (.goto (-23), 3) := by decide +kernel
theorem eX10_mean_62 : decode MX10_mean.2.1 62 = .ok (.iconst 0, 1) := by decide +kernel
theorem eX10_mean_63 : decode MX10_mean.2.1 63 = .ok (.istore 7, 2) := by decide +kernel
theorem eX10_mean_65 : decode MX10_mean.2.1 65 = .ok (.iload 7, 2) := by decide +kernel
theorem eX10_mean_67 : decode MX10_mean.2.1 67 = .ok (.bipush 30, 2) := by decide +kernel
theorem eX10_mean_69 : decode MX10_mean.2.1 69 = .ok (.if_icmp .ge 30, 3) := by decide +kernel
theorem eX10_mean_72 : decode MX10_mean.2.1 72 = .ok (.lload 5, 2) := by decide +kernel
theorem eX10_mean_74 : decode MX10_mean.2.1 74 = .ok (.lload_n 3, 1) := by decide +kernel
theorem eX10_mean_75 : decode MX10_mean.2.1 75 = .ok (.lor, 1) := by decide +kernel
theorem eX10_mean_76 : decode MX10_mean.2.1 76 = .ok (.lconst 1, 1) := by decide +kernel
theorem eX10_mean_77 : decode MX10_mean.2.1 77 = .ok (.land, 1) := by decide +kernel
theorem eX10_mean_78 : decode MX10_mean.2.1 78 = .ok (.lconst 0, 1) := by decide +kernel
theorem eX10_mean_79 : decode MX10_mean.2.1 79 = .ok (.lcmp, 1) := by decide +kernel
theorem eX10_mean_80 : decode MX10_mean.2.1 80 = .ok (.ifCond .ne 19, 3) := by decide +kernel
theorem eX10_mean_83 : decode MX10_mean.2.1 83 = .ok (.lload 5, 2) := by decide +kernel
theorem eX10_mean_85 : decode MX10_mean.2.1 85 = .ok (.iconst 1, 1) := by decide +kernel
theorem eX10_mean_86 : decode MX10_mean.2.1 86 = .ok (.lshr, 1) := by decide +kernel
theorem eX10_mean_87 : decode MX10_mean.2.1 87 = .ok (.lstore 5, 2) := by decide +kernel
theorem eX10_mean_89 : decode MX10_mean.2.1 89 = .ok (.lload_n 3, 1) := by decide +kernel
theorem eX10_mean_90 : decode MX10_mean.2.1 90 = .ok (.iconst 1, 1) := by decide +kernel
theorem eX10_mean_91 : decode MX10_mean.2.1 91 = .ok (.lshr, 1) := by decide +kernel
theorem eX10_mean_92 : decode MX10_mean.2.1 92 = .ok (.lstore_n 3, 1) := by decide +kernel
theorem eX10_mean_93 : decode MX10_mean.2.1 93 = .ok (.iinc 7 1, 3) := by decide +kernel
theorem eX10_mean_96 : decode MX10_mean.2.1 96 = .ok (.goto (-31), 3) := by decide +kernel
theorem eX10_mean_99 : decode MX10_mean.2.1 99 = .ok (.iload_n 2, 1) := by decide +kernel
theorem eX10_mean_100 : decode MX10_mean.2.1 100 = .ok (.ifCond .ne 8, 3) := by decide +kernel
theorem eX10_mean_103 : decode MX10_mean.2.1 103 = .ok (.lload 5, 2) := by decide +kernel
theorem eX10_mean_105 : decode MX10_mean.2.1 105 = .ok (.goto 4, 3) := by decide +kernel
theorem eX10_mean_108 : decode MX10_mean.2.1 108 = .ok (.lload_n 3, 1) := by decide +kernel
theorem eX10_mean_109 : decode MX10_mean.2.1 109 = .ok (.lreturn, 1) := by decide +kernel
set_option maxRecDepth 20000 in
theorem bX10_mean_0 {d : Nat} {Q : Option Value → St → Prop} (x1 : Int32) (x2 : Int32) (σ : St) 
    (k1 : x1 < 1 → Q (some (.long (-1))) σ)
    (k2 : (1 : Int32) ≤ x1 → (15 : Int32) < x1 → Q (some (.long (-1))) σ)
    (k3 : (1 : Int32) ≤ x1 → x1 ≤ 15 → x2 < 0 → Q (some (.long (-1))) σ)
    (k4 : (1 : Int32) ≤ x1 → x1 ≤ 15 → (0 : Int32) ≤ x2 → x2 ≤ 1 → Run MX10_mean (d + 2) 36 [some (.ref 0), some (.int x1), some (.int x2), some (.long ((1 : Int64) <<< (((2 : Int32) * x1).toInt64 &&& 63))), none, some (.long 0), none, some (.int 0)] [] σ Q)
    (k5 : (1 : Int32) ≤ x1 → x1 ≤ 15 → (0 : Int32) ≤ x2 → (1 : Int32) < x2 → Q (some (.long (-1))) σ)
    : Run MX10_mean (d + 2) 0 [some (.ref 0), some (.int x1), some (.int x2), none, none, none, none, none] [] σ Q := by
  refine (go_iload_n 1 eX10_mean_0 rfl rfl).run ?_
  refine (go_iconst (v := 1) eX10_mean_1 rfl).run ?_
  refine (bi_lt 20 eX10_mean_2 rfl).run (fun h1 => ?_) (fun h1 => ?_)
  · refine (go_ldc2 csX10_202 eX10_mean_20).run ?_
    exact Run.ret (v := some (.long (-1))) (k1 h1) ⟨rfl, eX10_mean_23⟩ rfl
  · refine (go_iload_n 1 eX10_mean_5 rfl rfl).run ?_
    refine (go_bipush (v := 15) eX10_mean_6 rfl).run ?_
    refine (bi_gt 20 eX10_mean_8 rfl).run (fun h2 => ?_) (fun h2 => ?_)
    · refine (go_ldc2 csX10_202 eX10_mean_20).run ?_
      exact Run.ret (v := some (.long (-1))) (k2 h1 h2) ⟨rfl, eX10_mean_23⟩ rfl
    · refine (go_iload_n 2 eX10_mean_11 rfl rfl).run ?_
      refine (bz_lt 20 eX10_mean_12 rfl).run (fun h3 => ?_) (fun h3 => ?_)
      · refine (go_ldc2 csX10_202 eX10_mean_20).run ?_
        exact Run.ret (v := some (.long (-1))) (k3 h1 h2 h3) ⟨rfl, eX10_mean_23⟩ rfl
      · refine (go_iload_n 2 eX10_mean_15 rfl rfl).run ?_
        refine (go_iconst (v := 1) eX10_mean_16 rfl).run ?_
        refine (bi_le 24 eX10_mean_17 rfl).run (fun h4 => ?_) (fun h4 => ?_)
        · refine (go_lconst (v := 1) eX10_mean_24 rfl).run ?_
          refine (go_iconst (v := 2) eX10_mean_25 rfl).run ?_
          refine (go_iload_n 1 eX10_mean_26 rfl rfl).run ?_
          refine (go_imul eX10_mean_27).run ?_
          refine (go_lshl eX10_mean_28).run ?_
          refine (go_lstore_n 3 (L' := [some (.ref 0), some (.int x1), some (.int x2), some (.long ((1 : Int64) <<< (((2 : Int32) * x1).toInt64 &&& 63))), none, none, none, none]) eX10_mean_29 rfl (Nat.le_of_ble_eq_true rfl) rfl).run ?_
          refine (go_lconst (v := 0) eX10_mean_30 rfl).run ?_
          refine (go_lstore 5 (L' := [some (.ref 0), some (.int x1), some (.int x2), some (.long ((1 : Int64) <<< (((2 : Int32) * x1).toInt64 &&& 63))), none, some (.long 0), none, none]) eX10_mean_31 (Nat.le_of_ble_eq_true rfl) rfl).run ?_
          refine (go_iconst (v := 0) eX10_mean_33 rfl).run ?_
          refine (go_istore 7 (L' := [some (.ref 0), some (.int x1), some (.int x2), some (.long ((1 : Int64) <<< (((2 : Int32) * x1).toInt64 &&& 63))), none, some (.long 0), none, some (.int 0)]) eX10_mean_34 (Nat.le_of_ble_eq_true rfl) rfl).run ?_
          exact (k4 h1 h2 h3 h4)
        · refine (go_ldc2 csX10_202 eX10_mean_20).run ?_
          exact Run.ret (v := some (.long (-1))) (k5 h1 h2 h3 h4) ⟨rfl, eX10_mean_23⟩ rfl

set_option maxRecDepth 20000 in
theorem bX10_mean_36 {d : Nat} {Q : Option Value → St → Prop} (x1 : Int32) (x2 : Int32) (x3 : Int64) (x5 : Int64) (x7 : Int32) (σ : St) 
    (k1 : x1 ≤ x7 → Run MX10_mean (d + 2) 65 [none, none, some (.int x2), some (.long x3), none, some (.long x5), none, some (.int 0)] [] σ Q)
    (k2 : x7 < x1 → Ct yX10_pairsRunningAtMost MX10_pairsRunningAtMost (d + 1) [.ref 0, .int x1, .int x7] σ (fun v σ1 => Run MX10_mean (d + 2) 52 [some (.ref 0), some (.int x1), some (.int x2), some (.long x3), none, none, none, some (.int x7)] (v.toList ++ [.long x3, .long x5]) σ1 Q))
    : Run MX10_mean (d + 2) 36 [some (.ref 0), some (.int x1), some (.int x2), some (.long x3), none, some (.long x5), none, some (.int x7)] [] σ Q := by
  refine (go_iload 7 eX10_mean_36 rfl).run ?_
  refine (go_iload_n 1 eX10_mean_38 rfl rfl).run ?_
  refine (bi_ge 62 eX10_mean_39 rfl).run (fun h1 => ?_) (fun h1 => ?_)
  · refine (go_iconst (v := 0) eX10_mean_62 rfl).run ?_
    refine (go_istore 7 (L' := [some (.ref 0), some (.int x1), some (.int x2), some (.long x3), none, some (.long x5), none, some (.int 0)]) eX10_mean_63 (Nat.le_of_ble_eq_true rfl) rfl).run ?_
    refine (go_sub (L' := [none, none, some (.int x2), some (.long x3), none, some (.long x5), none, some (.int 0)]) (lsub_drop (lsub_drop (lsub_keep (lsub_keep (lsub_keep (lsub_keep (lsub_keep (lsub_keep lsub_nil))))))))).run ?_
    exact (k1 h1)
  · refine (go_lload 5 eX10_mean_42 rfl).run ?_
    refine (go_lload_n 3 eX10_mean_44 rfl rfl).run ?_
    refine (go_aload_n 0 eX10_mean_45 rfl rfl).run ?_
    refine (go_iload_n 1 eX10_mean_46 rfl rfl).run ?_
    refine (go_iload 7 eX10_mean_47 rfl).run ?_
    refine (go_sub (L' := [some (.ref 0), some (.int x1), some (.int x2), some (.long x3), none, none, none, some (.int x7)]) (lsub_keep (lsub_keep (lsub_keep (lsub_keep (lsub_keep (lsub_drop (lsub_keep (lsub_keep lsub_nil))))))))).run ?_
    exact Run.callV (d := (d + 1)) (As := [.int x1, .int x7]) mX10_pairsRunningAtMost lkX10_257 kd_0 (by decide) rfl rfl rfl rfl rfl (Nat.le_of_ble_eq_true rfl) eX10_mean_49 (k2 h1)

set_option maxRecDepth 20000 in
theorem bX10_mean_65 {d : Nat} {Q : Option Value → St → Prop} (x2 : Int32) (x3 : Int64) (x5 : Int64) (x7 : Int32) (σ : St) 
    (k1 : (30 : Int32) ≤ x7 → Q (some (.long (if x2 = 0 then x5 else x3))) σ)
    (k2 : x7 < 30 → ¬ ((x5 ||| x3) &&& 1) = 0 → Q (some (.long (if x2 = 0 then x5 else x3))) σ)
    (k3 : x7 < 30 → ((x5 ||| x3) &&& 1) = 0 → Run MX10_mean (d + 2) 65 [none, none, some (.int x2), some (.long (x3 >>> ((1 : Int32).toInt64 &&& 63))), none, some (.long (x5 >>> ((1 : Int32).toInt64 &&& 63))), none, some (.int (x7 + 1))] [] σ Q)
    : Run MX10_mean (d + 2) 65 [none, none, some (.int x2), some (.long x3), none, some (.long x5), none, some (.int x7)] [] σ Q := by
  refine (go_iload 7 eX10_mean_65 rfl).run ?_
  refine (go_bipush (v := 30) eX10_mean_67 rfl).run ?_
  refine (bi_ge 99 eX10_mean_69 rfl).run (fun h1 => ?_) (fun h1 => ?_)
  · refine (go_iload_n 2 eX10_mean_99 rfl rfl).run ?_
    have hJh2 : Run MX10_mean (d + 2) 109 [none, none, none, none, none, none, none, none] [.long (if x2 = 0 then x5 else x3)] σ Q := by
      exact Run.ret (v := some (.long (if x2 = 0 then x5 else x3))) (k1 h1) ⟨rfl, eX10_mean_109⟩ rfl
    refine (bz_ne 108 eX10_mean_100 rfl).run (fun h2 => ?_) (fun h2 => ?_)
    · refine (go_lload_n 3 eX10_mean_108 rfl rfl).run ?_
      refine (go_sub (L' := [none, none, none, none, none, none, none, none]) (lsub_keep (lsub_keep (lsub_drop (lsub_drop (lsub_keep (lsub_drop (lsub_keep (lsub_drop lsub_nil))))))))).run ?_
      first | exact hJh2 | (simp only [if_neg (h2)] at hJh2; exact hJh2) | (simp only [eq_false h2, not_false_eq_true, true_and, and_true, false_and, and_false, true_or, or_true, false_or, or_false, not_true_eq_false, not_false_eq_true] at hJh2; exact hJh2) | exact Run.eq (by simp [eq_false h2, not_false_eq_true, bI]) (by simp [eq_false h2, not_false_eq_true, bI]) rfl hJh2
    · refine (go_lload 5 eX10_mean_103 rfl).run ?_
      refine (go_goto 109 eX10_mean_105 rfl).run ?_
      refine (go_sub (L' := [none, none, none, none, none, none, none, none]) (lsub_keep (lsub_keep (lsub_drop (lsub_drop (lsub_keep (lsub_drop (lsub_keep (lsub_drop lsub_nil))))))))).run ?_
      first | exact hJh2 | (simp only [if_pos h2] at hJh2; exact hJh2) | (simp only [eq_true h2, not_true_eq_false, true_and, and_true, false_and, and_false, true_or, or_true, false_or, or_false, not_true_eq_false, not_false_eq_true] at hJh2; exact hJh2) | exact Run.eq (by simp [eq_true h2, not_true_eq_false, bI]) (by simp [eq_true h2, not_true_eq_false, bI]) rfl hJh2
  · refine (go_lload 5 eX10_mean_72 rfl).run ?_
    refine (go_lload_n 3 eX10_mean_74 rfl rfl).run ?_
    refine (go_lor eX10_mean_75).run ?_
    refine (go_lconst (v := 1) eX10_mean_76 rfl).run ?_
    refine (go_land eX10_mean_77).run ?_
    refine (go_lconst (v := 0) eX10_mean_78 rfl).run ?_
    refine (go_lcmp eX10_mean_79).run ?_
    refine (brl_ne 99 eX10_mean_80 rfl).run (fun h3 => ?_) (fun h3 => ?_)
    · refine (go_iload_n 2 eX10_mean_99 rfl rfl).run ?_
      have hJh4 : Run MX10_mean (d + 2) 109 [none, none, none, none, none, none, none, none] [.long (if x2 = 0 then x5 else x3)] σ Q := by
        exact Run.ret (v := some (.long (if x2 = 0 then x5 else x3))) (k2 h1 h3) ⟨rfl, eX10_mean_109⟩ rfl
      refine (bz_ne 108 eX10_mean_100 rfl).run (fun h4 => ?_) (fun h4 => ?_)
      · refine (go_lload_n 3 eX10_mean_108 rfl rfl).run ?_
        refine (go_sub (L' := [none, none, none, none, none, none, none, none]) (lsub_keep (lsub_keep (lsub_drop (lsub_drop (lsub_keep (lsub_drop (lsub_keep (lsub_drop lsub_nil))))))))).run ?_
        first | exact hJh4 | (simp only [if_neg (h4)] at hJh4; exact hJh4) | (simp only [eq_false h4, not_false_eq_true, true_and, and_true, false_and, and_false, true_or, or_true, false_or, or_false, not_true_eq_false, not_false_eq_true] at hJh4; exact hJh4) | exact Run.eq (by simp [eq_false h4, not_false_eq_true, bI]) (by simp [eq_false h4, not_false_eq_true, bI]) rfl hJh4
      · refine (go_lload 5 eX10_mean_103 rfl).run ?_
        refine (go_goto 109 eX10_mean_105 rfl).run ?_
        refine (go_sub (L' := [none, none, none, none, none, none, none, none]) (lsub_keep (lsub_keep (lsub_drop (lsub_drop (lsub_keep (lsub_drop (lsub_keep (lsub_drop lsub_nil))))))))).run ?_
        first | exact hJh4 | (simp only [if_pos h4] at hJh4; exact hJh4) | (simp only [eq_true h4, not_true_eq_false, true_and, and_true, false_and, and_false, true_or, or_true, false_or, or_false, not_true_eq_false, not_false_eq_true] at hJh4; exact hJh4) | exact Run.eq (by simp [eq_true h4, not_true_eq_false, bI]) (by simp [eq_true h4, not_true_eq_false, bI]) rfl hJh4
    · refine (go_lload 5 eX10_mean_83 rfl).run ?_
      refine (go_iconst (v := 1) eX10_mean_85 rfl).run ?_
      refine (go_lshr eX10_mean_86).run ?_
      refine (go_lstore 5 (L' := [none, none, some (.int x2), some (.long x3), none, some (.long (x5 >>> ((1 : Int32).toInt64 &&& 63))), none, some (.int x7)]) eX10_mean_87 (Nat.le_of_ble_eq_true rfl) rfl).run ?_
      refine (go_lload_n 3 eX10_mean_89 rfl rfl).run ?_
      refine (go_iconst (v := 1) eX10_mean_90 rfl).run ?_
      refine (go_lshr eX10_mean_91).run ?_
      refine (go_lstore_n 3 (L' := [none, none, some (.int x2), some (.long (x3 >>> ((1 : Int32).toInt64 &&& 63))), none, some (.long (x5 >>> ((1 : Int32).toInt64 &&& 63))), none, some (.int x7)]) eX10_mean_92 rfl (Nat.le_of_ble_eq_true rfl) rfl).run ?_
      refine (go_iinc 7 (v := (x7 + 1)) (L' := [none, none, some (.int x2), some (.long (x3 >>> ((1 : Int32).toInt64 &&& 63))), none, some (.long (x5 >>> ((1 : Int32).toInt64 &&& 63))), none, some (.int (x7 + 1))]) eX10_mean_93 rfl rfl (Nat.le_of_ble_eq_true rfl) rfl).run ?_
      refine (go_goto 65 eX10_mean_96 rfl).run ?_
      exact (k3 h1 h3)

set_option maxRecDepth 20000 in
theorem bX10_mean_52 {d : Nat} {Q : Option Value → St → Prop} (x1 : Int32) (x2 : Int32) (x3 : Int64) (x7 : Int32) (s0 : Int64) (s1 : Int64) (s2 : Int64) (σ : St) 
    (k1 : Run MX10_mean (d + 2) 36 [some (.ref 0), some (.int x1), some (.int x2), some (.long x3), none, some (.long (s2 + (s1 - s0))), none, some (.int (x7 + 1))] [] σ Q)
    : Run MX10_mean (d + 2) 52 [some (.ref 0), some (.int x1), some (.int x2), some (.long x3), none, none, none, some (.int x7)] [.long s0, .long s1, .long s2] σ Q := by
  refine (go_lsub eX10_mean_52).run ?_
  refine (go_ladd eX10_mean_53).run ?_
  refine (go_lstore 5 (L' := [some (.ref 0), some (.int x1), some (.int x2), some (.long x3), none, some (.long (s2 + (s1 - s0))), none, some (.int x7)]) eX10_mean_54 (Nat.le_of_ble_eq_true rfl) rfl).run ?_
  refine (go_iinc 7 (v := (x7 + 1)) (L' := [some (.ref 0), some (.int x1), some (.int x2), some (.long x3), none, some (.long (s2 + (s1 - s0))), none, some (.int (x7 + 1))]) eX10_mean_56 rfl rfl (Nat.le_of_ble_eq_true rfl) rfl).run ?_
  refine (go_goto 36 eX10_mean_59 rfl).run ?_
  exact k1

/-! CarryNets.height -/
theorem eX10_height_0 : decode MX10_height.2.1 0 = .ok (.iload_n 1, 1) := by decide +kernel
theorem eX10_height_1 : decode MX10_height.2.1 1 = .ok (.ifCond .lt 19, 3) := by decide +kernel
theorem eX10_height_4 : decode MX10_height.2.1 4 = .ok (.iload_n 1, 1) := by decide +kernel
theorem eX10_height_5 : decode MX10_height.2.1 5 = .ok (.bipush 12, 2) := by decide +kernel
theorem eX10_height_7 : decode MX10_height.2.1 7 = .ok (.if_icmp .ge 13, 3) := by decide +kernel
theorem eX10_height_10 : decode MX10_height.2.1 10 = .ok (.iload_n 2, 1) := by decide +kernel
theorem eX10_height_11 : decode MX10_height.2.1 11 = .ok (.ifCond .lt 9, 3) := by decide +kernel
theorem eX10_height_14 : decode MX10_height.2.1 14 = .ok (.iload_n 2, 1) := by decide +kernel
theorem eX10_height_15 : decode MX10_height.2.1 15 = .ok (.bipush 12, 2) := by decide +kernel
theorem eX10_height_17 : decode MX10_height.2.1 17 = .ok (.if_icmp .le 5, 3) := by decide +kernel
theorem eX10_height_20 : decode MX10_height.2.1 20 = .ok (.iconst (-1), 1) := by decide +kernel
theorem eX10_height_21 : decode MX10_height.2.1 21 = .ok (.ireturn, 1) := by decide +kernel
theorem eX10_height_22 : decode MX10_height.2.1 22 = .ok (.aload_n 0, 1) := by decide +kernel
theorem eX10_height_23 : decode MX10_height.2.1 23 = .ok (.getfield 64, 3) := by decide +kernel
theorem eX10_height_26 : decode MX10_height.2.1 26 = .ok (.iload_n 1, 1) := by decide +kernel
theorem eX10_height_27 : decode MX10_height.2.1 27 = .ok (.invokevirtual 260, 3) := by decide +kernel
theorem eX10_height_30 : decode MX10_height.2.1 30 = .ok (.istore_n 3, 1) := by decide +kernel
theorem eX10_height_31 : decode MX10_height.2.1 31 = .ok (.aload_n 0, 1) := by decide +kernel
theorem eX10_height_32 : decode MX10_height.2.1 32 = .ok (.getfield 64, 3) := by decide +kernel
theorem eX10_height_35 : decode MX10_height.2.1 35 = .ok (.iload_n 1, 1) := by decide +kernel
theorem eX10_height_36 : decode MX10_height.2.1 36 = .ok (.iload_n 2, 1) := by decide +kernel
theorem eX10_height_37 : decode MX10_height.2.1 37 = .ok (.invokevirtual 263, 3) := by decide +kernel
theorem eX10_height_40 : decode MX10_height.2.1 40 = .ok (.iload_n 3, 1) := by decide +kernel
theorem eX10_height_41 : decode MX10_height.2.1 41 = .ok (.ireturn, 1) := by decide +kernel
set_option maxRecDepth 20000 in
theorem bX10_height_0 {d : Nat} {Q : Option Value → St → Prop} (x1 : Int32) (x2 : Int32) (σ : St) 
    (k1 : x1 < 0 → Q (some (.int (-1))) σ)
    (k2 : (0 : Int32) ≤ x1 → (12 : Int32) ≤ x1 → Q (some (.int (-1))) σ)
    (k3 : (0 : Int32) ≤ x1 → x1 < 12 → x2 < 0 → Q (some (.int (-1))) σ)
    (k4 : (0 : Int32) ≤ x1 → x1 < 12 → (0 : Int32) ≤ x2 → x2 ≤ 12 → Q (some (.int (((aG (gr 27 3) x1 σ))))) (sX3_setHeight 27 x1 x2 σ))
    (k5 : (0 : Int32) ≤ x1 → x1 < 12 → (0 : Int32) ≤ x2 → (12 : Int32) < x2 → Q (some (.int (-1))) σ)
    : Run MX10_height (d + 2) 0 [some (.ref 0), some (.int x1), some (.int x2), none] [] σ Q := by
  refine (go_iload_n 1 eX10_height_0 rfl rfl).run ?_
  refine (bz_lt 20 eX10_height_1 rfl).run (fun h1 => ?_) (fun h1 => ?_)
  · refine (go_iconst (v := -1) eX10_height_20 rfl).run ?_
    exact Run.ret (v := some (.int (-1))) (k1 h1) ⟨Or.inl rfl, eX10_height_21⟩ rfl
  · refine (go_iload_n 1 eX10_height_4 rfl rfl).run ?_
    refine (go_bipush (v := 12) eX10_height_5 rfl).run ?_
    refine (bi_ge 20 eX10_height_7 rfl).run (fun h2 => ?_) (fun h2 => ?_)
    · refine (go_iconst (v := -1) eX10_height_20 rfl).run ?_
      exact Run.ret (v := some (.int (-1))) (k2 h1 h2) ⟨Or.inl rfl, eX10_height_21⟩ rfl
    · refine (go_iload_n 2 eX10_height_10 rfl rfl).run ?_
      refine (bz_lt 20 eX10_height_11 rfl).run (fun h3 => ?_) (fun h3 => ?_)
      · refine (go_iconst (v := -1) eX10_height_20 rfl).run ?_
        exact Run.ret (v := some (.int (-1))) (k3 h1 h2 h3) ⟨Or.inl rfl, eX10_height_21⟩ rfl
      · refine (go_iload_n 2 eX10_height_14 rfl rfl).run ?_
        refine (go_bipush (v := 12) eX10_height_15 rfl).run ?_
        refine (bi_le 22 eX10_height_17 rfl).run (fun h4 => ?_) (fun h4 => ?_)
        · refine (go_aload_n 0 eX10_height_22 rfl rfl).run ?_
          refine (go_getr flX10_64 rf_9_9 kd_0 gr_0_9 eX10_height_23).run ?_
          refine (go_iload_n 1 eX10_height_26 rfl rfl).run ?_
          refine Run.callV1 (d := (d + 1)) (As := [.int x1]) (r := .int (((aG (gr 27 3) x1 σ)))) mX3_heightOf lkX10_260 kd_27 (by decide) rfl rfl rfl rfl rfl (Nat.le_of_ble_eq_true rfl) eX10_height_27 (qX3_heightOf d 27 x1 σ kd_27 ) ?_
          refine (go_istore_n 3 (L' := [some (.ref 0), some (.int x1), some (.int x2), some (.int (((aG (gr 27 3) x1 σ))))]) eX10_height_30 rfl (Nat.le_of_ble_eq_true rfl) rfl).run ?_
          refine (go_aload_n 0 eX10_height_31 rfl rfl).run ?_
          refine (go_getr flX10_64 rf_9_9 kd_0 gr_0_9 eX10_height_32).run ?_
          refine (go_iload_n 1 eX10_height_35 rfl rfl).run ?_
          refine (go_iload_n 2 eX10_height_36 rfl rfl).run ?_
          refine Run.callV0 (d := (d + 1)) (As := [.int x1, .int x2]) mX3_setHeight lkX10_263 kd_27 (by decide) rfl rfl rfl rfl rfl (Nat.le_of_ble_eq_true rfl) eX10_height_37 (qX3_setHeight d 27 x1 x2 σ kd_27 ) ?_
          refine (go_iload_n 3 eX10_height_40 rfl rfl).run ?_
          exact Run.ret (v := some (.int (((aG (gr 27 3) x1 σ))))) (k4 h1 h2 h3 h4) ⟨Or.inl rfl, eX10_height_41⟩ rfl
        · refine (go_iconst (v := -1) eX10_height_20 rfl).run ?_
          exact Run.ret (v := some (.int (-1))) (k5 h1 h2 h3 h4) ⟨Or.inl rfl, eX10_height_21⟩ rfl

def sX10_height (x1 : Int32) (x2 : Int32) (σ : St) : St := (if x1 < 0 then σ else (if (12 : Int32) ≤ x1 then σ else (if x2 < 0 then σ else (if x2 ≤ 12 then sX3_setHeight 27 x1 x2 σ else σ))))
def rX10_height (x1 : Int32) (x2 : Int32) (σ : St) : Int32 := (if x1 < 0 then (-1 : Int32) else (if (12 : Int32) ≤ x1 then (-1 : Int32) else (if x2 < 0 then (-1 : Int32) else (if x2 ≤ 12 then (((aG (gr 27 3) x1 σ))) else (-1 : Int32)))))
theorem qX10_height (d : Nat) (x1 : Int32) (x2 : Int32) (σ : St) : Ct yX10_height MX10_height (d + 2) [.ref 0, .int x1, .int x2] σ (fun v σ1 => v = some (.int (rX10_height x1 x2 σ)) ∧ σ1 = sX10_height x1 x2 σ) :=
  Ct.of mX10_height.1 (Nat.le_of_ble_eq_true rfl) (bX10_height_0 x1 x2 σ   (fun h1 => ⟨by first | rfl | (simp only [sX10_height, rX10_height, eq_true h1, eq_false (i32_nle.mpr h1), true_and, and_true, false_and, and_false, true_or, or_true, false_or, or_false, not_true_eq_false, not_false_eq_true, if_true, if_false]; done) | (simp [sX10_height, rX10_height, eq_true h1, eq_false (i32_nle.mpr h1), bI]; done), by first | rfl | (simp only [sX10_height, rX10_height, eq_true h1, eq_false (i32_nle.mpr h1), true_and, and_true, false_and, and_false, true_or, or_true, false_or, or_false, not_true_eq_false, not_false_eq_true, if_true, if_false]; done) | (simp [sX10_height, rX10_height, eq_true h1, eq_false (i32_nle.mpr h1), bI]; done)⟩) (fun h1 h2 => ⟨by first | rfl | (simp only [sX10_height, rX10_height, eq_true h1, eq_false (i32_nlt.mpr h1), eq_true h2, eq_false (i32_nlt.mpr h2), true_and, and_true, false_and, and_false, true_or, or_true, false_or, or_false, not_true_eq_false, not_false_eq_true, if_true, if_false]; done) | (simp [sX10_height, rX10_height, eq_true h1, eq_false (i32_nlt.mpr h1), eq_true h2, eq_false (i32_nlt.mpr h2), bI]; done), by first | rfl | (simp only [sX10_height, rX10_height, eq_true h1, eq_false (i32_nlt.mpr h1), eq_true h2, eq_false (i32_nlt.mpr h2), true_and, and_true, false_and, and_false, true_or, or_true, false_or, or_false, not_true_eq_false, not_false_eq_true, if_true, if_false]; done) | (simp [sX10_height, rX10_height, eq_true h1, eq_false (i32_nlt.mpr h1), eq_true h2, eq_false (i32_nlt.mpr h2), bI]; done)⟩) (fun h1 h2 h3 => ⟨by first | rfl | (simp only [sX10_height, rX10_height, eq_true h1, eq_false (i32_nlt.mpr h1), eq_true h2, eq_false (i32_nle.mpr h2), eq_true h3, eq_false (i32_nle.mpr h3), true_and, and_true, false_and, and_false, true_or, or_true, false_or, or_false, not_true_eq_false, not_false_eq_true, if_true, if_false]; done) | (simp [sX10_height, rX10_height, eq_true h1, eq_false (i32_nlt.mpr h1), eq_true h2, eq_false (i32_nle.mpr h2), eq_true h3, eq_false (i32_nle.mpr h3), bI]; done), by first | rfl | (simp only [sX10_height, rX10_height, eq_true h1, eq_false (i32_nlt.mpr h1), eq_true h2, eq_false (i32_nle.mpr h2), eq_true h3, eq_false (i32_nle.mpr h3), true_and, and_true, false_and, and_false, true_or, or_true, false_or, or_false, not_true_eq_false, not_false_eq_true, if_true, if_false]; done) | (simp [sX10_height, rX10_height, eq_true h1, eq_false (i32_nlt.mpr h1), eq_true h2, eq_false (i32_nle.mpr h2), eq_true h3, eq_false (i32_nle.mpr h3), bI]; done)⟩) (fun h1 h2 h3 h4 => ⟨by first | rfl | (simp only [sX10_height, rX10_height, eq_true h1, eq_false (i32_nlt.mpr h1), eq_true h2, eq_false (i32_nle.mpr h2), eq_true h3, eq_false (i32_nlt.mpr h3), eq_true h4, eq_false (i32_nlt.mpr h4), true_and, and_true, false_and, and_false, true_or, or_true, false_or, or_false, not_true_eq_false, not_false_eq_true, if_true, if_false]; done) | (simp [sX10_height, rX10_height, eq_true h1, eq_false (i32_nlt.mpr h1), eq_true h2, eq_false (i32_nle.mpr h2), eq_true h3, eq_false (i32_nlt.mpr h3), eq_true h4, eq_false (i32_nlt.mpr h4), bI]; done), by first | rfl | (simp only [sX10_height, rX10_height, eq_true h1, eq_false (i32_nlt.mpr h1), eq_true h2, eq_false (i32_nle.mpr h2), eq_true h3, eq_false (i32_nlt.mpr h3), eq_true h4, eq_false (i32_nlt.mpr h4), true_and, and_true, false_and, and_false, true_or, or_true, false_or, or_false, not_true_eq_false, not_false_eq_true, if_true, if_false]; done) | (simp [sX10_height, rX10_height, eq_true h1, eq_false (i32_nlt.mpr h1), eq_true h2, eq_false (i32_nle.mpr h2), eq_true h3, eq_false (i32_nlt.mpr h3), eq_true h4, eq_false (i32_nlt.mpr h4), bI]; done)⟩) (fun h1 h2 h3 h4 => ⟨by first | rfl | (simp only [sX10_height, rX10_height, eq_true h1, eq_false (i32_nlt.mpr h1), eq_true h2, eq_false (i32_nle.mpr h2), eq_true h3, eq_false (i32_nlt.mpr h3), eq_true h4, eq_false (i32_nle.mpr h4), true_and, and_true, false_and, and_false, true_or, or_true, false_or, or_false, not_true_eq_false, not_false_eq_true, if_true, if_false]; done) | (simp [sX10_height, rX10_height, eq_true h1, eq_false (i32_nlt.mpr h1), eq_true h2, eq_false (i32_nle.mpr h2), eq_true h3, eq_false (i32_nlt.mpr h3), eq_true h4, eq_false (i32_nle.mpr h4), bI]; done), by first | rfl | (simp only [sX10_height, rX10_height, eq_true h1, eq_false (i32_nlt.mpr h1), eq_true h2, eq_false (i32_nle.mpr h2), eq_true h3, eq_false (i32_nlt.mpr h3), eq_true h4, eq_false (i32_nle.mpr h4), true_and, and_true, false_and, and_false, true_or, or_true, false_or, or_false, not_true_eq_false, not_false_eq_true, if_true, if_false]; done) | (simp [sX10_height, rX10_height, eq_true h1, eq_false (i32_nlt.mpr h1), eq_true h2, eq_false (i32_nle.mpr h2), eq_true h3, eq_false (i32_nlt.mpr h3), eq_true h4, eq_false (i32_nle.mpr h4), bI]; done)⟩))

/-! CarryNets.product -/
theorem eX10_product_0 : decode MX10_product.2.1 0 = .ok (.iload_n 1, 1) := by decide +kernel
theorem eX10_product_1 : decode MX10_product.2.1 1 = .ok (.iconst 1, 1) := by decide +kernel
theorem eX10_product_2 : decode MX10_product.2.1 2 = .ok (.if_icmp .lt 20, 3) := by decide +kernel
theorem eX10_product_5 : decode MX10_product.2.1 5 = .ok (.iload_n 1, 1) := by decide +kernel
theorem eX10_product_6 : decode MX10_product.2.1 6 = .ok (.bipush 6, 2) := by decide +kernel
theorem eX10_product_8 : decode MX10_product.2.1 8 = .ok (.if_icmp .gt 14, 3) := by decide +kernel
theorem eX10_product_11 : decode MX10_product.2.1 11 = .ok (.iload_n 2, 1) := by decide +kernel
theorem eX10_product_12 : decode MX10_product.2.1 12 = .ok (.iconst 1, 1) := by decide +kernel
theorem eX10_product_13 : decode MX10_product.2.1 13 = .ok (.if_icmp .lt 9, 3) := by decide +kernel
theorem eX10_product_16 : decode MX10_product.2.1 16 = .ok (.iload_n 2, 1) := by decide +kernel
theorem eX10_product_17 : decode MX10_product.2.1 17 = .ok (.bipush 6, 2) := by decide +kernel
theorem eX10_product_19 : decode MX10_product.2.1 19 = .ok (.if_icmp .le 5, 3) := by decide +kernel
theorem eX10_product_22 : decode MX10_product.2.1 22 = .ok (.iconst (-1), 1) := by decide +kernel
theorem eX10_product_23 : decode MX10_product.2.1 23 = .ok (.ireturn, 1) := by decide +kernel
theorem eX10_product_24 : decode MX10_product.2.1 24 = .ok (.aload_n 0, 1) := by decide +kernel
theorem eX10_product_25 : decode MX10_product.2.1 25 = .ok (.getfield 64, 3) := by decide +kernel
theorem eX10_product_28 : decode MX10_product.2.1 28 = .ok (.invokevirtual 267, 3) := by decide +kernel
theorem eX10_product_31 : decode MX10_product.2.1 31 = .ok (.iconst 0, 1) := by decide +kernel
theorem eX10_product_32 : decode MX10_product.2.1 32 = .ok (.istore_n 3, 1) := by decide +kernel
theorem eX10_product_33 : decode MX10_product.2.1 33 = .ok (.iload_n 3, 1) := by decide +kernel
theorem eX10_product_34 : decode MX10_product.2.1 34 = .ok (.iload_n 1, 1) := by decide +kernel
theorem eX10_product_35 : decode MX10_product.2.1 35 = .ok (.if_icmp .ge 48, 3) := by decide +kernel
theorem eX10_product_38 : decode MX10_product.2.1 38 = .ok (.iconst 0, 1) := by decide +kernel
theorem eX10_product_39 : decode MX10_product.2.1 39 = .ok (.istore 4, 2) := by decide +kernel
theorem eX10_product_41 : decode MX10_product.2.1 41 = .ok (.iload 4, 2) := by decide +kernel
theorem eX10_product_43 : decode MX10_product.2.1 43 = .ok (.iload_n 2, 1) := by decide +kernel
theorem eX10_product_44 : decode MX10_product.2.1 44 = .ok (.if_icmp .ge 33, 3) := by decide +kernel
theorem eX10_product_47 : decode MX10_product.2.1 47 = .ok (.aload_n 0, 1) := by decide +kernel
theorem eX10_product_48 : decode MX10_product.2.1 48 = .ok (.getfield 64, 3) := by decide +kernel
theorem eX10_product_51 : decode MX10_product.2.1 51 = .ok (.iload_n 3, 1) := by decide +kernel
theorem eX10_product_52 : decode MX10_product.2.1 52 = .ok (.iload 4, 2) := by decide +kernel
theorem eX10_product_54 : decode MX10_product.2.1 54 = .ok (.iadd, 1) := by decide +kernel
theorem eX10_product_55 : decode MX10_product.2.1 55 = .ok (.aload_n 0, 1) := by decide +kernel
theorem eX10_product_56 : decode MX10_product.2.1 56 = .ok (.getfield 64, 3) := by decide +kernel
theorem eX10_product_59 : decode MX10_product.2.1 59 = .ok (.iload_n 3, 1) := by decide +kernel
theorem eX10_product_60 : decode MX10_product.2.1 60 = .ok (.iload 4, 2) := by decide +kernel
theorem eX10_product_62 : decode MX10_product.2.1 62 = .ok (.iadd, 1) := by decide +kernel
theorem eX10_product_63 : decode MX10_product.2.1 63 = .ok (.invokevirtual 260, 3) := by decide +kernel
theorem eX10_product_66 : decode MX10_product.2.1 66 = .ok (.iconst 1, 1) := by decide +kernel
theorem eX10_product_67 : decode MX10_product.2.1 67 = .ok (.iadd, 1) := by decide +kernel
theorem eX10_product_68 : decode MX10_product.2.1 68 = .ok (.invokevirtual 263, 3) := by decide +kernel
theorem eX10_product_71 : decode MX10_product.2.1 71 = .ok (.iinc 4 1, 3) := by decide +kernel
theorem eX10_product_74 : decode MX10_product.2.1 74 = .ok (.goto (-33), 3) := by decide +kernel
theorem eX10_product_77 : decode MX10_product.2.1 77 = .ok (.iinc 3 1, 3) := by decide +kernel
theorem eX10_product_80 : decode MX10_product.2.1 80 = .ok (.goto (-47), 3) := by decide +kernel
theorem eX10_product_83 : decode MX10_product.2.1 83 = .ok (.aload_n 0, 1) := by decide +kernel
theorem eX10_product_84 : decode MX10_product.2.1 84 = .ok (.getfield 64, 3) := by decide +kernel
theorem eX10_product_87 : decode MX10_product.2.1 87 = .ok (.invokevirtual 270, 3) := by decide +kernel
theorem eX10_product_90 : decode MX10_product.2.1 90 = .ok (.ireturn, 1) := by decide +kernel
set_option maxRecDepth 20000 in
theorem bX10_product_0 {d : Nat} {Q : Option Value → St → Prop} (x1 : Int32) (x2 : Int32) (σ : St) 
    (k1 : x1 < 1 → Q (some (.int (-1))) σ)
    (k2 : (1 : Int32) ≤ x1 → (6 : Int32) < x1 → Q (some (.int (-1))) σ)
    (k3 : (1 : Int32) ≤ x1 → x1 ≤ 6 → x2 < 1 → Q (some (.int (-1))) σ)
    (k4 : (1 : Int32) ≤ x1 → x1 ≤ 6 → (1 : Int32) ≤ x2 → x2 ≤ 6 → Ct yX3_clear MX3_clear (d + 1) [.ref 27] σ (fun v σ1 => Run MX10_product (d + 2) 31 [some (.ref 0), some (.int x1), some (.int x2), none, none] (v.toList ++ []) σ1 Q))
    (k5 : (1 : Int32) ≤ x1 → x1 ≤ 6 → (1 : Int32) ≤ x2 → (6 : Int32) < x2 → Q (some (.int (-1))) σ)
    : Run MX10_product (d + 2) 0 [some (.ref 0), some (.int x1), some (.int x2), none, none] [] σ Q := by
  refine (go_iload_n 1 eX10_product_0 rfl rfl).run ?_
  refine (go_iconst (v := 1) eX10_product_1 rfl).run ?_
  refine (bi_lt 22 eX10_product_2 rfl).run (fun h1 => ?_) (fun h1 => ?_)
  · refine (go_iconst (v := -1) eX10_product_22 rfl).run ?_
    exact Run.ret (v := some (.int (-1))) (k1 h1) ⟨Or.inl rfl, eX10_product_23⟩ rfl
  · refine (go_iload_n 1 eX10_product_5 rfl rfl).run ?_
    refine (go_bipush (v := 6) eX10_product_6 rfl).run ?_
    refine (bi_gt 22 eX10_product_8 rfl).run (fun h2 => ?_) (fun h2 => ?_)
    · refine (go_iconst (v := -1) eX10_product_22 rfl).run ?_
      exact Run.ret (v := some (.int (-1))) (k2 h1 h2) ⟨Or.inl rfl, eX10_product_23⟩ rfl
    · refine (go_iload_n 2 eX10_product_11 rfl rfl).run ?_
      refine (go_iconst (v := 1) eX10_product_12 rfl).run ?_
      refine (bi_lt 22 eX10_product_13 rfl).run (fun h3 => ?_) (fun h3 => ?_)
      · refine (go_iconst (v := -1) eX10_product_22 rfl).run ?_
        exact Run.ret (v := some (.int (-1))) (k3 h1 h2 h3) ⟨Or.inl rfl, eX10_product_23⟩ rfl
      · refine (go_iload_n 2 eX10_product_16 rfl rfl).run ?_
        refine (go_bipush (v := 6) eX10_product_17 rfl).run ?_
        refine (bi_le 24 eX10_product_19 rfl).run (fun h4 => ?_) (fun h4 => ?_)
        · refine (go_aload_n 0 eX10_product_24 rfl rfl).run ?_
          refine (go_getr flX10_64 rf_9_9 kd_0 gr_0_9 eX10_product_25).run ?_
          exact Run.callV (d := (d + 1)) (As := []) mX3_clear lkX10_267 kd_27 (by decide) rfl rfl rfl rfl rfl (Nat.le_of_ble_eq_true rfl) eX10_product_28 (k4 h1 h2 h3 h4)
        · refine (go_iconst (v := -1) eX10_product_22 rfl).run ?_
          exact Run.ret (v := some (.int (-1))) (k5 h1 h2 h3 h4) ⟨Or.inl rfl, eX10_product_23⟩ rfl

set_option maxRecDepth 20000 in
theorem bX10_product_31 {d : Nat} {Q : Option Value → St → Prop} (x1 : Int32) (x2 : Int32) (σ : St) 
    (k1 : Run MX10_product (d + 2) 33 [some (.ref 0), some (.int x1), some (.int x2), some (.int 0), none] [] σ Q)
    : Run MX10_product (d + 2) 31 [some (.ref 0), some (.int x1), some (.int x2), none, none] [] σ Q := by
  refine (go_iconst (v := 0) eX10_product_31 rfl).run ?_
  refine (go_istore_n 3 (L' := [some (.ref 0), some (.int x1), some (.int x2), some (.int 0), none]) eX10_product_32 rfl (Nat.le_of_ble_eq_true rfl) rfl).run ?_
  exact k1

set_option maxRecDepth 20000 in
theorem bX10_product_33 {d : Nat} {Q : Option Value → St → Prop} (x1 : Int32) (x2 : Int32) (x3 : Int32) (σ : St) 
    (k1 : x1 ≤ x3 → Ct yX3_greatest MX3_greatest (d + 1) [.ref 27] σ (fun v σ1 => Run MX10_product (d + 2) 90 [none, none, none, none, none] (v.toList ++ []) σ1 Q))
    (k2 : x3 < x1 → Run MX10_product (d + 2) 41 [some (.ref 0), some (.int x1), some (.int x2), some (.int x3), some (.int 0)] [] σ Q)
    : Run MX10_product (d + 2) 33 [some (.ref 0), some (.int x1), some (.int x2), some (.int x3), none] [] σ Q := by
  refine (go_iload_n 3 eX10_product_33 rfl rfl).run ?_
  refine (go_iload_n 1 eX10_product_34 rfl rfl).run ?_
  refine (bi_ge 83 eX10_product_35 rfl).run (fun h1 => ?_) (fun h1 => ?_)
  · refine (go_aload_n 0 eX10_product_83 rfl rfl).run ?_
    refine (go_getr flX10_64 rf_9_9 kd_0 gr_0_9 eX10_product_84).run ?_
    refine (go_sub (L' := [none, none, none, none, none]) (lsub_drop (lsub_drop (lsub_drop (lsub_drop (lsub_keep lsub_nil)))))).run ?_
    exact Run.callV (d := (d + 1)) (As := []) mX3_greatest lkX10_270 kd_27 (by decide) rfl rfl rfl rfl rfl (Nat.le_of_ble_eq_true rfl) eX10_product_87 (k1 h1)
  · refine (go_iconst (v := 0) eX10_product_38 rfl).run ?_
    refine (go_istore 4 (L' := [some (.ref 0), some (.int x1), some (.int x2), some (.int x3), some (.int 0)]) eX10_product_39 (Nat.le_of_ble_eq_true rfl) rfl).run ?_
    exact (k2 h1)

set_option maxRecDepth 20000 in
theorem bX10_product_90 {d : Nat} {Q : Option Value → St → Prop} (s0 : Int32) (σ : St) 
    (k1 : Q (some (.int s0)) σ)
    : Run MX10_product (d + 2) 90 [none, none, none, none, none] [.int s0] σ Q := by
  exact Run.ret (v := some (.int s0)) k1 ⟨Or.inl rfl, eX10_product_90⟩ rfl

set_option maxRecDepth 20000 in
theorem bX10_product_41 {d : Nat} {Q : Option Value → St → Prop} (x1 : Int32) (x2 : Int32) (x3 : Int32) (x4 : Int32) (σ : St) 
    (k1 : x2 ≤ x4 → Run MX10_product (d + 2) 33 [some (.ref 0), some (.int x1), some (.int x2), some (.int (x3 + 1)), none] [] σ Q)
    (k2 : x4 < x2 → Run MX10_product (d + 2) 41 [some (.ref 0), some (.int x1), some (.int x2), some (.int x3), some (.int (x4 + 1))] [] (sX3_setHeight 27 (x3 + x4) ((((aG (gr 27 3) (x3 + x4) σ))) + 1) σ) Q)
    : Run MX10_product (d + 2) 41 [some (.ref 0), some (.int x1), some (.int x2), some (.int x3), some (.int x4)] [] σ Q := by
  refine (go_iload 4 eX10_product_41 rfl).run ?_
  refine (go_iload_n 2 eX10_product_43 rfl rfl).run ?_
  refine (bi_ge 77 eX10_product_44 rfl).run (fun h1 => ?_) (fun h1 => ?_)
  · refine (go_iinc 3 (v := (x3 + 1)) (L' := [some (.ref 0), some (.int x1), some (.int x2), some (.int (x3 + 1)), some (.int x4)]) eX10_product_77 rfl rfl (Nat.le_of_ble_eq_true rfl) rfl).run ?_
    refine (go_goto 33 eX10_product_80 rfl).run ?_
    refine (go_sub (L' := [some (.ref 0), some (.int x1), some (.int x2), some (.int (x3 + 1)), none]) (lsub_keep (lsub_keep (lsub_keep (lsub_keep (lsub_drop lsub_nil)))))).run ?_
    exact (k1 h1)
  · refine (go_aload_n 0 eX10_product_47 rfl rfl).run ?_
    refine (go_getr flX10_64 rf_9_9 kd_0 gr_0_9 eX10_product_48).run ?_
    refine (go_iload_n 3 eX10_product_51 rfl rfl).run ?_
    refine (go_iload 4 eX10_product_52 rfl).run ?_
    refine (go_iadd eX10_product_54).run ?_
    refine (go_aload_n 0 eX10_product_55 rfl rfl).run ?_
    refine (go_getr flX10_64 rf_9_9 kd_0 gr_0_9 eX10_product_56).run ?_
    refine (go_iload_n 3 eX10_product_59 rfl rfl).run ?_
    refine (go_iload 4 eX10_product_60 rfl).run ?_
    refine (go_iadd eX10_product_62).run ?_
    refine Run.callV1 (d := (d + 1)) (As := [.int (x3 + x4)]) (r := .int (((aG (gr 27 3) (x3 + x4) σ)))) mX3_heightOf lkX10_260 kd_27 (by decide) rfl rfl rfl rfl rfl (Nat.le_of_ble_eq_true rfl) eX10_product_63 (qX3_heightOf d 27 (x3 + x4) σ kd_27 ) ?_
    refine (go_iconst (v := 1) eX10_product_66 rfl).run ?_
    refine (go_iadd eX10_product_67).run ?_
    refine Run.callV0 (d := (d + 1)) (As := [.int (x3 + x4), .int ((((aG (gr 27 3) (x3 + x4) σ))) + 1)]) mX3_setHeight lkX10_263 kd_27 (by decide) rfl rfl rfl rfl rfl (Nat.le_of_ble_eq_true rfl) eX10_product_68 (qX3_setHeight d 27 (x3 + x4) ((((aG (gr 27 3) (x3 + x4) σ))) + 1) σ kd_27 ) ?_
    refine (go_iinc 4 (v := (x4 + 1)) (L' := [some (.ref 0), some (.int x1), some (.int x2), some (.int x3), some (.int (x4 + 1))]) eX10_product_71 rfl rfl (Nat.le_of_ble_eq_true rfl) rfl).run ?_
    refine (go_goto 41 eX10_product_74 rfl).run ?_
    exact (k2 h1)

/-! CarryNets.down -/
theorem eX10_down_0 : decode MX10_down.2.1 0 = .ok (.iload_n 1, 1) := by decide +kernel
theorem eX10_down_1 : decode MX10_down.2.1 1 = .ok (.ifCond .lt 8, 3) := by decide +kernel
theorem eX10_down_4 : decode MX10_down.2.1 4 = .ok (.iload_n 1, 1) := by decide +kernel
theorem eX10_down_5 : decode MX10_down.2.1 5 = .ok (.iconst 1, 1) := by decide +kernel
theorem eX10_down_6 : decode MX10_down.2.1 6 = .ok (.if_icmp .le 5, 3) := by decide +kernel
theorem eX10_down_9 : decode MX10_down.2.1 9 = .ok (.iconst (-1), 1) := by decide +kernel
theorem eX10_down_10 : decode MX10_down.2.1 10 = .ok (.ireturn, 1) := by decide +kernel
theorem eX10_down_11 : decode MX10_down.2.1 11 = .ok (.aload_n 0, 1) := by decide +kernel
theorem eX10_down_12 : decode MX10_down.2.1 12 = .ok (.getfield 64, 3) := by decide +kernel
theorem eX10_down_15 : decode MX10_down.2.1 15 = .ok (.invokevirtual 273, 3) := by decide +kernel
theorem eX10_down_18 : decode MX10_down.2.1 18 = .ok (.ifCond .eq 6, 3) := by decide +kernel
theorem eX10_down_21 : decode MX10_down.2.1 21 = .ok (.bipush (-2), 2) := by decide +kernel
theorem eX10_down_23 : decode MX10_down.2.1 23 = .ok (.ireturn, 1) := by decide +kernel
theorem eX10_down_24 : decode MX10_down.2.1 24 = .ok (.aload_n 0, 1) := by decide +kernel
theorem eX10_down_25 : decode MX10_down.2.1 25 = .ok (.getfield 64, 3) := by decide +kernel
theorem eX10_down_28 : decode MX10_down.2.1 28 = .ok (.invokevirtual 276, 3) := by decide +kernel
theorem eX10_down_31 : decode MX10_down.2.1 31 = .ok (.aload_n 0, 1) := by decide +kernel
theorem eX10_down_32 : decode MX10_down.2.1 32 = .ok (.getfield 64, 3) := by decide +kernel
theorem eX10_down_35 : decode MX10_down.2.1 35 = .ok (.iload_n 1, 1) := by decide +kernel
theorem eX10_down_36 : decode MX10_down.2.1 36 = .ok (.invokevirtual 279, 3) := by decide +kernel
theorem eX10_down_39 : decode MX10_down.2.1 39 = .ok (.aload_n 0, 1) := by decide +kernel
theorem eX10_down_40 : decode MX10_down.2.1 40 = .ok (.getfield 64, 3) := by decide +kernel
theorem eX10_down_43 : decode MX10_down.2.1 43 = .ok (.getfield 282, 3) := by decide +kernel
theorem eX10_down_46 : decode MX10_down.2.1 46 = .ok (.ireturn, 1) := by decide +kernel
set_option maxRecDepth 20000 in
theorem bX10_down_0 {d : Nat} {Q : Option Value → St → Prop} (x1 : Int32) (σ : St) 
    (k1 : x1 < 0 → Q (some (.int (-1))) σ)
    (k2 : (0 : Int32) ≤ x1 → x1 ≤ 1 → Ct yX3_done MX3_done (d + 4) [.ref 27] σ (fun v σ1 => Run MX10_down (d + 5) 18 [some (.ref 0), some (.int x1)] (v.toList ++ []) σ1 Q))
    (k3 : (0 : Int32) ≤ x1 → (1 : Int32) < x1 → Q (some (.int (-1))) σ)
    : Run MX10_down (d + 5) 0 [some (.ref 0), some (.int x1)] [] σ Q := by
  refine (go_iload_n 1 eX10_down_0 rfl rfl).run ?_
  refine (bz_lt 9 eX10_down_1 rfl).run (fun h1 => ?_) (fun h1 => ?_)
  · refine (go_iconst (v := -1) eX10_down_9 rfl).run ?_
    exact Run.ret (v := some (.int (-1))) (k1 h1) ⟨Or.inl rfl, eX10_down_10⟩ rfl
  · refine (go_iload_n 1 eX10_down_4 rfl rfl).run ?_
    refine (go_iconst (v := 1) eX10_down_5 rfl).run ?_
    refine (bi_le 11 eX10_down_6 rfl).run (fun h2 => ?_) (fun h2 => ?_)
    · refine (go_aload_n 0 eX10_down_11 rfl rfl).run ?_
      refine (go_getr flX10_64 rf_9_9 kd_0 gr_0_9 eX10_down_12).run ?_
      exact Run.callV (d := (d + 4)) (As := []) mX3_done lkX10_273 kd_27 (by decide) rfl rfl rfl rfl rfl (Nat.le_of_ble_eq_true rfl) eX10_down_15 (k2 h1 h2)
    · refine (go_iconst (v := -1) eX10_down_9 rfl).run ?_
      exact Run.ret (v := some (.int (-1))) (k3 h1 h2) ⟨Or.inl rfl, eX10_down_10⟩ rfl

set_option maxRecDepth 20000 in
theorem bX10_down_18 {d : Nat} {Q : Option Value → St → Prop} (x1 : Int32) (s0 : Int32) (σ : St) 
    (k1 : s0 = 0 → Ct yX3_bringDown MX3_bringDown (d + 4) [.ref 27, .int x1] (sX3_clearTallies 27 σ) (fun v σ1 => Run MX10_down (d + 5) 39 [some (.ref 0), none] (v.toList ++ []) σ1 Q))
    (k2 : ¬ s0 = 0 → Q (some (.int (-2))) σ)
    : Run MX10_down (d + 5) 18 [some (.ref 0), some (.int x1)] [.int s0] σ Q := by
  refine (bz_eq 24 eX10_down_18 rfl).run (fun h1 => ?_) (fun h1 => ?_)
  · refine (go_aload_n 0 eX10_down_24 rfl rfl).run ?_
    refine (go_getr flX10_64 rf_9_9 kd_0 gr_0_9 eX10_down_25).run ?_
    refine Run.callV0 (d := (d + 4)) (As := []) mX3_clearTallies lkX10_276 kd_27 (by decide) rfl rfl rfl rfl rfl (Nat.le_of_ble_eq_true rfl) eX10_down_28 (qX3_clearTallies (d + 4) 27 σ kd_27 ) ?_
    refine (go_aload_n 0 eX10_down_31 rfl rfl).run ?_
    refine (go_getr flX10_64 rf_9_9 kd_0 gr_0_9 eX10_down_32).run ?_
    refine (go_iload_n 1 eX10_down_35 rfl rfl).run ?_
    refine (go_sub (L' := [some (.ref 0), none]) (lsub_keep (lsub_drop lsub_nil))).run ?_
    exact Run.callV (d := (d + 4)) (As := [.int x1]) mX3_bringDown lkX10_279 kd_27 (by decide) rfl rfl rfl rfl rfl (Nat.le_of_ble_eq_true rfl) eX10_down_36 (k1 h1)
  · refine (go_bipush (v := -2) eX10_down_21 rfl).run ?_
    exact Run.ret (v := some (.int (-2))) (k2 h1) ⟨Or.inl rfl, eX10_down_23⟩ rfl

set_option maxRecDepth 20000 in
theorem bX10_down_39 {d : Nat} {Q : Option Value → St → Prop} (σ : St) 
    (k1 : Q (some (.int (σ.1 27 0))) σ)
    : Run MX10_down (d + 5) 39 [some (.ref 0), none] [] σ Q := by
  refine (go_aload_n 0 eX10_down_39 rfl rfl).run ?_
  refine (go_getr flX10_64 rf_9_9 kd_0 gr_0_9 eX10_down_40).run ?_
  refine (go_geti flX10_282 rf_3_0 kd_27 eX10_down_43).run ?_
  exact Run.ret (v := some (.int (σ.1 27 0))) k1 ⟨Or.inl rfl, eX10_down_46⟩ rfl

/-! CarryNets.downs -/
theorem eX10_downs_0 : decode MX10_downs.2.1 0 = .ok (.iload_n 1, 1) := by decide +kernel
theorem eX10_downs_1 : decode MX10_downs.2.1 1 = .ok (.ifCond .lt 17, 3) := by decide +kernel
theorem eX10_downs_4 : decode MX10_downs.2.1 4 = .ok (.iload_n 1, 1) := by decide +kernel
theorem eX10_downs_5 : decode MX10_downs.2.1 5 = .ok (.iconst 1, 1) := by decide +kernel
theorem eX10_downs_6 : decode MX10_downs.2.1 6 = .ok (.if_icmp .gt 12, 3) := by decide +kernel
theorem eX10_downs_9 : decode MX10_downs.2.1 9 = .ok (.iload_n 2, 1) := by decide +kernel
theorem eX10_downs_10 : decode MX10_downs.2.1 10 = .ok (.ifCond .lt 8, 3) := by decide +kernel
theorem eX10_downs_13 : decode MX10_downs.2.1 13 = .ok (.iload_n 2, 1) := by decide +kernel
theorem eX10_downs_14 : decode MX10_downs.2.1 14 = .ok (.iconst 3, 1) := by decide +kernel
theorem eX10_downs_15 : decode MX10_downs.2.1 15 = .ok (.if_icmp .le 5, 3) := by decide +kernel
theorem eX10_downs_18 : decode MX10_downs.2.1 18 = .ok (.iconst (-1), 1) := by decide +kernel
theorem eX10_downs_19 : decode MX10_downs.2.1 19 = .ok (.ireturn, 1) := by decide +kernel
theorem eX10_downs_20 : decode MX10_downs.2.1 20 = .ok (.aload_n 0, 1) := by decide +kernel
theorem eX10_downs_21 : decode MX10_downs.2.1 21 = .ok (.getfield 64, 3) := by decide +kernel
theorem eX10_downs_24 : decode MX10_downs.2.1 24 = .ok (.invokevirtual 273, 3) := by decide +kernel
theorem eX10_downs_27 : decode MX10_downs.2.1 27 = .ok (.ifCond .eq 6, 3) := by decide +kernel
theorem eX10_downs_30 : decode MX10_downs.2.1 30 = .ok (.bipush (-2), 2) := by decide +kernel
theorem eX10_downs_32 : decode MX10_downs.2.1 32 = .ok (.ireturn, 1) := by decide +kernel
theorem eX10_downs_33 : decode MX10_downs.2.1 33 = .ok (.aload_n 0, 1) := by decide +kernel
theorem eX10_downs_34 : decode MX10_downs.2.1 34 = .ok (.getfield 68, 3) := by decide +kernel
theorem eX10_downs_37 : decode MX10_downs.2.1 37 = .ok (.aload_n 0, 1) := by decide +kernel
theorem eX10_downs_38 : decode MX10_downs.2.1 38 = .ok (.getfield 64, 3) := by decide +kernel
theorem eX10_downs_41 : decode MX10_downs.2.1 41 = .ok (.invokevirtual 285, 3) := by decide +kernel
theorem eX10_downs_44 : decode MX10_downs.2.1 44 = .ok (.aload_n 0, 1) := by decide +kernel
theorem eX10_downs_45 : decode MX10_downs.2.1 45 = .ok (.getfield 68, 3) := by decide +kernel
theorem eX10_downs_48 : decode MX10_downs.2.1 48 = .ok (.invokevirtual 276, 3) := by decide +kernel
theorem eX10_downs_51 : decode MX10_downs.2.1 51 = .ok (.iconst 0, 1) := by decide +kernel
theorem eX10_downs_52 : decode MX10_downs.2.1 52 = .ok (.istore_n 3, 1) := by decide +kernel
theorem eX10_downs_53 : decode MX10_downs.2.1 53 = .ok (.iload_n 3, 1) := by decide +kernel
theorem eX10_downs_54 : decode MX10_downs.2.1 54 = .ok (.sipush 144, 3) := by decide +kernel
theorem eX10_downs_57 : decode MX10_downs.2.1 57 = .ok (.if_icmp .ge 27, 3) := by decide +kernel
theorem eX10_downs_60 : decode MX10_downs.2.1 60 = .ok (.aload_n 0, 1) := by decide +kernel
theorem eX10_downs_61 : decode MX10_downs.2.1 61 = .ok (.getfield 68, 3) := by decide +kernel
theorem eX10_downs_64 : decode MX10_downs.2.1 64 = .ok (.invokevirtual 273, 3) := by decide +kernel
theorem eX10_downs_67 : decode MX10_downs.2.1 67 = .ok (.ifCond .ne 17, 3) := by decide +kernel
theorem eX10_downs_70 : decode MX10_downs.2.1 70 = .ok (.aload_n 0, 1) := by decide +kernel
theorem eX10_downs_71 : decode MX10_downs.2.1 71 = .ok (.getfield 68, 3) := by decide +kernel
theorem eX10_downs_74 : decode MX10_downs.2.1 74 = .ok (.iload_n 1, 1) := by decide +kernel
theorem eX10_downs_75 : decode MX10_downs.2.1 75 = .ok (.invokevirtual 279, 3) := by decide +kernel
theorem eX10_downs_78 : decode MX10_downs.2.1 78 = .ok (.iinc 3 1, 3) := by decide +kernel
theorem eX10_downs_81 : decode MX10_downs.2.1 81 = .ok (.goto (-28), 3) := by decide +kernel
theorem eX10_downs_84 : decode MX10_downs.2.1 84 = .ok (.iload_n 2, 1) := by decide +kernel
theorem eX10_downs_85 : decode MX10_downs.2.1 85 = .ok (.tableswitch 45 0 2 #[27, 29, 37], 27) := by decide +kernel
theorem eX10_downs_112 : decode MX10_downs.2.1 112 = .ok (.iload_n 3, 1) := by decide +kernel
theorem eX10_downs_113 : decode MX10_downs.2.1 113 = .ok (.ireturn, 1) := by decide +kernel
theorem eX10_downs_114 : decode MX10_downs.2.1 114 = .ok (.aload_n 0, 1) := by decide +kernel
theorem eX10_downs_115 : decode MX10_downs.2.1 115 = .ok (.getfield 68, 3) := by decide +kernel
theorem eX10_downs_118 : decode MX10_downs.2.1 118 = .ok (.getfield 282, 3) := by decide +kernel
theorem eX10_downs_121 : decode MX10_downs.2.1 121 = .ok (.ireturn, 1) := by decide +kernel
theorem eX10_downs_122 : decode MX10_downs.2.1 122 = .ok (.aload_n 0, 1) := by decide +kernel
theorem eX10_downs_123 : decode MX10_downs.2.1 123 = .ok (.getfield 68, 3) := by decide +kernel
theorem eX10_downs_126 : decode MX10_downs.2.1 126 = .ok (.getfield 289, 3) := by decide +kernel
theorem eX10_downs_129 : decode MX10_downs.2.1 129 = .ok (.ireturn, 1) := by decide +kernel
theorem eX10_downs_130 : decode MX10_downs.2.1 130 = .ok (.aload_n 0, 1) := by decide +kernel
theorem eX10_downs_131 : decode MX10_downs.2.1 131 = .ok (.getfield 68, 3) := by decide +kernel
theorem eX10_downs_134 : decode MX10_downs.2.1 134 = .ok (.getfield 292, 3) := by decide +kernel
theorem eX10_downs_137 : decode MX10_downs.2.1 137 = .ok (.ireturn, 1) := by decide +kernel
set_option maxRecDepth 20000 in
theorem bX10_downs_0 {d : Nat} {Q : Option Value → St → Prop} (x1 : Int32) (x2 : Int32) (σ : St) 
    (k1 : x1 < 0 → Q (some (.int (-1))) σ)
    (k2 : (0 : Int32) ≤ x1 → (1 : Int32) < x1 → Q (some (.int (-1))) σ)
    (k3 : (0 : Int32) ≤ x1 → x1 ≤ 1 → x2 < 0 → Q (some (.int (-1))) σ)
    (k4 : (0 : Int32) ≤ x1 → x1 ≤ 1 → (0 : Int32) ≤ x2 → x2 ≤ 3 → Ct yX3_done MX3_done (d + 4) [.ref 27] σ (fun v σ1 => Run MX10_downs (d + 5) 27 [some (.ref 0), some (.int x1), some (.int x2), none] (v.toList ++ []) σ1 Q))
    (k5 : (0 : Int32) ≤ x1 → x1 ≤ 1 → (0 : Int32) ≤ x2 → (3 : Int32) < x2 → Q (some (.int (-1))) σ)
    : Run MX10_downs (d + 5) 0 [some (.ref 0), some (.int x1), some (.int x2), none] [] σ Q := by
  refine (go_iload_n 1 eX10_downs_0 rfl rfl).run ?_
  refine (bz_lt 18 eX10_downs_1 rfl).run (fun h1 => ?_) (fun h1 => ?_)
  · refine (go_iconst (v := -1) eX10_downs_18 rfl).run ?_
    exact Run.ret (v := some (.int (-1))) (k1 h1) ⟨Or.inl rfl, eX10_downs_19⟩ rfl
  · refine (go_iload_n 1 eX10_downs_4 rfl rfl).run ?_
    refine (go_iconst (v := 1) eX10_downs_5 rfl).run ?_
    refine (bi_gt 18 eX10_downs_6 rfl).run (fun h2 => ?_) (fun h2 => ?_)
    · refine (go_iconst (v := -1) eX10_downs_18 rfl).run ?_
      exact Run.ret (v := some (.int (-1))) (k2 h1 h2) ⟨Or.inl rfl, eX10_downs_19⟩ rfl
    · refine (go_iload_n 2 eX10_downs_9 rfl rfl).run ?_
      refine (bz_lt 18 eX10_downs_10 rfl).run (fun h3 => ?_) (fun h3 => ?_)
      · refine (go_iconst (v := -1) eX10_downs_18 rfl).run ?_
        exact Run.ret (v := some (.int (-1))) (k3 h1 h2 h3) ⟨Or.inl rfl, eX10_downs_19⟩ rfl
      · refine (go_iload_n 2 eX10_downs_13 rfl rfl).run ?_
        refine (go_iconst (v := 3) eX10_downs_14 rfl).run ?_
        refine (bi_le 20 eX10_downs_15 rfl).run (fun h4 => ?_) (fun h4 => ?_)
        · refine (go_aload_n 0 eX10_downs_20 rfl rfl).run ?_
          refine (go_getr flX10_64 rf_9_9 kd_0 gr_0_9 eX10_downs_21).run ?_
          exact Run.callV (d := (d + 4)) (As := []) mX3_done lkX10_273 kd_27 (by decide) rfl rfl rfl rfl rfl (Nat.le_of_ble_eq_true rfl) eX10_downs_24 (k4 h1 h2 h3 h4)
        · refine (go_iconst (v := -1) eX10_downs_18 rfl).run ?_
          exact Run.ret (v := some (.int (-1))) (k5 h1 h2 h3 h4) ⟨Or.inl rfl, eX10_downs_19⟩ rfl

set_option maxRecDepth 20000 in
theorem bX10_downs_27 {d : Nat} {Q : Option Value → St → Prop} (x1 : Int32) (x2 : Int32) (s0 : Int32) (σ : St) 
    (k1 : s0 = 0 → Ct yX3_copy MX3_copy (d + 4) [.ref 29, .ref 27] σ (fun v σ1 => Run MX10_downs (d + 5) 44 [some (.ref 0), some (.int x1), some (.int x2), none] (v.toList ++ []) σ1 Q))
    (k2 : ¬ s0 = 0 → Q (some (.int (-2))) σ)
    : Run MX10_downs (d + 5) 27 [some (.ref 0), some (.int x1), some (.int x2), none] [.int s0] σ Q := by
  refine (bz_eq 33 eX10_downs_27 rfl).run (fun h1 => ?_) (fun h1 => ?_)
  · refine (go_aload_n 0 eX10_downs_33 rfl rfl).run ?_
    refine (go_getr flX10_68 rf_9_10 kd_0 gr_0_10 eX10_downs_34).run ?_
    refine (go_aload_n 0 eX10_downs_37 rfl rfl).run ?_
    refine (go_getr flX10_64 rf_9_9 kd_0 gr_0_9 eX10_downs_38).run ?_
    exact Run.callV (d := (d + 4)) (As := [.ref 27]) mX3_copy lkX10_285 kd_29 (by decide) rfl rfl rfl rfl rfl (Nat.le_of_ble_eq_true rfl) eX10_downs_41 (k1 h1)
  · refine (go_bipush (v := -2) eX10_downs_30 rfl).run ?_
    exact Run.ret (v := some (.int (-2))) (k2 h1) ⟨Or.inl rfl, eX10_downs_32⟩ rfl

set_option maxRecDepth 20000 in
theorem bX10_downs_44 {d : Nat} {Q : Option Value → St → Prop} (x1 : Int32) (x2 : Int32) (σ : St) 
    (k1 : Run MX10_downs (d + 5) 53 [some (.ref 0), some (.int x1), some (.int x2), some (.int 0)] [] (sX3_clearTallies 29 σ) Q)
    : Run MX10_downs (d + 5) 44 [some (.ref 0), some (.int x1), some (.int x2), none] [] σ Q := by
  refine (go_aload_n 0 eX10_downs_44 rfl rfl).run ?_
  refine (go_getr flX10_68 rf_9_10 kd_0 gr_0_10 eX10_downs_45).run ?_
  refine Run.callV0 (d := (d + 4)) (As := []) mX3_clearTallies lkX10_276 kd_29 (by decide) rfl rfl rfl rfl rfl (Nat.le_of_ble_eq_true rfl) eX10_downs_48 (qX3_clearTallies (d + 4) 29 σ kd_29 ) ?_
  refine (go_iconst (v := 0) eX10_downs_51 rfl).run ?_
  refine (go_istore_n 3 (L' := [some (.ref 0), some (.int x1), some (.int x2), some (.int 0)]) eX10_downs_52 rfl (Nat.le_of_ble_eq_true rfl) rfl).run ?_
  exact k1

set_option maxRecDepth 20000 in
theorem bX10_downs_53 {d : Nat} {Q : Option Value → St → Prop} (x1 : Int32) (x2 : Int32) (x3 : Int32) (σ : St) 
    (k1 : (144 : Int32) ≤ x3 → x2 = 0 → Q (some (.int x3)) σ)
    (k2 : (144 : Int32) ≤ x3 → x2 = 1 → Q (some (.int (σ.1 29 0))) σ)
    (k3 : (144 : Int32) ≤ x3 → x2 = 2 → Q (some (.int (σ.1 29 1))) σ)
    (k4 : (144 : Int32) ≤ x3 → (x2.toInt < 0 ∨ 2 < x2.toInt) → Q (some (.int (σ.1 29 2))) σ)
    (k5 : x3 < 144 → Ct yX3_done MX3_done (d + 4) [.ref 29] σ (fun v σ1 => Run MX10_downs (d + 5) 67 [some (.ref 0), some (.int x1), some (.int x2), some (.int x3)] (v.toList ++ []) σ1 Q))
    : Run MX10_downs (d + 5) 53 [some (.ref 0), some (.int x1), some (.int x2), some (.int x3)] [] σ Q := by
  refine (go_iload_n 3 eX10_downs_53 rfl rfl).run ?_
  refine (go_sipush (v := 144) eX10_downs_54 rfl).run ?_
  refine (bi_ge 84 eX10_downs_57 rfl).run (fun h1 => ?_) (fun h1 => ?_)
  · refine (go_iload_n 2 eX10_downs_84 rfl rfl).run ?_
    by_cases h2 : x2 = 0
    · refine (go_tableIn 112 eX10_downs_85 (by rw [h2]; decide) (by rw [h2]; decide) (by rw [h2]; rfl) rfl).run ?_
      refine (go_iload_n 3 eX10_downs_112 rfl rfl).run ?_
      exact Run.ret (v := some (.int x3)) (k1 h1 h2) ⟨Or.inl rfl, eX10_downs_113⟩ rfl
    have nh2_0 := h2
    clear h2
    by_cases h2 : x2 = 1
    · refine (go_tableIn 114 eX10_downs_85 (by rw [h2]; decide) (by rw [h2]; decide) (by rw [h2]; rfl) rfl).run ?_
      refine (go_aload_n 0 eX10_downs_114 rfl rfl).run ?_
      refine (go_getr flX10_68 rf_9_10 kd_0 gr_0_10 eX10_downs_115).run ?_
      refine (go_geti flX10_282 rf_3_0 kd_29 eX10_downs_118).run ?_
      exact Run.ret (v := some (.int (σ.1 29 0))) (k2 h1 h2) ⟨Or.inl rfl, eX10_downs_121⟩ rfl
    have nh2_1 := h2
    clear h2
    by_cases h2 : x2 = 2
    · refine (go_tableIn 122 eX10_downs_85 (by rw [h2]; decide) (by rw [h2]; decide) (by rw [h2]; rfl) rfl).run ?_
      refine (go_aload_n 0 eX10_downs_122 rfl rfl).run ?_
      refine (go_getr flX10_68 rf_9_10 kd_0 gr_0_10 eX10_downs_123).run ?_
      refine (go_geti flX10_289 rf_3_1 kd_29 eX10_downs_126).run ?_
      exact Run.ret (v := some (.int (σ.1 29 1))) (k3 h1 h2) ⟨Or.inl rfl, eX10_downs_129⟩ rfl
    have nh2_2 := h2
    clear h2
    have h2 : x2.toInt < 0 ∨ 2 < x2.toInt := by simp only [← Int32.toInt_inj] at nh2_0 nh2_1 nh2_2; simp at nh2_0 nh2_1 nh2_2; omega
    refine (go_tableOut 130 eX10_downs_85 h2 rfl).run ?_
    refine (go_aload_n 0 eX10_downs_130 rfl rfl).run ?_
    refine (go_getr flX10_68 rf_9_10 kd_0 gr_0_10 eX10_downs_131).run ?_
    refine (go_geti flX10_292 rf_3_2 kd_29 eX10_downs_134).run ?_
    exact Run.ret (v := some (.int (σ.1 29 2))) (k4 h1 h2) ⟨Or.inl rfl, eX10_downs_137⟩ rfl
  · refine (go_aload_n 0 eX10_downs_60 rfl rfl).run ?_
    refine (go_getr flX10_68 rf_9_10 kd_0 gr_0_10 eX10_downs_61).run ?_
    exact Run.callV (d := (d + 4)) (As := []) mX3_done lkX10_273 kd_29 (by decide) rfl rfl rfl rfl rfl (Nat.le_of_ble_eq_true rfl) eX10_downs_64 (k5 h1)

set_option maxRecDepth 20000 in
theorem bX10_downs_67 {d : Nat} {Q : Option Value → St → Prop} (x1 : Int32) (x2 : Int32) (x3 : Int32) (s0 : Int32) (σ : St) 
    (k1 : ¬ s0 = 0 → x2 = 0 → Q (some (.int x3)) σ)
    (k2 : ¬ s0 = 0 → x2 = 1 → Q (some (.int (σ.1 29 0))) σ)
    (k3 : ¬ s0 = 0 → x2 = 2 → Q (some (.int (σ.1 29 1))) σ)
    (k4 : ¬ s0 = 0 → (x2.toInt < 0 ∨ 2 < x2.toInt) → Q (some (.int (σ.1 29 2))) σ)
    (k5 : s0 = 0 → Ct yX3_bringDown MX3_bringDown (d + 4) [.ref 29, .int x1] σ (fun v σ1 => Run MX10_downs (d + 5) 78 [some (.ref 0), some (.int x1), some (.int x2), some (.int x3)] (v.toList ++ []) σ1 Q))
    : Run MX10_downs (d + 5) 67 [some (.ref 0), some (.int x1), some (.int x2), some (.int x3)] [.int s0] σ Q := by
  refine (bz_ne 84 eX10_downs_67 rfl).run (fun h1 => ?_) (fun h1 => ?_)
  · refine (go_iload_n 2 eX10_downs_84 rfl rfl).run ?_
    by_cases h2 : x2 = 0
    · refine (go_tableIn 112 eX10_downs_85 (by rw [h2]; decide) (by rw [h2]; decide) (by rw [h2]; rfl) rfl).run ?_
      refine (go_iload_n 3 eX10_downs_112 rfl rfl).run ?_
      exact Run.ret (v := some (.int x3)) (k1 h1 h2) ⟨Or.inl rfl, eX10_downs_113⟩ rfl
    have nh2_0 := h2
    clear h2
    by_cases h2 : x2 = 1
    · refine (go_tableIn 114 eX10_downs_85 (by rw [h2]; decide) (by rw [h2]; decide) (by rw [h2]; rfl) rfl).run ?_
      refine (go_aload_n 0 eX10_downs_114 rfl rfl).run ?_
      refine (go_getr flX10_68 rf_9_10 kd_0 gr_0_10 eX10_downs_115).run ?_
      refine (go_geti flX10_282 rf_3_0 kd_29 eX10_downs_118).run ?_
      exact Run.ret (v := some (.int (σ.1 29 0))) (k2 h1 h2) ⟨Or.inl rfl, eX10_downs_121⟩ rfl
    have nh2_1 := h2
    clear h2
    by_cases h2 : x2 = 2
    · refine (go_tableIn 122 eX10_downs_85 (by rw [h2]; decide) (by rw [h2]; decide) (by rw [h2]; rfl) rfl).run ?_
      refine (go_aload_n 0 eX10_downs_122 rfl rfl).run ?_
      refine (go_getr flX10_68 rf_9_10 kd_0 gr_0_10 eX10_downs_123).run ?_
      refine (go_geti flX10_289 rf_3_1 kd_29 eX10_downs_126).run ?_
      exact Run.ret (v := some (.int (σ.1 29 1))) (k3 h1 h2) ⟨Or.inl rfl, eX10_downs_129⟩ rfl
    have nh2_2 := h2
    clear h2
    have h2 : x2.toInt < 0 ∨ 2 < x2.toInt := by simp only [← Int32.toInt_inj] at nh2_0 nh2_1 nh2_2; simp at nh2_0 nh2_1 nh2_2; omega
    refine (go_tableOut 130 eX10_downs_85 h2 rfl).run ?_
    refine (go_aload_n 0 eX10_downs_130 rfl rfl).run ?_
    refine (go_getr flX10_68 rf_9_10 kd_0 gr_0_10 eX10_downs_131).run ?_
    refine (go_geti flX10_292 rf_3_2 kd_29 eX10_downs_134).run ?_
    exact Run.ret (v := some (.int (σ.1 29 2))) (k4 h1 h2) ⟨Or.inl rfl, eX10_downs_137⟩ rfl
  · refine (go_aload_n 0 eX10_downs_70 rfl rfl).run ?_
    refine (go_getr flX10_68 rf_9_10 kd_0 gr_0_10 eX10_downs_71).run ?_
    refine (go_iload_n 1 eX10_downs_74 rfl rfl).run ?_
    exact Run.callV (d := (d + 4)) (As := [.int x1]) mX3_bringDown lkX10_279 kd_29 (by decide) rfl rfl rfl rfl rfl (Nat.le_of_ble_eq_true rfl) eX10_downs_75 (k5 h1)

set_option maxRecDepth 20000 in
theorem bX10_downs_78 {d : Nat} {Q : Option Value → St → Prop} (x1 : Int32) (x2 : Int32) (x3 : Int32) (σ : St) 
    (k1 : Run MX10_downs (d + 5) 53 [some (.ref 0), some (.int x1), some (.int x2), some (.int (x3 + 1))] [] σ Q)
    : Run MX10_downs (d + 5) 78 [some (.ref 0), some (.int x1), some (.int x2), some (.int x3)] [] σ Q := by
  refine (go_iinc 3 (v := (x3 + 1)) (L' := [some (.ref 0), some (.int x1), some (.int x2), some (.int (x3 + 1))]) eX10_downs_78 rfl rfl (Nat.le_of_ble_eq_true rfl) rfl).run ?_
  refine (go_goto 53 eX10_downs_81 rfl).run ?_
  exact k1

/-! CarryNets.heap -/
theorem eX10_heap_0 : decode MX10_heap.2.1 0 = .ok (.iload_n 1, 1) := by decide +kernel
theorem eX10_heap_1 : decode MX10_heap.2.1 1 = .ok (.ifCond .lt 18, 3) := by decide +kernel
theorem eX10_heap_4 : decode MX10_heap.2.1 4 = .ok (.iload_n 1, 1) := by decide +kernel
theorem eX10_heap_5 : decode MX10_heap.2.1 5 = .ok (.bipush 12, 2) := by decide +kernel
theorem eX10_heap_7 : decode MX10_heap.2.1 7 = .ok (.if_icmp .ge 12, 3) := by decide +kernel
theorem eX10_heap_10 : decode MX10_heap.2.1 10 = .ok (.aload_n 0, 1) := by decide +kernel
theorem eX10_heap_11 : decode MX10_heap.2.1 11 = .ok (.getfield 64, 3) := by decide +kernel
theorem eX10_heap_14 : decode MX10_heap.2.1 14 = .ok (.iload_n 1, 1) := by decide +kernel
theorem eX10_heap_15 : decode MX10_heap.2.1 15 = .ok (.invokevirtual 260, 3) := by decide +kernel
theorem eX10_heap_18 : decode MX10_heap.2.1 18 = .ok (.ireturn, 1) := by decide +kernel
theorem eX10_heap_19 : decode MX10_heap.2.1 19 = .ok (.iload_n 1, 1) := by decide +kernel
theorem eX10_heap_20 : decode MX10_heap.2.1 20 = .ok (.tableswitch 72 20 23 #[32, 40, 48, 64], 32) := by decide +kernel
theorem eX10_heap_52 : decode MX10_heap.2.1 52 = .ok (.aload_n 0, 1) := by decide +kernel
theorem eX10_heap_53 : decode MX10_heap.2.1 53 = .ok (.getfield 64, 3) := by decide +kernel
theorem eX10_heap_56 : decode MX10_heap.2.1 56 = .ok (.invokevirtual 270, 3) := by decide +kernel
theorem eX10_heap_59 : decode MX10_heap.2.1 59 = .ok (.ireturn, 1) := by decide +kernel
theorem eX10_heap_60 : decode MX10_heap.2.1 60 = .ok (.aload_n 0, 1) := by decide +kernel
theorem eX10_heap_61 : decode MX10_heap.2.1 61 = .ok (.getfield 64, 3) := by decide +kernel
theorem eX10_heap_64 : decode MX10_heap.2.1 64 = .ok (.invokevirtual 295, 3) := by decide +kernel
theorem eX10_heap_67 : decode MX10_heap.2.1 67 = .ok (.ireturn, 1) := by decide +kernel
theorem eX10_heap_68 : decode MX10_heap.2.1 68 = .ok (.aload_n 0, 1) := by decide +kernel
theorem eX10_heap_69 : decode MX10_heap.2.1 69 = .ok (.getfield 64, 3) := by decide +kernel
theorem eX10_heap_72 : decode MX10_heap.2.1 72 = .ok (.invokevirtual 273, 3) := by decide +kernel
theorem eX10_heap_75 : decode MX10_heap.2.1 75 = .ok (.ifCond .eq 7, 3) := by decide +kernel
theorem eX10_heap_78 : decode MX10_heap.2.1 78 = .ok (.iconst 1, 1) := by decide +kernel
theorem eX10_heap_79 : decode MX10_heap.2.1 79 = .ok (.goto 4, 3) := by decide +kernel
theorem eX10_heap_82 : decode MX10_heap.2.1 82 = .ok (.iconst 0, 1) := by decide +kernel
theorem eX10_heap_83 : decode MX10_heap.2.1 83 = .ok (.ireturn, 1) := by decide +kernel
theorem eX10_heap_84 : decode MX10_heap.2.1 84 = .ok (.aload_n 0, 1) := by decide +kernel
theorem eX10_heap_85 : decode MX10_heap.2.1 85 = .ok (.getfield 64, 3) := by decide +kernel
theorem eX10_heap_88 : decode MX10_heap.2.1 88 = .ok (.invokevirtual 298, 3) := by decide +kernel
theorem eX10_heap_91 : decode MX10_heap.2.1 91 = .ok (.ireturn, 1) := by decide +kernel
theorem eX10_heap_92 : decode MX10_heap.2.1 92 = .ok (.iconst (-1), 1) := by decide +kernel
theorem eX10_heap_93 : decode MX10_heap.2.1 93 = .ok (.ireturn, 1) := by decide +kernel
set_option maxRecDepth 20000 in
theorem bX10_heap_0 {d : Nat} {Q : Option Value → St → Prop} (x1 : Int32) (σ : St) 
    (k1 : x1 < 0 → x1 = 20 → Ct yX3_greatest MX3_greatest (d + 2) [.ref 27] σ (fun v σ1 => Run MX10_heap (d + 3) 59 [none, none] (v.toList ++ []) σ1 Q))
    (k2 : x1 < 0 → x1 = 21 → Ct yX3_allBits MX3_allBits (d + 2) [.ref 27] σ (fun v σ1 => Run MX10_heap (d + 3) 67 [none, none] (v.toList ++ []) σ1 Q))
    (k3 : x1 < 0 → x1 = 22 → Ct yX3_done MX3_done (d + 2) [.ref 27] σ (fun v σ1 => Run MX10_heap (d + 3) 75 [none, none] (v.toList ++ []) σ1 Q))
    (k4 : x1 < 0 → x1 = 23 → Ct yX3_filled MX3_filled (d + 2) [.ref 27] σ (fun v σ1 => Run MX10_heap (d + 3) 91 [none, none] (v.toList ++ []) σ1 Q))
    (k5 : x1 < 0 → (x1.toInt < 20 ∨ 23 < x1.toInt) → Q (some (.int (-1))) σ)
    (k6 : (0 : Int32) ≤ x1 → (12 : Int32) ≤ x1 → x1 = 20 → Ct yX3_greatest MX3_greatest (d + 2) [.ref 27] σ (fun v σ1 => Run MX10_heap (d + 3) 59 [none, none] (v.toList ++ []) σ1 Q))
    (k7 : (0 : Int32) ≤ x1 → (12 : Int32) ≤ x1 → x1 = 21 → Ct yX3_allBits MX3_allBits (d + 2) [.ref 27] σ (fun v σ1 => Run MX10_heap (d + 3) 67 [none, none] (v.toList ++ []) σ1 Q))
    (k8 : (0 : Int32) ≤ x1 → (12 : Int32) ≤ x1 → x1 = 22 → Ct yX3_done MX3_done (d + 2) [.ref 27] σ (fun v σ1 => Run MX10_heap (d + 3) 75 [none, none] (v.toList ++ []) σ1 Q))
    (k9 : (0 : Int32) ≤ x1 → (12 : Int32) ≤ x1 → x1 = 23 → Ct yX3_filled MX3_filled (d + 2) [.ref 27] σ (fun v σ1 => Run MX10_heap (d + 3) 91 [none, none] (v.toList ++ []) σ1 Q))
    (k10 : (0 : Int32) ≤ x1 → (12 : Int32) ≤ x1 → (x1.toInt < 20 ∨ 23 < x1.toInt) → Q (some (.int (-1))) σ)
    (k11 : (0 : Int32) ≤ x1 → x1 < 12 → Q (some (.int (((aG (gr 27 3) x1 σ))))) σ)
    : Run MX10_heap (d + 3) 0 [some (.ref 0), some (.int x1)] [] σ Q := by
  refine (go_iload_n 1 eX10_heap_0 rfl rfl).run ?_
  refine (bz_lt 19 eX10_heap_1 rfl).run (fun h1 => ?_) (fun h1 => ?_)
  · refine (go_iload_n 1 eX10_heap_19 rfl rfl).run ?_
    by_cases h2 : x1 = 20
    · refine (go_tableIn 52 eX10_heap_20 (by rw [h2]; decide) (by rw [h2]; decide) (by rw [h2]; rfl) rfl).run ?_
      refine (go_aload_n 0 eX10_heap_52 rfl rfl).run ?_
      refine (go_getr flX10_64 rf_9_9 kd_0 gr_0_9 eX10_heap_53).run ?_
      refine (go_sub (L' := [none, none]) (lsub_drop (lsub_drop lsub_nil))).run ?_
      exact Run.callV (d := (d + 2)) (As := []) mX3_greatest lkX10_270 kd_27 (by decide) rfl rfl rfl rfl rfl (Nat.le_of_ble_eq_true rfl) eX10_heap_56 (k1 h1 h2)
    have nh2_20 := h2
    clear h2
    by_cases h2 : x1 = 21
    · refine (go_tableIn 60 eX10_heap_20 (by rw [h2]; decide) (by rw [h2]; decide) (by rw [h2]; rfl) rfl).run ?_
      refine (go_aload_n 0 eX10_heap_60 rfl rfl).run ?_
      refine (go_getr flX10_64 rf_9_9 kd_0 gr_0_9 eX10_heap_61).run ?_
      refine (go_sub (L' := [none, none]) (lsub_drop (lsub_drop lsub_nil))).run ?_
      exact Run.callV (d := (d + 2)) (As := []) mX3_allBits lkX10_295 kd_27 (by decide) rfl rfl rfl rfl rfl (Nat.le_of_ble_eq_true rfl) eX10_heap_64 (k2 h1 h2)
    have nh2_21 := h2
    clear h2
    by_cases h2 : x1 = 22
    · refine (go_tableIn 68 eX10_heap_20 (by rw [h2]; decide) (by rw [h2]; decide) (by rw [h2]; rfl) rfl).run ?_
      refine (go_aload_n 0 eX10_heap_68 rfl rfl).run ?_
      refine (go_getr flX10_64 rf_9_9 kd_0 gr_0_9 eX10_heap_69).run ?_
      refine (go_sub (L' := [none, none]) (lsub_drop (lsub_drop lsub_nil))).run ?_
      exact Run.callV (d := (d + 2)) (As := []) mX3_done lkX10_273 kd_27 (by decide) rfl rfl rfl rfl rfl (Nat.le_of_ble_eq_true rfl) eX10_heap_72 (k3 h1 h2)
    have nh2_22 := h2
    clear h2
    by_cases h2 : x1 = 23
    · refine (go_tableIn 84 eX10_heap_20 (by rw [h2]; decide) (by rw [h2]; decide) (by rw [h2]; rfl) rfl).run ?_
      refine (go_aload_n 0 eX10_heap_84 rfl rfl).run ?_
      refine (go_getr flX10_64 rf_9_9 kd_0 gr_0_9 eX10_heap_85).run ?_
      refine (go_sub (L' := [none, none]) (lsub_drop (lsub_drop lsub_nil))).run ?_
      exact Run.callV (d := (d + 2)) (As := []) mX3_filled lkX10_298 kd_27 (by decide) rfl rfl rfl rfl rfl (Nat.le_of_ble_eq_true rfl) eX10_heap_88 (k4 h1 h2)
    have nh2_23 := h2
    clear h2
    have h2 : x1.toInt < 20 ∨ 23 < x1.toInt := by simp only [← Int32.toInt_inj] at nh2_20 nh2_21 nh2_22 nh2_23; simp at nh2_20 nh2_21 nh2_22 nh2_23; omega
    refine (go_tableOut 92 eX10_heap_20 h2 rfl).run ?_
    refine (go_iconst (v := -1) eX10_heap_92 rfl).run ?_
    exact Run.ret (v := some (.int (-1))) (k5 h1 h2) ⟨Or.inl rfl, eX10_heap_93⟩ rfl
  · refine (go_iload_n 1 eX10_heap_4 rfl rfl).run ?_
    refine (go_bipush (v := 12) eX10_heap_5 rfl).run ?_
    refine (bi_ge 19 eX10_heap_7 rfl).run (fun h3 => ?_) (fun h3 => ?_)
    · refine (go_iload_n 1 eX10_heap_19 rfl rfl).run ?_
      by_cases h4 : x1 = 20
      · refine (go_tableIn 52 eX10_heap_20 (by rw [h4]; decide) (by rw [h4]; decide) (by rw [h4]; rfl) rfl).run ?_
        refine (go_aload_n 0 eX10_heap_52 rfl rfl).run ?_
        refine (go_getr flX10_64 rf_9_9 kd_0 gr_0_9 eX10_heap_53).run ?_
        refine (go_sub (L' := [none, none]) (lsub_drop (lsub_drop lsub_nil))).run ?_
        exact Run.callV (d := (d + 2)) (As := []) mX3_greatest lkX10_270 kd_27 (by decide) rfl rfl rfl rfl rfl (Nat.le_of_ble_eq_true rfl) eX10_heap_56 (k6 h1 h3 h4)
      have nh4_20 := h4
      clear h4
      by_cases h4 : x1 = 21
      · refine (go_tableIn 60 eX10_heap_20 (by rw [h4]; decide) (by rw [h4]; decide) (by rw [h4]; rfl) rfl).run ?_
        refine (go_aload_n 0 eX10_heap_60 rfl rfl).run ?_
        refine (go_getr flX10_64 rf_9_9 kd_0 gr_0_9 eX10_heap_61).run ?_
        refine (go_sub (L' := [none, none]) (lsub_drop (lsub_drop lsub_nil))).run ?_
        exact Run.callV (d := (d + 2)) (As := []) mX3_allBits lkX10_295 kd_27 (by decide) rfl rfl rfl rfl rfl (Nat.le_of_ble_eq_true rfl) eX10_heap_64 (k7 h1 h3 h4)
      have nh4_21 := h4
      clear h4
      by_cases h4 : x1 = 22
      · refine (go_tableIn 68 eX10_heap_20 (by rw [h4]; decide) (by rw [h4]; decide) (by rw [h4]; rfl) rfl).run ?_
        refine (go_aload_n 0 eX10_heap_68 rfl rfl).run ?_
        refine (go_getr flX10_64 rf_9_9 kd_0 gr_0_9 eX10_heap_69).run ?_
        refine (go_sub (L' := [none, none]) (lsub_drop (lsub_drop lsub_nil))).run ?_
        exact Run.callV (d := (d + 2)) (As := []) mX3_done lkX10_273 kd_27 (by decide) rfl rfl rfl rfl rfl (Nat.le_of_ble_eq_true rfl) eX10_heap_72 (k8 h1 h3 h4)
      have nh4_22 := h4
      clear h4
      by_cases h4 : x1 = 23
      · refine (go_tableIn 84 eX10_heap_20 (by rw [h4]; decide) (by rw [h4]; decide) (by rw [h4]; rfl) rfl).run ?_
        refine (go_aload_n 0 eX10_heap_84 rfl rfl).run ?_
        refine (go_getr flX10_64 rf_9_9 kd_0 gr_0_9 eX10_heap_85).run ?_
        refine (go_sub (L' := [none, none]) (lsub_drop (lsub_drop lsub_nil))).run ?_
        exact Run.callV (d := (d + 2)) (As := []) mX3_filled lkX10_298 kd_27 (by decide) rfl rfl rfl rfl rfl (Nat.le_of_ble_eq_true rfl) eX10_heap_88 (k9 h1 h3 h4)
      have nh4_23 := h4
      clear h4
      have h4 : x1.toInt < 20 ∨ 23 < x1.toInt := by simp only [← Int32.toInt_inj] at nh4_20 nh4_21 nh4_22 nh4_23; simp at nh4_20 nh4_21 nh4_22 nh4_23; omega
      refine (go_tableOut 92 eX10_heap_20 h4 rfl).run ?_
      refine (go_iconst (v := -1) eX10_heap_92 rfl).run ?_
      exact Run.ret (v := some (.int (-1))) (k10 h1 h3 h4) ⟨Or.inl rfl, eX10_heap_93⟩ rfl
    · refine (go_aload_n 0 eX10_heap_10 rfl rfl).run ?_
      refine (go_getr flX10_64 rf_9_9 kd_0 gr_0_9 eX10_heap_11).run ?_
      refine (go_iload_n 1 eX10_heap_14 rfl rfl).run ?_
      refine Run.callV1 (d := (d + 2)) (As := [.int x1]) (r := .int (((aG (gr 27 3) x1 σ)))) mX3_heightOf lkX10_260 kd_27 (by decide) rfl rfl rfl rfl rfl (Nat.le_of_ble_eq_true rfl) eX10_heap_15 (qX3_heightOf (d + 1) 27 x1 σ kd_27 ) ?_
      exact Run.ret (v := some (.int (((aG (gr 27 3) x1 σ))))) (k11 h1 h3) ⟨Or.inl rfl, eX10_heap_18⟩ rfl

set_option maxRecDepth 20000 in
theorem bX10_heap_59 {d : Nat} {Q : Option Value → St → Prop} (s0 : Int32) (σ : St) 
    (k1 : Q (some (.int s0)) σ)
    : Run MX10_heap (d + 3) 59 [none, none] [.int s0] σ Q := by
  exact Run.ret (v := some (.int s0)) k1 ⟨Or.inl rfl, eX10_heap_59⟩ rfl

set_option maxRecDepth 20000 in
theorem bX10_heap_67 {d : Nat} {Q : Option Value → St → Prop} (s0 : Int32) (σ : St) 
    (k1 : Q (some (.int s0)) σ)
    : Run MX10_heap (d + 3) 67 [none, none] [.int s0] σ Q := by
  exact Run.ret (v := some (.int s0)) k1 ⟨Or.inl rfl, eX10_heap_67⟩ rfl

set_option maxRecDepth 20000 in
theorem bX10_heap_75 {d : Nat} {Q : Option Value → St → Prop} (s0 : Int32) (σ : St) 
    (k1 : Q (some (.int (bI (¬ s0 = 0)))) σ)
    : Run MX10_heap (d + 3) 75 [none, none] [.int s0] σ Q := by
  have hJh1 : Run MX10_heap (d + 3) 83 [none, none] [.int (bI (¬ s0 = 0))] σ Q := by
    exact Run.ret (v := some (.int (bI (¬ s0 = 0)))) k1 ⟨Or.inl rfl, eX10_heap_83⟩ rfl
  refine (bz_eq 82 eX10_heap_75 rfl).run (fun h1 => ?_) (fun h1 => ?_)
  · refine (go_iconst (v := 0) eX10_heap_82 rfl).run ?_
    first | exact hJh1 | (simp only [if_pos h1] at hJh1; exact hJh1) | (simp only [eq_true h1, not_true_eq_false, true_and, and_true, false_and, and_false, true_or, or_true, false_or, or_false, not_true_eq_false, not_false_eq_true] at hJh1; exact hJh1) | exact Run.eq (by simp [eq_true h1, not_true_eq_false, bI]) (by simp [eq_true h1, not_true_eq_false, bI]) rfl hJh1
  · refine (go_iconst (v := 1) eX10_heap_78 rfl).run ?_
    refine (go_goto 83 eX10_heap_79 rfl).run ?_
    first | exact hJh1 | (simp only [if_neg (h1)] at hJh1; exact hJh1) | (simp only [eq_false h1, not_false_eq_true, true_and, and_true, false_and, and_false, true_or, or_true, false_or, or_false, not_true_eq_false, not_false_eq_true] at hJh1; exact hJh1) | exact Run.eq (by simp [eq_false h1, not_false_eq_true, bI]) (by simp [eq_false h1, not_false_eq_true, bI]) rfl hJh1

set_option maxRecDepth 20000 in
theorem bX10_heap_91 {d : Nat} {Q : Option Value → St → Prop} (s0 : Int32) (σ : St) 
    (k1 : Q (some (.int s0)) σ)
    : Run MX10_heap (d + 3) 91 [none, none] [.int s0] σ Q := by
  exact Run.ret (v := some (.int s0)) k1 ⟨Or.inl rfl, eX10_heap_91⟩ rfl

/-! CarryNets.digitByFours -/
theorem eX10_digitByFours_0 : decode MX10_digitByFours.2.1 0 = .ok (.iload_n 0, 1) := by decide +kernel
theorem eX10_digitByFours_1 : decode MX10_digitByFours.2.1 1 = .ok (.iconst 1, 1) := by decide +kernel
theorem eX10_digitByFours_2 : decode MX10_digitByFours.2.1 2 = .ok (.ishl, 1) := by decide +kernel
theorem eX10_digitByFours_3 : decode MX10_digitByFours.2.1 3 = .ok (.iconst 2, 1) := by decide +kernel
theorem eX10_digitByFours_4 : decode MX10_digitByFours.2.1 4 = .ok (.iload_n 1, 1) := by decide +kernel
theorem eX10_digitByFours_5 : decode MX10_digitByFours.2.1 5 = .ok (.imul, 1) := by decide +kernel
theorem eX10_digitByFours_6 : decode MX10_digitByFours.2.1 6 = .ok (.ishr, 1) := by decide +kernel
theorem eX10_digitByFours_7 : decode MX10_digitByFours.2.1 7 = .ok (.bipush 7, 2) := by decide +kernel
theorem eX10_digitByFours_9 : decode MX10_digitByFours.2.1 9 = .ok (.iand, 1) := by decide +kernel
theorem eX10_digitByFours_10 : decode MX10_digitByFours.2.1 10 = .ok (.istore_n 2, 1) := by decide +kernel
theorem eX10_digitByFours_11 : decode MX10_digitByFours.2.1 11 = .ok (.iload_n 2, 1) := by decide +kernel
theorem eX10_digitByFours_12 : decode MX10_digitByFours.2.1 12 = .ok (.iconst 1, 1) := by decide +kernel
theorem eX10_digitByFours_13 : decode MX10_digitByFours.2.1 13 = .ok (.iand, 1) := by decide +kernel
theorem eX10_digitByFours_14 : decode MX10_digitByFours.2.1 14 = .ok (.iload_n 2, 1) := by decide +kernel
theorem eX10_digitByFours_15 : decode MX10_digitByFours.2.1 15 = .ok (.iconst 1, 1) := by decide +kernel
theorem eX10_digitByFours_16 : decode MX10_digitByFours.2.1 16 = .ok (.ishr, 1) := by decide +kernel
theorem eX10_digitByFours_17 : decode MX10_digitByFours.2.1 17 = .ok (.iconst 1, 1) := by decide +kernel
theorem eX10_digitByFours_18 : decode MX10_digitByFours.2.1 18 = .ok (.iand, 1) := by decide +kernel
theorem eX10_digitByFours_19 : decode MX10_digitByFours.2.1 19 = .ok (.iadd, 1) := by decide +kernel
theorem eX10_digitByFours_20 : decode MX10_digitByFours.2.1 20 = .ok (.iconst 2, 1) := by decide +kernel
theorem eX10_digitByFours_21 : decode MX10_digitByFours.2.1 21 = .ok (.iload_n 2, 1) := by decide +kernel
theorem eX10_digitByFours_22 : decode MX10_digitByFours.2.1 22 = .ok (.iconst 2, 1) := by decide +kernel
theorem eX10_digitByFours_23 : decode MX10_digitByFours.2.1 23 = .ok (.ishr, 1) := by decide +kernel
theorem eX10_digitByFours_24 : decode MX10_digitByFours.2.1 24 = .ok (.imul, 1) := by decide +kernel
theorem eX10_digitByFours_25 : decode MX10_digitByFours.2.1 25 = .ok (.isub, 1) := by decide +kernel
theorem eX10_digitByFours_26 : decode MX10_digitByFours.2.1 26 = .ok (.ireturn, 1) := by decide +kernel
set_option maxRecDepth 20000 in
theorem bX10_digitByFours_0 {d : Nat} {Q : Option Value → St → Prop} (x0 : Int32) (x1 : Int32) (σ : St) 
    (k1 : Q (some (.int ((((((x0 <<< ((1 : Int32) &&& 31)) >>> (((2 : Int32) * x1) &&& 31)) &&& 7) &&& 1) + (((((x0 <<< ((1 : Int32) &&& 31)) >>> (((2 : Int32) * x1) &&& 31)) &&& 7) >>> ((1 : Int32) &&& 31)) &&& 1)) - ((2 : Int32) * ((((x0 <<< ((1 : Int32) &&& 31)) >>> (((2 : Int32) * x1) &&& 31)) &&& 7) >>> ((2 : Int32) &&& 31)))))) σ)
    : Run MX10_digitByFours d 0 [some (.int x0), some (.int x1), none] [] σ Q := by
  refine (go_iload_n 0 eX10_digitByFours_0 rfl rfl).run ?_
  refine (go_iconst (v := 1) eX10_digitByFours_1 rfl).run ?_
  refine (go_ishl eX10_digitByFours_2).run ?_
  refine (go_iconst (v := 2) eX10_digitByFours_3 rfl).run ?_
  refine (go_iload_n 1 eX10_digitByFours_4 rfl rfl).run ?_
  refine (go_imul eX10_digitByFours_5).run ?_
  refine (go_ishr eX10_digitByFours_6).run ?_
  refine (go_bipush (v := 7) eX10_digitByFours_7 rfl).run ?_
  refine (go_iand eX10_digitByFours_9).run ?_
  refine (go_istore_n 2 (L' := [some (.int x0), some (.int x1), some (.int (((x0 <<< ((1 : Int32) &&& 31)) >>> (((2 : Int32) * x1) &&& 31)) &&& 7))]) eX10_digitByFours_10 rfl (Nat.le_of_ble_eq_true rfl) rfl).run ?_
  refine (go_iload_n 2 eX10_digitByFours_11 rfl rfl).run ?_
  refine (go_iconst (v := 1) eX10_digitByFours_12 rfl).run ?_
  refine (go_iand eX10_digitByFours_13).run ?_
  refine (go_iload_n 2 eX10_digitByFours_14 rfl rfl).run ?_
  refine (go_iconst (v := 1) eX10_digitByFours_15 rfl).run ?_
  refine (go_ishr eX10_digitByFours_16).run ?_
  refine (go_iconst (v := 1) eX10_digitByFours_17 rfl).run ?_
  refine (go_iand eX10_digitByFours_18).run ?_
  refine (go_iadd eX10_digitByFours_19).run ?_
  refine (go_iconst (v := 2) eX10_digitByFours_20 rfl).run ?_
  refine (go_iload_n 2 eX10_digitByFours_21 rfl rfl).run ?_
  refine (go_iconst (v := 2) eX10_digitByFours_22 rfl).run ?_
  refine (go_ishr eX10_digitByFours_23).run ?_
  refine (go_imul eX10_digitByFours_24).run ?_
  refine (go_isub eX10_digitByFours_25).run ?_
  exact Run.ret (v := some (.int ((((((x0 <<< ((1 : Int32) &&& 31)) >>> (((2 : Int32) * x1) &&& 31)) &&& 7) &&& 1) + (((((x0 <<< ((1 : Int32) &&& 31)) >>> (((2 : Int32) * x1) &&& 31)) &&& 7) >>> ((1 : Int32) &&& 31)) &&& 1)) - ((2 : Int32) * ((((x0 <<< ((1 : Int32) &&& 31)) >>> (((2 : Int32) * x1) &&& 31)) &&& 7) >>> ((2 : Int32) &&& 31)))))) k1 ⟨Or.inl rfl, eX10_digitByFours_26⟩ rfl

def rX10_digitByFours (x0 : Int32) (x1 : Int32) (σ : St) : Int32 := ((((((x0 <<< ((1 : Int32) &&& 31)) >>> (((2 : Int32) * x1) &&& 31)) &&& 7) &&& 1) + (((((x0 <<< ((1 : Int32) &&& 31)) >>> (((2 : Int32) * x1) &&& 31)) &&& 7) >>> ((1 : Int32) &&& 31)) &&& 1)) - ((2 : Int32) * ((((x0 <<< ((1 : Int32) &&& 31)) >>> (((2 : Int32) * x1) &&& 31)) &&& 7) >>> ((2 : Int32) &&& 31))))
theorem qX10_digitByFours (d : Nat) (x0 : Int32) (x1 : Int32) (σ : St) : Ct yX10_digitByFours MX10_digitByFours d [.int x0, .int x1] σ (fun v σ1 => v = some (.int (rX10_digitByFours x0 x1 σ)) ∧ σ1 = σ) :=
  Ct.of mX10_digitByFours.1 (Nat.le_of_ble_eq_true rfl) (bX10_digitByFours_0 x0 x1 σ   (⟨by first | rfl | (simp only [rX10_digitByFours, true_and, and_true, false_and, and_false, true_or, or_true, false_or, or_false, not_true_eq_false, not_false_eq_true, if_true, if_false]; done) | (simp [rX10_digitByFours, bI]; done), by first | rfl | (simp only [rX10_digitByFours, true_and, and_true, false_and, and_false, true_or, or_true, false_or, or_false, not_true_eq_false, not_false_eq_true, if_true, if_false]; done) | (simp [rX10_digitByFours, bI]; done)⟩))

/-! CarryNets.digit -/
theorem eX10_digit_0 : decode MX10_digit.2.1 0 = .ok (.iload_n 1, 1) := by decide +kernel
theorem eX10_digit_1 : decode MX10_digit.2.1 1 = .ok (.ifCond .lt 20, 3) := by decide +kernel
theorem eX10_digit_4 : decode MX10_digit.2.1 4 = .ok (.iload_n 1, 1) := by decide +kernel
theorem eX10_digit_5 : decode MX10_digit.2.1 5 = .ok (.ldc_w 301, 3) := by decide +kernel
theorem eX10_digit_8 : decode MX10_digit.2.1 8 = .ok (.if_icmp .gt 13, 3) := by decide +kernel
theorem eX10_digit_11 : decode MX10_digit.2.1 11 = .ok (.iload_n 2, 1) := by decide +kernel
theorem eX10_digit_12 : decode MX10_digit.2.1 12 = .ok (.ifCond .lt 9, 3) := by decide +kernel
theorem eX10_digit_15 : decode MX10_digit.2.1 15 = .ok (.iload_n 2, 1) := by decide +kernel
theorem eX10_digit_16 : decode MX10_digit.2.1 16 = .ok (.bipush 8, 2) := by decide +kernel
theorem eX10_digit_18 : decode MX10_digit.2.1 18 = .ok (.if_icmp .le 6, 3) := by decide +kernel
theorem eX10_digit_21 : decode MX10_digit.2.1 21 = .ok (.bipush (-10), 2) := by decide +kernel
theorem eX10_digit_23 : decode MX10_digit.2.1 23 = .ok (.ireturn, 1) := by decide +kernel
theorem eX10_digit_24 : decode MX10_digit.2.1 24 = .ok (.iload_n 1, 1) := by decide +kernel
theorem eX10_digit_25 : decode MX10_digit.2.1 25 = .ok (.iload_n 2, 1) := by decide +kernel
theorem eX10_digit_26 : decode MX10_digit.2.1 26 = .ok (.invokestatic 302, 3) := by decide +kernel
theorem eX10_digit_29 : decode MX10_digit.2.1 29 = .ok (.ireturn, 1) := by decide +kernel
set_option maxRecDepth 20000 in
theorem bX10_digit_0 {d : Nat} {Q : Option Value → St → Prop} (x1 : Int32) (x2 : Int32) (σ : St) 
    (k1 : x1 < 0 → Q (some (.int (-10))) σ)
    (k2 : (0 : Int32) ≤ x1 → (65535 : Int32) < x1 → Q (some (.int (-10))) σ)
    (k3 : (0 : Int32) ≤ x1 → x1 ≤ 65535 → x2 < 0 → Q (some (.int (-10))) σ)
    (k4 : (0 : Int32) ≤ x1 → x1 ≤ 65535 → (0 : Int32) ≤ x2 → x2 ≤ 8 → Q (some (.int ((rX10_digitByFours x1 x2 σ)))) σ)
    (k5 : (0 : Int32) ≤ x1 → x1 ≤ 65535 → (0 : Int32) ≤ x2 → (8 : Int32) < x2 → Q (some (.int (-10))) σ)
    : Run MX10_digit (d + 1) 0 [some (.ref 0), some (.int x1), some (.int x2)] [] σ Q := by
  refine (go_iload_n 1 eX10_digit_0 rfl rfl).run ?_
  refine (bz_lt 21 eX10_digit_1 rfl).run (fun h1 => ?_) (fun h1 => ?_)
  · refine (go_bipush (v := -10) eX10_digit_21 rfl).run ?_
    exact Run.ret (v := some (.int (-10))) (k1 h1) ⟨Or.inl rfl, eX10_digit_23⟩ rfl
  · refine (go_iload_n 1 eX10_digit_4 rfl rfl).run ?_
    refine (go_ldcw csX10_301 eX10_digit_5).run ?_
    refine (bi_gt 21 eX10_digit_8 rfl).run (fun h2 => ?_) (fun h2 => ?_)
    · refine (go_bipush (v := -10) eX10_digit_21 rfl).run ?_
      exact Run.ret (v := some (.int (-10))) (k2 h1 h2) ⟨Or.inl rfl, eX10_digit_23⟩ rfl
    · refine (go_iload_n 2 eX10_digit_11 rfl rfl).run ?_
      refine (bz_lt 21 eX10_digit_12 rfl).run (fun h3 => ?_) (fun h3 => ?_)
      · refine (go_bipush (v := -10) eX10_digit_21 rfl).run ?_
        exact Run.ret (v := some (.int (-10))) (k3 h1 h2 h3) ⟨Or.inl rfl, eX10_digit_23⟩ rfl
      · refine (go_iload_n 2 eX10_digit_15 rfl rfl).run ?_
        refine (go_bipush (v := 8) eX10_digit_16 rfl).run ?_
        refine (bi_le 24 eX10_digit_18 rfl).run (fun h4 => ?_) (fun h4 => ?_)
        · refine (go_iload_n 1 eX10_digit_24 rfl rfl).run ?_
          refine (go_iload_n 2 eX10_digit_25 rfl rfl).run ?_
          refine Run.callS1 (d := d) (As := [.int x1, .int x2]) (r := .int ((rX10_digitByFours x1 x2 σ))) mX10_digitByFours lkX10_302 rfl rfl rfl (Nat.le_of_ble_eq_true rfl) eX10_digit_26 (qX10_digitByFours d x1 x2 σ  ) ?_
          exact Run.ret (v := some (.int ((rX10_digitByFours x1 x2 σ)))) (k4 h1 h2 h3 h4) ⟨Or.inl rfl, eX10_digit_29⟩ rfl
        · refine (go_bipush (v := -10) eX10_digit_21 rfl).run ?_
          exact Run.ret (v := some (.int (-10))) (k5 h1 h2 h3 h4) ⟨Or.inl rfl, eX10_digit_23⟩ rfl

def rX10_digit (x1 : Int32) (x2 : Int32) (σ : St) : Int32 := (if x1 < 0 then (-10 : Int32) else (if (65535 : Int32) < x1 then (-10 : Int32) else (if x2 < 0 then (-10 : Int32) else (if x2 ≤ 8 then ((rX10_digitByFours x1 x2 σ)) else (-10 : Int32)))))
theorem qX10_digit (d : Nat) (x1 : Int32) (x2 : Int32) (σ : St) : Ct yX10_digit MX10_digit (d + 1) [.ref 0, .int x1, .int x2] σ (fun v σ1 => v = some (.int (rX10_digit x1 x2 σ)) ∧ σ1 = σ) :=
  Ct.of mX10_digit.1 (Nat.le_of_ble_eq_true rfl) (bX10_digit_0 x1 x2 σ   (fun h1 => ⟨by first | rfl | (simp only [rX10_digit, eq_true h1, eq_false (i32_nle.mpr h1), true_and, and_true, false_and, and_false, true_or, or_true, false_or, or_false, not_true_eq_false, not_false_eq_true, if_true, if_false]; done) | (simp [rX10_digit, eq_true h1, eq_false (i32_nle.mpr h1), bI]; done), by first | rfl | (simp only [rX10_digit, eq_true h1, eq_false (i32_nle.mpr h1), true_and, and_true, false_and, and_false, true_or, or_true, false_or, or_false, not_true_eq_false, not_false_eq_true, if_true, if_false]; done) | (simp [rX10_digit, eq_true h1, eq_false (i32_nle.mpr h1), bI]; done)⟩) (fun h1 h2 => ⟨by first | rfl | (simp only [rX10_digit, eq_true h1, eq_false (i32_nlt.mpr h1), eq_true h2, eq_false (i32_nle.mpr h2), true_and, and_true, false_and, and_false, true_or, or_true, false_or, or_false, not_true_eq_false, not_false_eq_true, if_true, if_false]; done) | (simp [rX10_digit, eq_true h1, eq_false (i32_nlt.mpr h1), eq_true h2, eq_false (i32_nle.mpr h2), bI]; done), by first | rfl | (simp only [rX10_digit, eq_true h1, eq_false (i32_nlt.mpr h1), eq_true h2, eq_false (i32_nle.mpr h2), true_and, and_true, false_and, and_false, true_or, or_true, false_or, or_false, not_true_eq_false, not_false_eq_true, if_true, if_false]; done) | (simp [rX10_digit, eq_true h1, eq_false (i32_nlt.mpr h1), eq_true h2, eq_false (i32_nle.mpr h2), bI]; done)⟩) (fun h1 h2 h3 => ⟨by first | rfl | (simp only [rX10_digit, eq_true h1, eq_false (i32_nlt.mpr h1), eq_true h2, eq_false (i32_nlt.mpr h2), eq_true h3, eq_false (i32_nle.mpr h3), true_and, and_true, false_and, and_false, true_or, or_true, false_or, or_false, not_true_eq_false, not_false_eq_true, if_true, if_false]; done) | (simp [rX10_digit, eq_true h1, eq_false (i32_nlt.mpr h1), eq_true h2, eq_false (i32_nlt.mpr h2), eq_true h3, eq_false (i32_nle.mpr h3), bI]; done), by first | rfl | (simp only [rX10_digit, eq_true h1, eq_false (i32_nlt.mpr h1), eq_true h2, eq_false (i32_nlt.mpr h2), eq_true h3, eq_false (i32_nle.mpr h3), true_and, and_true, false_and, and_false, true_or, or_true, false_or, or_false, not_true_eq_false, not_false_eq_true, if_true, if_false]; done) | (simp [rX10_digit, eq_true h1, eq_false (i32_nlt.mpr h1), eq_true h2, eq_false (i32_nlt.mpr h2), eq_true h3, eq_false (i32_nle.mpr h3), bI]; done)⟩) (fun h1 h2 h3 h4 => ⟨by first | rfl | (simp only [rX10_digit, eq_true h1, eq_false (i32_nlt.mpr h1), eq_true h2, eq_false (i32_nlt.mpr h2), eq_true h3, eq_false (i32_nlt.mpr h3), eq_true h4, eq_false (i32_nlt.mpr h4), true_and, and_true, false_and, and_false, true_or, or_true, false_or, or_false, not_true_eq_false, not_false_eq_true, if_true, if_false]; done) | (simp [rX10_digit, eq_true h1, eq_false (i32_nlt.mpr h1), eq_true h2, eq_false (i32_nlt.mpr h2), eq_true h3, eq_false (i32_nlt.mpr h3), eq_true h4, eq_false (i32_nlt.mpr h4), bI]; done), by first | rfl | (simp only [rX10_digit, eq_true h1, eq_false (i32_nlt.mpr h1), eq_true h2, eq_false (i32_nlt.mpr h2), eq_true h3, eq_false (i32_nlt.mpr h3), eq_true h4, eq_false (i32_nlt.mpr h4), true_and, and_true, false_and, and_false, true_or, or_true, false_or, or_false, not_true_eq_false, not_false_eq_true, if_true, if_false]; done) | (simp [rX10_digit, eq_true h1, eq_false (i32_nlt.mpr h1), eq_true h2, eq_false (i32_nlt.mpr h2), eq_true h3, eq_false (i32_nlt.mpr h3), eq_true h4, eq_false (i32_nlt.mpr h4), bI]; done)⟩) (fun h1 h2 h3 h4 => ⟨by first | rfl | (simp only [rX10_digit, eq_true h1, eq_false (i32_nlt.mpr h1), eq_true h2, eq_false (i32_nlt.mpr h2), eq_true h3, eq_false (i32_nlt.mpr h3), eq_true h4, eq_false (i32_nle.mpr h4), true_and, and_true, false_and, and_false, true_or, or_true, false_or, or_false, not_true_eq_false, not_false_eq_true, if_true, if_false]; done) | (simp [rX10_digit, eq_true h1, eq_false (i32_nlt.mpr h1), eq_true h2, eq_false (i32_nlt.mpr h2), eq_true h3, eq_false (i32_nlt.mpr h3), eq_true h4, eq_false (i32_nle.mpr h4), bI]; done), by first | rfl | (simp only [rX10_digit, eq_true h1, eq_false (i32_nlt.mpr h1), eq_true h2, eq_false (i32_nlt.mpr h2), eq_true h3, eq_false (i32_nlt.mpr h3), eq_true h4, eq_false (i32_nle.mpr h4), true_and, and_true, false_and, and_false, true_or, or_true, false_or, or_false, not_true_eq_false, not_false_eq_true, if_true, if_false]; done) | (simp [rX10_digit, eq_true h1, eq_false (i32_nlt.mpr h1), eq_true h2, eq_false (i32_nlt.mpr h2), eq_true h3, eq_false (i32_nlt.mpr h3), eq_true h4, eq_false (i32_nle.mpr h4), bI]; done)⟩))

/-! CarryNets.digitsNotZero -/
theorem eX10_digitsNotZero_0 : decode MX10_digitsNotZero.2.1 0 = .ok (.iconst 0, 1) := by decide +kernel
theorem eX10_digitsNotZero_1 : decode MX10_digitsNotZero.2.1 1 = .ok (.istore_n 1, 1) := by decide +kernel
theorem eX10_digitsNotZero_2 : decode MX10_digitsNotZero.2.1 2 = .ok (.iconst 0, 1) := by decide +kernel
theorem eX10_digitsNotZero_3 : decode MX10_digitsNotZero.2.1 3 = .ok (.istore_n 2, 1) := by decide +kernel
theorem eX10_digitsNotZero_4 : decode MX10_digitsNotZero.2.1 4 = .ok (.iload_n 2, 1) := by decide +kernel
theorem eX10_digitsNotZero_5 : decode MX10_digitsNotZero.2.1 5 = .ok (.bipush 8, 2) := by decide +kernel
theorem eX10_digitsNotZero_7 : decode MX10_digitsNotZero.2.1 7 = .ok (.if_icmp .gt 20, 3) := by decide +kernel
theorem eX10_digitsNotZero_10 : decode MX10_digitsNotZero.2.1 10 = .ok (.iload_n 0, 1) := by decide +kernel
theorem eX10_digitsNotZero_11 : decode MX10_digitsNotZero.2.1 11 = .ok (.iload_n 2, 1) := by decide +kernel
theorem eX10_digitsNotZero_12 : decode MX10_digitsNotZero.2.1 12 = .ok (.invokestatic 302, 3) := by decide +kernel
theorem eX10_digitsNotZero_15 : decode MX10_digitsNotZero.2.1 15 = .ok (.ifCond .eq 6, 3) := by decide +kernel
theorem eX10_digitsNotZero_18 : decode MX10_digitsNotZero.2.1 18 = .ok (.iinc 1 1, 3) := by decide +kernel
theorem eX10_digitsNotZero_21 : decode MX10_digitsNotZero.2.1 21 = .ok (.iinc 2 1, 3) := by decide +kernel
theorem eX10_digitsNotZero_24 : decode MX10_digitsNotZero.2.1 24 = .ok (.goto (-20), 3) := by decide +kernel
theorem eX10_digitsNotZero_27 : decode MX10_digitsNotZero.2.1 27 = .ok (.iload_n 1, 1) := by decide +kernel
theorem eX10_digitsNotZero_28 : decode MX10_digitsNotZero.2.1 28 = .ok (.ireturn, 1) := by decide +kernel
set_option maxRecDepth 20000 in
theorem bX10_digitsNotZero_0 {d : Nat} {Q : Option Value → St → Prop} (x0 : Int32) (σ : St) 
    (k1 : Run MX10_digitsNotZero (d + 1) 4 [some (.int x0), some (.int 0), some (.int 0)] [] σ Q)
    : Run MX10_digitsNotZero (d + 1) 0 [some (.int x0), none, none] [] σ Q := by
  refine (go_iconst (v := 0) eX10_digitsNotZero_0 rfl).run ?_
  refine (go_istore_n 1 (L' := [some (.int x0), some (.int 0), none]) eX10_digitsNotZero_1 rfl (Nat.le_of_ble_eq_true rfl) rfl).run ?_
  refine (go_iconst (v := 0) eX10_digitsNotZero_2 rfl).run ?_
  refine (go_istore_n 2 (L' := [some (.int x0), some (.int 0), some (.int 0)]) eX10_digitsNotZero_3 rfl (Nat.le_of_ble_eq_true rfl) rfl).run ?_
  exact k1

set_option maxRecDepth 20000 in
theorem bX10_digitsNotZero_4 {d : Nat} {Q : Option Value → St → Prop} (x0 : Int32) (x1 : Int32) (x2 : Int32) (σ : St) 
    (k1 : (8 : Int32) < x2 → Q (some (.int x1)) σ)
    (k2 : x2 ≤ 8 → Run MX10_digitsNotZero (d + 1) 4 [some (.int x0), some (.int (if ((rX10_digitByFours x0 x2 σ)) = 0 then x1 else (x1 + 1))), some (.int (x2 + 1))] [] σ Q)
    : Run MX10_digitsNotZero (d + 1) 4 [some (.int x0), some (.int x1), some (.int x2)] [] σ Q := by
  refine (go_iload_n 2 eX10_digitsNotZero_4 rfl rfl).run ?_
  refine (go_bipush (v := 8) eX10_digitsNotZero_5 rfl).run ?_
  refine (bi_gt 27 eX10_digitsNotZero_7 rfl).run (fun h1 => ?_) (fun h1 => ?_)
  · refine (go_iload_n 1 eX10_digitsNotZero_27 rfl rfl).run ?_
    exact Run.ret (v := some (.int x1)) (k1 h1) ⟨Or.inl rfl, eX10_digitsNotZero_28⟩ rfl
  · refine (go_iload_n 0 eX10_digitsNotZero_10 rfl rfl).run ?_
    refine (go_iload_n 2 eX10_digitsNotZero_11 rfl rfl).run ?_
    refine Run.callS1 (d := d) (As := [.int x0, .int x2]) (r := .int ((rX10_digitByFours x0 x2 σ))) mX10_digitByFours lkX10_302 rfl rfl rfl (Nat.le_of_ble_eq_true rfl) eX10_digitsNotZero_12 (qX10_digitByFours d x0 x2 σ  ) ?_
    have hJh2 : Run MX10_digitsNotZero (d + 1) 21 [some (.int x0), some (.int (if ((rX10_digitByFours x0 x2 σ)) = 0 then x1 else (x1 + 1))), some (.int x2)] [] σ Q := by
      refine (go_iinc 2 (v := (x2 + 1)) (L' := [some (.int x0), some (.int (if ((rX10_digitByFours x0 x2 σ)) = 0 then x1 else (x1 + 1))), some (.int (x2 + 1))]) eX10_digitsNotZero_21 rfl rfl (Nat.le_of_ble_eq_true rfl) rfl).run ?_
      refine (go_goto 4 eX10_digitsNotZero_24 rfl).run ?_
      exact (k2 h1)
    refine (bz_eq 21 eX10_digitsNotZero_15 rfl).run (fun h2 => ?_) (fun h2 => ?_)
    · first | exact hJh2 | (simp only [if_pos h2] at hJh2; exact hJh2) | (simp only [eq_true h2, not_true_eq_false, true_and, and_true, false_and, and_false, true_or, or_true, false_or, or_false, not_true_eq_false, not_false_eq_true] at hJh2; exact hJh2) | exact Run.eq (by simp [eq_true h2, not_true_eq_false, bI]) (by simp [eq_true h2, not_true_eq_false, bI]) rfl hJh2
    · refine (go_iinc 1 (v := (x1 + 1)) (L' := [some (.int x0), some (.int (x1 + 1)), some (.int x2)]) eX10_digitsNotZero_18 rfl rfl (Nat.le_of_ble_eq_true rfl) rfl).run ?_
      first | exact hJh2 | (simp only [if_neg (h2)] at hJh2; exact hJh2) | (simp only [eq_false h2, not_false_eq_true, true_and, and_true, false_and, and_false, true_or, or_true, false_or, or_false, not_true_eq_false, not_false_eq_true] at hJh2; exact hJh2) | exact Run.eq (by simp [eq_false h2, not_false_eq_true, bI]) (by simp [eq_false h2, not_false_eq_true, bI]) rfl hJh2

/-! CarryNets.productByDigits -/
theorem eX10_productByDigits_0 : decode MX10_productByDigits.2.1 0 = .ok (.lconst 0, 1) := by decide +kernel
theorem eX10_productByDigits_1 : decode MX10_productByDigits.2.1 1 = .ok (.lstore_n 2, 1) := by decide +kernel
theorem eX10_productByDigits_2 : decode MX10_productByDigits.2.1 2 = .ok (.iconst 0, 1) := by decide +kernel
theorem eX10_productByDigits_3 : decode MX10_productByDigits.2.1 3 = .ok (.istore 4, 2) := by decide +kernel
theorem eX10_productByDigits_5 : decode MX10_productByDigits.2.1 5 = .ok (.iload 4, 2) := by decide +kernel
theorem eX10_productByDigits_7 : decode MX10_productByDigits.2.1 7 = .ok (.bipush 8, 2) := by decide +kernel
theorem eX10_productByDigits_9 : decode MX10_productByDigits.2.1 9 = .ok (.if_icmp .gt 31, 3) := by decide +kernel
theorem eX10_productByDigits_12 : decode MX10_productByDigits.2.1 12 = .ok (.bipush 32, 2) := by decide +kernel
theorem eX10_productByDigits_14 : decode MX10_productByDigits.2.1 14 = .ok (.lload_n 2, 1) := by decide +kernel
theorem eX10_productByDigits_15 : decode MX10_productByDigits.2.1 15 = .ok (.l2i, 1) := by decide +kernel
theorem eX10_productByDigits_16 : decode MX10_productByDigits.2.1 16 = .ok (.iload_n 1, 1) := by decide +kernel
theorem eX10_productByDigits_17 : decode MX10_productByDigits.2.1 17 = .ok (.iload_n 0, 1) := by decide +kernel
theorem eX10_productByDigits_18 : decode MX10_productByDigits.2.1 18 = .ok (.iload 4, 2) := by decide +kernel
theorem eX10_productByDigits_20 : decode MX10_productByDigits.2.1 20 = .ok (.invokestatic 302, 3) := by decide +kernel
theorem eX10_productByDigits_23 : decode MX10_productByDigits.2.1 23 = .ok (.imul, 1) := by decide +kernel
theorem eX10_productByDigits_24 : decode MX10_productByDigits.2.1 24 = .ok (.iconst 2, 1) := by decide +kernel
theorem eX10_productByDigits_25 : decode MX10_productByDigits.2.1 25 = .ok (.iload 4, 2) := by decide +kernel
theorem eX10_productByDigits_27 : decode MX10_productByDigits.2.1 27 = .ok (.imul, 1) := by decide +kernel
theorem eX10_productByDigits_28 : decode MX10_productByDigits.2.1 28 = .ok (.ishl, 1) := by decide +kernel
theorem eX10_productByDigits_29 : decode MX10_productByDigits.2.1 29 = .ok (.iconst 0, 1) := by decide +kernel
theorem eX10_productByDigits_30 : decode MX10_productByDigits.2.1 30 = .ok (.invokestatic 206, 3) := by decide +kernel
theorem eX10_productByDigits_33 : decode MX10_productByDigits.2.1 33 = .ok (.lstore_n 2, 1) := by decide +kernel
theorem eX10_productByDigits_34 : decode MX10_productByDigits.2.1 34 = .ok (.iinc 4 1, 3) := by decide +kernel
theorem eX10_productByDigits_37 : decode MX10_productByDigits.2.1 37 = .ok (.goto (-32), 3) := by decide +kernel
theorem eX10_productByDigits_40 : decode MX10_productByDigits.2.1 40 = .ok (.lload_n 2, 1) := by decide +kernel
theorem eX10_productByDigits_41 : decode MX10_productByDigits.2.1 41 = .ok (.lreturn, 1) := by decide +kernel
set_option maxRecDepth 20000 in
theorem bX10_productByDigits_0 {d : Nat} {Q : Option Value → St → Prop} (x0 : Int32) (x1 : Int32) (σ : St) 
    (k1 : Run MX10_productByDigits (d + 3) 5 [some (.int x0), some (.int x1), some (.long 0), none, some (.int 0)] [] σ Q)
    : Run MX10_productByDigits (d + 3) 0 [some (.int x0), some (.int x1), none, none, none] [] σ Q := by
  refine (go_lconst (v := 0) eX10_productByDigits_0 rfl).run ?_
  refine (go_lstore_n 2 (L' := [some (.int x0), some (.int x1), some (.long 0), none, none]) eX10_productByDigits_1 rfl (Nat.le_of_ble_eq_true rfl) rfl).run ?_
  refine (go_iconst (v := 0) eX10_productByDigits_2 rfl).run ?_
  refine (go_istore 4 (L' := [some (.int x0), some (.int x1), some (.long 0), none, some (.int 0)]) eX10_productByDigits_3 (Nat.le_of_ble_eq_true rfl) rfl).run ?_
  exact k1

set_option maxRecDepth 20000 in
theorem bX10_productByDigits_5 {d : Nat} {Q : Option Value → St → Prop} (x0 : Int32) (x1 : Int32) (x2 : Int64) (x4 : Int32) (σ : St) 
    (k1 : (8 : Int32) < x4 → Q (some (.long x2)) σ)
    (k2 : x4 ≤ 8 → Run MX10_productByDigits (d + 3) 5 [some (.int x0), some (.int x1), some (.long ((rX10_sumBits (32 : Int32) x2.toInt32 ((x1 * ((rX10_digitByFours x0 x4 σ))) <<< (((2 : Int32) * x4) &&& 31)) (0 : Int32) σ))), none, some (.int (x4 + 1))] [] σ Q)
    : Run MX10_productByDigits (d + 3) 5 [some (.int x0), some (.int x1), some (.long x2), none, some (.int x4)] [] σ Q := by
  refine (go_iload 4 eX10_productByDigits_5 rfl).run ?_
  refine (go_bipush (v := 8) eX10_productByDigits_7 rfl).run ?_
  refine (bi_gt 40 eX10_productByDigits_9 rfl).run (fun h1 => ?_) (fun h1 => ?_)
  · refine (go_lload_n 2 eX10_productByDigits_40 rfl rfl).run ?_
    exact Run.ret (v := some (.long x2)) (k1 h1) ⟨rfl, eX10_productByDigits_41⟩ rfl
  · refine (go_bipush (v := 32) eX10_productByDigits_12 rfl).run ?_
    refine (go_lload_n 2 eX10_productByDigits_14 rfl rfl).run ?_
    refine (go_l2i eX10_productByDigits_15).run ?_
    refine (go_iload_n 1 eX10_productByDigits_16 rfl rfl).run ?_
    refine (go_iload_n 0 eX10_productByDigits_17 rfl rfl).run ?_
    refine (go_iload 4 eX10_productByDigits_18 rfl).run ?_
    refine Run.callS1 (d := (d + 2)) (As := [.int x0, .int x4]) (r := .int ((rX10_digitByFours x0 x4 σ))) mX10_digitByFours lkX10_302 rfl rfl rfl (Nat.le_of_ble_eq_true rfl) eX10_productByDigits_20 (qX10_digitByFours (d + 2) x0 x4 σ  ) ?_
    refine (go_imul eX10_productByDigits_23).run ?_
    refine (go_iconst (v := 2) eX10_productByDigits_24 rfl).run ?_
    refine (go_iload 4 eX10_productByDigits_25 rfl).run ?_
    refine (go_imul eX10_productByDigits_27).run ?_
    refine (go_ishl eX10_productByDigits_28).run ?_
    refine (go_iconst (v := 0) eX10_productByDigits_29 rfl).run ?_
    refine Run.callS1 (d := (d + 2)) (As := [.int 32, .int x2.toInt32, .int ((x1 * ((rX10_digitByFours x0 x4 σ))) <<< (((2 : Int32) * x4) &&& 31)), .int 0]) (r := .long ((rX10_sumBits (32 : Int32) x2.toInt32 ((x1 * ((rX10_digitByFours x0 x4 σ))) <<< (((2 : Int32) * x4) &&& 31)) (0 : Int32) σ))) mX10_sumBits lkX10_206 rfl rfl rfl (Nat.le_of_ble_eq_true rfl) eX10_productByDigits_30 (qX10_sumBits d (32 : Int32) x2.toInt32 ((x1 * ((rX10_digitByFours x0 x4 σ))) <<< (((2 : Int32) * x4) &&& 31)) (0 : Int32) σ  ) ?_
    refine (go_lstore_n 2 (L' := [some (.int x0), some (.int x1), some (.long ((rX10_sumBits (32 : Int32) x2.toInt32 ((x1 * ((rX10_digitByFours x0 x4 σ))) <<< (((2 : Int32) * x4) &&& 31)) (0 : Int32) σ))), none, some (.int x4)]) eX10_productByDigits_33 rfl (Nat.le_of_ble_eq_true rfl) rfl).run ?_
    refine (go_iinc 4 (v := (x4 + 1)) (L' := [some (.int x0), some (.int x1), some (.long ((rX10_sumBits (32 : Int32) x2.toInt32 ((x1 * ((rX10_digitByFours x0 x4 σ))) <<< (((2 : Int32) * x4) &&& 31)) (0 : Int32) σ))), none, some (.int (x4 + 1))]) eX10_productByDigits_34 rfl rfl (Nat.le_of_ble_eq_true rfl) rfl).run ?_
    refine (go_goto 5 eX10_productByDigits_37 rfl).run ?_
    exact (k2 h1)

/-! CarryNets.times -/
theorem eX10_times_0 : decode MX10_times.2.1 0 = .ok (.iload_n 1, 1) := by decide +kernel
theorem eX10_times_1 : decode MX10_times.2.1 1 = .ok (.ifCond .lt 21, 3) := by decide +kernel
theorem eX10_times_4 : decode MX10_times.2.1 4 = .ok (.iload_n 1, 1) := by decide +kernel
theorem eX10_times_5 : decode MX10_times.2.1 5 = .ok (.ldc_w 301, 3) := by decide +kernel
theorem eX10_times_8 : decode MX10_times.2.1 8 = .ok (.if_icmp .gt 14, 3) := by decide +kernel
theorem eX10_times_11 : decode MX10_times.2.1 11 = .ok (.iload 4, 2) := by decide +kernel
theorem eX10_times_13 : decode MX10_times.2.1 13 = .ok (.ifCond .lt 9, 3) := by decide +kernel
theorem eX10_times_16 : decode MX10_times.2.1 16 = .ok (.iload 4, 2) := by decide +kernel
theorem eX10_times_18 : decode MX10_times.2.1 18 = .ok (.iconst 1, 1) := by decide +kernel
theorem eX10_times_19 : decode MX10_times.2.1 19 = .ok (.if_icmp .le 7, 3) := by decide +kernel
theorem eX10_times_22 : decode MX10_times.2.1 22 = .ok (.ldc2_w 202, 3) := by decide +kernel
theorem eX10_times_25 : decode MX10_times.2.1 25 = .ok (.lreturn, 1) := by decide +kernel
theorem eX10_times_26 : decode MX10_times.2.1 26 = .ok (.iload 4, 2) := by decide +kernel
theorem eX10_times_28 : decode MX10_times.2.1 28 = .ok (.ifCond .ne 9, 3) := by decide +kernel
theorem eX10_times_31 : decode MX10_times.2.1 31 = .ok (.iload_n 1, 1) := by decide +kernel
theorem eX10_times_32 : decode MX10_times.2.1 32 = .ok (.invokestatic 305, 3) := by decide +kernel
theorem eX10_times_35 : decode MX10_times.2.1 35 = .ok (.i2l, 1) := by decide +kernel
theorem eX10_times_36 : decode MX10_times.2.1 36 = .ok (.lreturn, 1) := by decide +kernel
theorem eX10_times_37 : decode MX10_times.2.1 37 = .ok (.aload_n 0, 1) := by decide +kernel
theorem eX10_times_38 : decode MX10_times.2.1 38 = .ok (.iload_n 3, 1) := by decide +kernel
theorem eX10_times_39 : decode MX10_times.2.1 39 = .ok (.invokevirtual 114, 3) := by decide +kernel
theorem eX10_times_42 : decode MX10_times.2.1 42 = .ok (.astore 5, 2) := by decide +kernel
theorem eX10_times_44 : decode MX10_times.2.1 44 = .ok (.iload_n 2, 1) := by decide +kernel
theorem eX10_times_45 : decode MX10_times.2.1 45 = .ok (.ifCond .lt 15, 3) := by decide +kernel
theorem eX10_times_48 : decode MX10_times.2.1 48 = .ok (.iload_n 2, 1) := by decide +kernel
theorem eX10_times_49 : decode MX10_times.2.1 49 = .ok (.sipush 32767, 3) := by decide +kernel
theorem eX10_times_52 : decode MX10_times.2.1 52 = .ok (.if_icmp .gt 8, 3) := by decide +kernel
theorem eX10_times_55 : decode MX10_times.2.1 55 = .ok (.aload 5, 2) := by decide +kernel
theorem eX10_times_57 : decode MX10_times.2.1 57 = .ok (.ifnonnull 7, 3) := by decide +kernel
theorem eX10_times_60 : decode MX10_times.2.1 60 = .ok (.ldc2_w 202, 3) := by decide +kernel
theorem eX10_times_63 : decode MX10_times.2.1 63 = .ok (.lreturn, 1) := by decide +kernel
theorem eX10_times_64 : decode MX10_times.2.1 64 = .ok (.aload 5, 2) := by decide +kernel
theorem eX10_times_66 : decode MX10_times.2.1 66 = .ok (.getfield 130, 3) := by decide +kernel
theorem eX10_times_69 : decode MX10_times.2.1 69 = .ok (.bipush 32, 2) := by decide +kernel
theorem eX10_times_71 : decode MX10_times.2.1 71 = .ok (.if_icmp .ne 14, 3) := by decide +kernel
theorem eX10_times_74 : decode MX10_times.2.1 74 = .ok (.aload 5, 2) := by decide +kernel
theorem eX10_times_76 : decode MX10_times.2.1 76 = .ok (.getfield 133, 3) := by decide +kernel
theorem eX10_times_79 : decode MX10_times.2.1 79 = .ok (.invokevirtual 146, 3) := by decide +kernel
theorem eX10_times_82 : decode MX10_times.2.1 82 = .ok (.ifCond .ne 7, 3) := by decide +kernel
theorem eX10_times_85 : decode MX10_times.2.1 85 = .ok (.ldc2_w 204, 3) := by decide +kernel
theorem eX10_times_88 : decode MX10_times.2.1 88 = .ok (.lreturn, 1) := by decide +kernel
theorem eX10_times_89 : decode MX10_times.2.1 89 = .ok (.iload_n 1, 1) := by decide +kernel
theorem eX10_times_90 : decode MX10_times.2.1 90 = .ok (.iload_n 2, 1) := by decide +kernel
theorem eX10_times_91 : decode MX10_times.2.1 91 = .ok (.invokestatic 308, 3) := by decide +kernel
theorem eX10_times_94 : decode MX10_times.2.1 94 = .ok (.lreturn, 1) := by decide +kernel
set_option maxRecDepth 20000 in
theorem bX10_times_0 {d : Nat} {Q : Option Value → St → Prop} (x1 : Int32) (x2 : Int32) (x3 : Int32) (x4 : Int32) (σ : St) 
    (k1 : x1 < 0 → Q (some (.long (-1))) σ)
    (k2 : (0 : Int32) ≤ x1 → (65535 : Int32) < x1 → Q (some (.long (-1))) σ)
    (k3 : (0 : Int32) ≤ x1 → x1 ≤ 65535 → x4 < 0 → Q (some (.long (-1))) σ)
    (k4 : (0 : Int32) ≤ x1 → x1 ≤ 65535 → (0 : Int32) ≤ x4 → x4 ≤ 1 → ¬ x4 = 0 → (0 ≤ x3 ∧ x3 < (σ.1 0 1) ∧ x3 < 8) → x2 < 0 → Q (some (.long (-1))) σ)
    (k5 : (0 : Int32) ≤ x1 → x1 ≤ 65535 → (0 : Int32) ≤ x4 → x4 ≤ 1 → ¬ x4 = 0 → (0 ≤ x3 ∧ x3 < (σ.1 0 1) ∧ x3 < 8) → (0 : Int32) ≤ x2 → (32767 : Int32) < x2 → Q (some (.long (-1))) σ)
    (k6 : (0 : Int32) ≤ x1 → x1 ≤ 65535 → (0 : Int32) ≤ x4 → x4 ≤ 1 → ¬ x4 = 0 → (0 ≤ x3 ∧ x3 < (σ.1 0 1) ∧ x3 < 8) → (0 : Int32) ≤ x2 → x2 ≤ 32767 → ¬ (σ.1 ((gr 1 x3.toNatClampNeg)) 0) = 32 → Q (some (.long (-2))) σ)
    (k7 : (0 : Int32) ≤ x1 → x1 ≤ 65535 → (0 : Int32) ≤ x4 → x4 ≤ 1 → ¬ x4 = 0 → (0 ≤ x3 ∧ x3 < (σ.1 0 1) ∧ x3 < 8) → (0 : Int32) ≤ x2 → x2 ≤ 32767 → (σ.1 ((gr 1 x3.toNatClampNeg)) 0) = 32 → Ct yX8_whole MX8_whole (d + 3) [.ref (gr (gr 1 x3.toNatClampNeg) 2)] σ (fun v σ1 => Run MX10_times (d + 4) 82 [none, some (.int x1), some (.int x2), none, none, none] (v.toList ++ []) σ1 Q))
    (k8 : (0 : Int32) ≤ x1 → x1 ≤ 65535 → (0 : Int32) ≤ x4 → x4 ≤ 1 → ¬ x4 = 0 → (¬ (0 ≤ x3 ∧ x3 < (σ.1 0 1) ∧ x3 < 8)) → x2 < 0 → Q (some (.long (-1))) σ)
    (k9 : (0 : Int32) ≤ x1 → x1 ≤ 65535 → (0 : Int32) ≤ x4 → x4 ≤ 1 → ¬ x4 = 0 → (¬ (0 ≤ x3 ∧ x3 < (σ.1 0 1) ∧ x3 < 8)) → (0 : Int32) ≤ x2 → (32767 : Int32) < x2 → Q (some (.long (-1))) σ)
    (k10 : (0 : Int32) ≤ x1 → x1 ≤ 65535 → (0 : Int32) ≤ x4 → x4 ≤ 1 → ¬ x4 = 0 → (¬ (0 ≤ x3 ∧ x3 < (σ.1 0 1) ∧ x3 < 8)) → (0 : Int32) ≤ x2 → x2 ≤ 32767 → Q (some (.long (-1))) σ)
    (k11 : (0 : Int32) ≤ x1 → x1 ≤ 65535 → (0 : Int32) ≤ x4 → x4 ≤ 1 → x4 = 0 → Ct yX10_digitsNotZero MX10_digitsNotZero (d + 3) [.int x1] σ (fun v σ1 => Run MX10_times (d + 4) 35 [none, none, none, none, none, none] (v.toList ++ []) σ1 Q))
    (k12 : (0 : Int32) ≤ x1 → x1 ≤ 65535 → (0 : Int32) ≤ x4 → (1 : Int32) < x4 → Q (some (.long (-1))) σ)
    : Run MX10_times (d + 4) 0 [some (.ref 0), some (.int x1), some (.int x2), some (.int x3), some (.int x4), none] [] σ Q := by
  refine (go_iload_n 1 eX10_times_0 rfl rfl).run ?_
  refine (bz_lt 22 eX10_times_1 rfl).run (fun h1 => ?_) (fun h1 => ?_)
  · refine (go_ldc2 csX10_202 eX10_times_22).run ?_
    exact Run.ret (v := some (.long (-1))) (k1 h1) ⟨rfl, eX10_times_25⟩ rfl
  · refine (go_iload_n 1 eX10_times_4 rfl rfl).run ?_
    refine (go_ldcw csX10_301 eX10_times_5).run ?_
    refine (bi_gt 22 eX10_times_8 rfl).run (fun h2 => ?_) (fun h2 => ?_)
    · refine (go_ldc2 csX10_202 eX10_times_22).run ?_
      exact Run.ret (v := some (.long (-1))) (k2 h1 h2) ⟨rfl, eX10_times_25⟩ rfl
    · refine (go_iload 4 eX10_times_11 rfl).run ?_
      refine (bz_lt 22 eX10_times_13 rfl).run (fun h3 => ?_) (fun h3 => ?_)
      · refine (go_ldc2 csX10_202 eX10_times_22).run ?_
        exact Run.ret (v := some (.long (-1))) (k3 h1 h2 h3) ⟨rfl, eX10_times_25⟩ rfl
      · refine (go_iload 4 eX10_times_16 rfl).run ?_
        refine (go_iconst (v := 1) eX10_times_18 rfl).run ?_
        refine (bi_le 26 eX10_times_19 rfl).run (fun h4 => ?_) (fun h4 => ?_)
        · refine (go_iload 4 eX10_times_26 rfl).run ?_
          refine (bz_ne 37 eX10_times_28 rfl).run (fun h5 => ?_) (fun h5 => ?_)
          · refine (go_aload_n 0 eX10_times_37 rfl rfl).run ?_
            refine (go_iload_n 3 eX10_times_38 rfl rfl).run ?_
            refine Run.callV (d := (d + 3)) (As := [.int x3]) mX10_netNumbered lkX10_114 kd_0 (by decide) rfl rfl rfl rfl rfl (Nat.le_of_ble_eq_true rfl) eX10_times_39 (Ct.mono (qX10_netNumbered (d + 3) x3 σ) ?_)
            rintro v1 s1 ⟨hv1, hs1⟩
            rw [hv1, hs1]
            by_cases h6 : 0 ≤ x3 ∧ x3 < (σ.1 0 1) ∧ x3 < 8
            · rw [if_pos h6]
              refine (go_astore 5 (L' := [some (.ref 0), some (.int x1), some (.int x2), some (.int x3), some (.int x4), some (.ref (gr 1 x3.toNatClampNeg))]) eX10_times_42 (Nat.le_of_ble_eq_true rfl) rfl).run ?_
              refine (go_iload_n 2 eX10_times_44 rfl rfl).run ?_
              refine (bz_lt 60 eX10_times_45 rfl).run (fun h7 => ?_) (fun h7 => ?_)
              · refine (go_ldc2 csX10_202 eX10_times_60).run ?_
                exact Run.ret (v := some (.long (-1))) (k4 h1 h2 h3 h4 h5 h6 h7) ⟨rfl, eX10_times_63⟩ rfl
              · refine (go_iload_n 2 eX10_times_48 rfl rfl).run ?_
                refine (go_sipush (v := 32767) eX10_times_49 rfl).run ?_
                refine (bi_gt 60 eX10_times_52 rfl).run (fun h8 => ?_) (fun h8 => ?_)
                · refine (go_ldc2 csX10_202 eX10_times_60).run ?_
                  exact Run.ret (v := some (.long (-1))) (k5 h1 h2 h3 h4 h5 h6 h7 h8) ⟨rfl, eX10_times_63⟩ rfl
                · refine (go_aload 5 eX10_times_55 rfl).run ?_
                  refine (go_ifnonnull_r 64 eX10_times_57 rfl).run ?_
                  refine (go_aload 5 eX10_times_64 rfl).run ?_
                  refine (go_geti flX10_130 rf_5_0 (ka_103 (vp_of h6.1 h6.2.2 (by decide))) eX10_times_66).run ?_
                  refine (go_bipush (v := 32) eX10_times_69 rfl).run ?_
                  refine (bi_ne 85 eX10_times_71 rfl).run (fun h9 => ?_) (fun h9 => ?_)
                  · refine (go_ldc2 csX10_204 eX10_times_85).run ?_
                    exact Run.ret (v := some (.long (-2))) (k6 h1 h2 h3 h4 h5 h6 h7 h8 h9) ⟨rfl, eX10_times_88⟩ rfl
                  · refine (go_aload 5 eX10_times_74 rfl).run ?_
                    refine (go_getr (r := gr (gr 1 x3.toNatClampNeg) 2) flX10_133 rf_5_2 (ka_103 (vp_of h6.1 h6.2.2 (by decide))) rfl eX10_times_76).run ?_
                    refine (go_sub (L' := [none, some (.int x1), some (.int x2), none, none, none]) (lsub_drop (lsub_keep (lsub_keep (lsub_drop (lsub_drop (lsub_drop lsub_nil))))))).run ?_
                    exact Run.callV (d := (d + 3)) (As := []) mX8_whole lkX10_146 (kf_5_2 (ka_103 (vp_of h6.1 h6.2.2 (by decide)))).1 (by decide) rfl rfl rfl rfl rfl (Nat.le_of_ble_eq_true rfl) eX10_times_79 (k7 h1 h2 h3 h4 h5 h6 h7 h8 h9)
            · rw [if_neg h6]
              refine (go_astoreN 5 (L' := [some (.ref 0), some (.int x1), some (.int x2), some (.int x3), some (.int x4), some (.null)]) eX10_times_42 (Nat.le_of_ble_eq_true rfl) rfl).run ?_
              refine (go_iload_n 2 eX10_times_44 rfl rfl).run ?_
              refine (bz_lt 60 eX10_times_45 rfl).run (fun h10 => ?_) (fun h10 => ?_)
              · refine (go_ldc2 csX10_202 eX10_times_60).run ?_
                exact Run.ret (v := some (.long (-1))) (k8 h1 h2 h3 h4 h5 h6 h10) ⟨rfl, eX10_times_63⟩ rfl
              · refine (go_iload_n 2 eX10_times_48 rfl rfl).run ?_
                refine (go_sipush (v := 32767) eX10_times_49 rfl).run ?_
                refine (bi_gt 60 eX10_times_52 rfl).run (fun h11 => ?_) (fun h11 => ?_)
                · refine (go_ldc2 csX10_202 eX10_times_60).run ?_
                  exact Run.ret (v := some (.long (-1))) (k9 h1 h2 h3 h4 h5 h6 h10 h11) ⟨rfl, eX10_times_63⟩ rfl
                · refine (go_aloadN 5 eX10_times_55 rfl).run ?_
                  refine (go_ifnonnull_n eX10_times_57).run ?_
                  refine (go_ldc2 csX10_202 eX10_times_60).run ?_
                  exact Run.ret (v := some (.long (-1))) (k10 h1 h2 h3 h4 h5 h6 h10 h11) ⟨rfl, eX10_times_63⟩ rfl
          · refine (go_iload_n 1 eX10_times_31 rfl rfl).run ?_
            refine (go_sub (L' := [none, none, none, none, none, none]) (lsub_drop (lsub_drop (lsub_drop (lsub_drop (lsub_drop (lsub_keep lsub_nil))))))).run ?_
            exact Run.callS (d := (d + 3)) (As := [.int x1]) mX10_digitsNotZero lkX10_305 rfl rfl rfl (Nat.le_of_ble_eq_true rfl) eX10_times_32 (k11 h1 h2 h3 h4 h5)
        · refine (go_ldc2 csX10_202 eX10_times_22).run ?_
          exact Run.ret (v := some (.long (-1))) (k12 h1 h2 h3 h4) ⟨rfl, eX10_times_25⟩ rfl

set_option maxRecDepth 20000 in
theorem bX10_times_82 {d : Nat} {Q : Option Value → St → Prop} (x1 : Int32) (x2 : Int32) (s0 : Int32) (σ : St) 
    (k1 : ¬ s0 = 0 → Ct yX10_productByDigits MX10_productByDigits (d + 3) [.int x1, .int x2] σ (fun v σ1 => Run MX10_times (d + 4) 94 [none, none, none, none, none, none] (v.toList ++ []) σ1 Q))
    (k2 : s0 = 0 → Q (some (.long (-2))) σ)
    : Run MX10_times (d + 4) 82 [none, some (.int x1), some (.int x2), none, none, none] [.int s0] σ Q := by
  refine (bz_ne 89 eX10_times_82 rfl).run (fun h1 => ?_) (fun h1 => ?_)
  · refine (go_iload_n 1 eX10_times_89 rfl rfl).run ?_
    refine (go_iload_n 2 eX10_times_90 rfl rfl).run ?_
    refine (go_sub (L' := [none, none, none, none, none, none]) (lsub_keep (lsub_drop (lsub_drop (lsub_keep (lsub_keep (lsub_keep lsub_nil))))))).run ?_
    exact Run.callS (d := (d + 3)) (As := [.int x1, .int x2]) mX10_productByDigits lkX10_308 rfl rfl rfl (Nat.le_of_ble_eq_true rfl) eX10_times_91 (k1 h1)
  · refine (go_ldc2 csX10_204 eX10_times_85).run ?_
    exact Run.ret (v := some (.long (-2))) (k2 h1) ⟨rfl, eX10_times_88⟩ rfl

set_option maxRecDepth 20000 in
theorem bX10_times_35 {d : Nat} {Q : Option Value → St → Prop} (s0 : Int32) (σ : St) 
    (k1 : Q (some (.long s0.toInt64)) σ)
    : Run MX10_times (d + 4) 35 [none, none, none, none, none, none] [.int s0] σ Q := by
  refine (go_i2l eX10_times_35).run ?_
  exact Run.ret (v := some (.long s0.toInt64)) k1 ⟨rfl, eX10_times_36⟩ rfl

set_option maxRecDepth 20000 in
theorem bX10_times_94 {d : Nat} {Q : Option Value → St → Prop} (s0 : Int64) (σ : St) 
    (k1 : Q (some (.long s0)) σ)
    : Run MX10_times (d + 4) 94 [none, none, none, none, none, none] [.long s0] σ Q := by
  exact Run.ret (v := some (.long s0)) k1 ⟨rfl, eX10_times_94⟩ rfl

/-! CarryNets.sheetNumbered -/
theorem eX10_sheetNumbered_0 : decode MX10_sheetNumbered.2.1 0 = .ok (.iload_n 1, 1) := by decide +kernel
theorem eX10_sheetNumbered_1 : decode MX10_sheetNumbered.2.1 1 = .ok (.ifCond .lt 21, 3) := by decide +kernel
theorem eX10_sheetNumbered_4 : decode MX10_sheetNumbered.2.1 4 = .ok (.iload_n 1, 1) := by decide +kernel
theorem eX10_sheetNumbered_5 : decode MX10_sheetNumbered.2.1 5 = .ok (.aload_n 0, 1) := by decide +kernel
theorem eX10_sheetNumbered_6 : decode MX10_sheetNumbered.2.1 6 = .ok (.getfield 73, 3) := by decide +kernel
theorem eX10_sheetNumbered_9 : decode MX10_sheetNumbered.2.1 9 = .ok (.arraylength, 1) := by decide +kernel
theorem eX10_sheetNumbered_10 : decode MX10_sheetNumbered.2.1 10 = .ok (.if_icmp .ge 12, 3) := by decide +kernel
theorem eX10_sheetNumbered_13 : decode MX10_sheetNumbered.2.1 13 = .ok (.aload_n 0, 1) := by decide +kernel
theorem eX10_sheetNumbered_14 : decode MX10_sheetNumbered.2.1 14 = .ok (.getfield 73, 3) := by decide +kernel
theorem eX10_sheetNumbered_17 : decode MX10_sheetNumbered.2.1 17 = .ok (.iload_n 1, 1) := by decide +kernel
theorem eX10_sheetNumbered_18 : decode MX10_sheetNumbered.2.1 18 = .ok (.aaload, 1) := by decide +kernel
theorem eX10_sheetNumbered_19 : decode MX10_sheetNumbered.2.1 19 = .ok (.goto 4, 3) := by decide +kernel
theorem eX10_sheetNumbered_22 : decode MX10_sheetNumbered.2.1 22 = .ok (.aconst_null, 1) := by decide +kernel
theorem eX10_sheetNumbered_23 : decode MX10_sheetNumbered.2.1 23 = .ok (.areturn, 1) := by decide +kernel
set_option maxRecDepth 20000 in
theorem bX10_sheetNumbered_0 {d : Nat} {Q : Option Value → St → Prop} (x1 : Int32) (σ : St) 
    (g1 : (0 : Int32) ≤ x1 → x1 < 4 → vp_in x1 4)
    (k1 : x1 < 0 → Q (some (.null)) σ)
    (k2 : (0 : Int32) ≤ x1 → (4 : Int32) ≤ x1 → Q (some (.null)) σ)
    (k3 : (0 : Int32) ≤ x1 → x1 < 4 → Q (some (.ref (gr 31 x1.toNatClampNeg))) σ)
    : Run MX10_sheetNumbered d 0 [some (.ref 0), some (.int x1)] [] σ Q := by
  refine (go_iload_n 1 eX10_sheetNumbered_0 rfl rfl).run ?_
  refine (bz_lt 22 eX10_sheetNumbered_1 rfl).run (fun h1 => ?_) (fun h1 => ?_)
  · refine (go_null eX10_sheetNumbered_22).run ?_
    exact Run.ret (v := some (.null)) (k1 h1) ⟨⟨_, rfl⟩, eX10_sheetNumbered_23⟩ rfl
  · refine (go_iload_n 1 eX10_sheetNumbered_4 rfl rfl).run ?_
    refine (go_aload_n 0 eX10_sheetNumbered_5 rfl rfl).run ?_
    refine (go_getr flX10_73 rf_9_11 kd_0 gr_0_11 eX10_sheetNumbered_6).run ?_
    refine (go_alen104 (v := 4) kd_31 ln_31 rfl eX10_sheetNumbered_9).run ?_
    refine (bi_ge 22 eX10_sheetNumbered_10 rfl).run (fun h2 => ?_) (fun h2 => ?_)
    · refine (go_null eX10_sheetNumbered_22).run ?_
      exact Run.ret (v := some (.null)) (k2 h1 h2) ⟨⟨_, rfl⟩, eX10_sheetNumbered_23⟩ rfl
    · refine (go_aload_n 0 eX10_sheetNumbered_13 rfl rfl).run ?_
      refine (go_getr flX10_73 rf_9_11 kd_0 gr_0_11 eX10_sheetNumbered_14).run ?_
      refine (go_iload_n 1 eX10_sheetNumbered_17 rfl rfl).run ?_
      refine (go_aald104 (r := gr 31 x1.toNatClampNeg) kd_31 rfl ln_31 (g1 h1 h2) eX10_sheetNumbered_18).run ?_
      refine (go_goto 23 eX10_sheetNumbered_19 rfl).run ?_
      exact Run.ret (v := some (.ref (gr 31 x1.toNatClampNeg))) (k3 h1 h2) ⟨⟨_, rfl⟩, eX10_sheetNumbered_23⟩ rfl

theorem qX10_sheetNumbered (d : Nat) (x1 : Int32) (σ : St) : Ct yX10_sheetNumbered MX10_sheetNumbered d [.ref 0, .int x1] σ (fun v σ1 => v = some (if 0 ≤ x1 ∧ x1 < 4 then .ref (gr 31 x1.toNatClampNeg) else .null) ∧ σ1 = σ) :=
  Ct.of mX10_sheetNumbered.1 (Nat.le_of_ble_eq_true rfl) (bX10_sheetNumbered_0 x1 σ (fun h0 h1 => vp_of h0 h1 (by decide))
    (fun h => ⟨by rw [if_neg (fun q => i32_nlt.mpr q.1 h)], rfl⟩) (fun _ h => ⟨by rw [if_neg (fun q => i32_nlt.mpr h q.2)], rfl⟩) (fun h0 h1 => ⟨by rw [if_pos ⟨h0, h1⟩], rfl⟩))

/-! CarryNets.sheet -/
theorem eX10_sheet_0 : decode MX10_sheet.2.1 0 = .ok (.aload_n 0, 1) := by decide +kernel
theorem eX10_sheet_1 : decode MX10_sheet.2.1 1 = .ok (.iload_n 1, 1) := by decide +kernel
theorem eX10_sheet_2 : decode MX10_sheet.2.1 2 = .ok (.invokevirtual 311, 3) := by decide +kernel
theorem eX10_sheet_5 : decode MX10_sheet.2.1 5 = .ok (.astore 4, 2) := by decide +kernel
theorem eX10_sheet_7 : decode MX10_sheet.2.1 7 = .ok (.aload 4, 2) := by decide +kernel
theorem eX10_sheet_9 : decode MX10_sheet.2.1 9 = .ok (.ifnull 18, 3) := by decide +kernel
theorem eX10_sheet_12 : decode MX10_sheet.2.1 12 = .ok (.iload_n 2, 1) := by decide +kernel
theorem eX10_sheet_13 : decode MX10_sheet.2.1 13 = .ok (.ifCond .lt 14, 3) := by decide +kernel
theorem eX10_sheet_16 : decode MX10_sheet.2.1 16 = .ok (.iload_n 2, 1) := by decide +kernel
theorem eX10_sheet_17 : decode MX10_sheet.2.1 17 = .ok (.iconst 3, 1) := by decide +kernel
theorem eX10_sheet_18 : decode MX10_sheet.2.1 18 = .ok (.if_icmp .ge 9, 3) := by decide +kernel
theorem eX10_sheet_21 : decode MX10_sheet.2.1 21 = .ok (.iload_n 3, 1) := by decide +kernel
theorem eX10_sheet_22 : decode MX10_sheet.2.1 22 = .ok (.bipush 60, 2) := by decide +kernel
theorem eX10_sheet_24 : decode MX10_sheet.2.1 24 = .ok (.if_icmp .le 5, 3) := by decide +kernel
theorem eX10_sheet_27 : decode MX10_sheet.2.1 27 = .ok (.iconst (-1), 1) := by decide +kernel
theorem eX10_sheet_28 : decode MX10_sheet.2.1 28 = .ok (.ireturn, 1) := by decide +kernel
theorem eX10_sheet_29 : decode MX10_sheet.2.1 29 = .ok (.iload_n 3, 1) := by decide +kernel
theorem eX10_sheet_30 : decode MX10_sheet.2.1 30 = .ok (.ifCond .ge 6, 3) := by decide +kernel
theorem eX10_sheet_33 : decode MX10_sheet.2.1 33 = .ok (.bipush (-14), 2) := by decide +kernel
theorem eX10_sheet_35 : decode MX10_sheet.2.1 35 = .ok (.ireturn, 1) := by decide +kernel
theorem eX10_sheet_36 : decode MX10_sheet.2.1 36 = .ok (.aload 4, 2) := by decide +kernel
theorem eX10_sheet_38 : decode MX10_sheet.2.1 38 = .ok (.iload_n 2, 1) := by decide +kernel
theorem eX10_sheet_39 : decode MX10_sheet.2.1 39 = .ok (.iload_n 3, 1) := by decide +kernel
theorem eX10_sheet_40 : decode MX10_sheet.2.1 40 = .ok (.invokevirtual 315, 3) := by decide +kernel
theorem eX10_sheet_43 : decode MX10_sheet.2.1 43 = .ok (.iconst 1, 1) := by decide +kernel
theorem eX10_sheet_44 : decode MX10_sheet.2.1 44 = .ok (.ireturn, 1) := by decide +kernel
set_option maxRecDepth 20000 in
theorem bX10_sheet_0 {d : Nat} {Q : Option Value → St → Prop} (x1 : Int32) (x2 : Int32) (x3 : Int32) (σ : St) 
    (k1 : (0 ≤ x1 ∧ x1 < 4) → x2 < 0 → Q (some (.int (-1))) σ)
    (k2 : (0 ≤ x1 ∧ x1 < 4) → (0 : Int32) ≤ x2 → (3 : Int32) ≤ x2 → Q (some (.int (-1))) σ)
    (k3 : (0 ≤ x1 ∧ x1 < 4) → (0 : Int32) ≤ x2 → x2 < 3 → x3 ≤ 60 → (0 : Int32) ≤ x3 → Ct yX7_renew MX7_renew d [.ref (gr 31 x1.toNatClampNeg), .int x2, .int x3] σ (fun v σ1 => Run MX10_sheet (d + 1) 43 [none, none, none, none, none] (v.toList ++ []) σ1 Q))
    (k4 : (0 ≤ x1 ∧ x1 < 4) → (0 : Int32) ≤ x2 → x2 < 3 → x3 ≤ 60 → x3 < 0 → Q (some (.int (-14))) σ)
    (k5 : (0 ≤ x1 ∧ x1 < 4) → (0 : Int32) ≤ x2 → x2 < 3 → (60 : Int32) < x3 → Q (some (.int (-1))) σ)
    (k6 : (¬ (0 ≤ x1 ∧ x1 < 4)) → Q (some (.int (-1))) σ)
    : Run MX10_sheet (d + 1) 0 [some (.ref 0), some (.int x1), some (.int x2), some (.int x3), none] [] σ Q := by
  refine (go_aload_n 0 eX10_sheet_0 rfl rfl).run ?_
  refine (go_iload_n 1 eX10_sheet_1 rfl rfl).run ?_
  refine Run.callV (d := d) (As := [.int x1]) mX10_sheetNumbered lkX10_311 kd_0 (by decide) rfl rfl rfl rfl rfl (Nat.le_of_ble_eq_true rfl) eX10_sheet_2 (Ct.mono (qX10_sheetNumbered d x1 σ) ?_)
  rintro v1 s1 ⟨hv1, hs1⟩
  rw [hv1, hs1]
  by_cases h1 : 0 ≤ x1 ∧ x1 < 4
  · rw [if_pos h1]
    refine (go_astore 4 (L' := [some (.ref 0), some (.int x1), some (.int x2), some (.int x3), some (.ref (gr 31 x1.toNatClampNeg))]) eX10_sheet_5 (Nat.le_of_ble_eq_true rfl) rfl).run ?_
    refine (go_aload 4 eX10_sheet_7 rfl).run ?_
    refine (go_ifnull_r eX10_sheet_9).run ?_
    refine (go_iload_n 2 eX10_sheet_12 rfl rfl).run ?_
    refine (bz_lt 27 eX10_sheet_13 rfl).run (fun h2 => ?_) (fun h2 => ?_)
    · refine (go_iconst (v := -1) eX10_sheet_27 rfl).run ?_
      exact Run.ret (v := some (.int (-1))) (k1 h1 h2) ⟨Or.inl rfl, eX10_sheet_28⟩ rfl
    · refine (go_iload_n 2 eX10_sheet_16 rfl rfl).run ?_
      refine (go_iconst (v := 3) eX10_sheet_17 rfl).run ?_
      refine (bi_ge 27 eX10_sheet_18 rfl).run (fun h3 => ?_) (fun h3 => ?_)
      · refine (go_iconst (v := -1) eX10_sheet_27 rfl).run ?_
        exact Run.ret (v := some (.int (-1))) (k2 h1 h2 h3) ⟨Or.inl rfl, eX10_sheet_28⟩ rfl
      · refine (go_iload_n 3 eX10_sheet_21 rfl rfl).run ?_
        refine (go_bipush (v := 60) eX10_sheet_22 rfl).run ?_
        refine (bi_le 29 eX10_sheet_24 rfl).run (fun h4 => ?_) (fun h4 => ?_)
        · refine (go_iload_n 3 eX10_sheet_29 rfl rfl).run ?_
          refine (bz_ge 36 eX10_sheet_30 rfl).run (fun h5 => ?_) (fun h5 => ?_)
          · refine (go_aload 4 eX10_sheet_36 rfl).run ?_
            refine (go_iload_n 2 eX10_sheet_38 rfl rfl).run ?_
            refine (go_iload_n 3 eX10_sheet_39 rfl rfl).run ?_
            refine (go_sub (L' := [none, none, none, none, none]) (lsub_drop (lsub_drop (lsub_drop (lsub_drop (lsub_drop lsub_nil)))))).run ?_
            exact Run.callV (d := d) (As := [.int x2, .int x3]) mX7_renew lkX10_315 (ka_104 (vp_of h1.1 h1.2 (by decide))) (by decide) rfl rfl rfl rfl rfl (Nat.le_of_ble_eq_true rfl) eX10_sheet_40 (k3 h1 h2 h3 h4 h5)
          · refine (go_bipush (v := -14) eX10_sheet_33 rfl).run ?_
            exact Run.ret (v := some (.int (-14))) (k4 h1 h2 h3 h4 h5) ⟨Or.inl rfl, eX10_sheet_35⟩ rfl
        · refine (go_iconst (v := -1) eX10_sheet_27 rfl).run ?_
          exact Run.ret (v := some (.int (-1))) (k5 h1 h2 h3 h4) ⟨Or.inl rfl, eX10_sheet_28⟩ rfl
  · rw [if_neg h1]
    refine (go_astoreN 4 (L' := [some (.ref 0), some (.int x1), some (.int x2), some (.int x3), some (.null)]) eX10_sheet_5 (Nat.le_of_ble_eq_true rfl) rfl).run ?_
    refine (go_aloadN 4 eX10_sheet_7 rfl).run ?_
    refine (go_ifnull_n 27 eX10_sheet_9 rfl).run ?_
    refine (go_iconst (v := -1) eX10_sheet_27 rfl).run ?_
    exact Run.ret (v := some (.int (-1))) (k6 h1) ⟨Or.inl rfl, eX10_sheet_28⟩ rfl

set_option maxRecDepth 20000 in
theorem bX10_sheet_43 {d : Nat} {Q : Option Value → St → Prop} (σ : St) 
    (k1 : Q (some (.int 1)) σ)
    : Run MX10_sheet (d + 1) 43 [none, none, none, none, none] [] σ Q := by
  refine (go_iconst (v := 1) eX10_sheet_43 rfl).run ?_
  exact Run.ret (v := some (.int 1)) k1 ⟨Or.inl rfl, eX10_sheet_44⟩ rfl

/-! CarryNets.lay -/
theorem eX10_lay_0 : decode MX10_lay.2.1 0 = .ok (.aload_n 0, 1) := by decide +kernel
theorem eX10_lay_1 : decode MX10_lay.2.1 1 = .ok (.iload_n 1, 1) := by decide +kernel
theorem eX10_lay_2 : decode MX10_lay.2.1 2 = .ok (.invokevirtual 311, 3) := by decide +kernel
theorem eX10_lay_5 : decode MX10_lay.2.1 5 = .ok (.astore 4, 2) := by decide +kernel
theorem eX10_lay_7 : decode MX10_lay.2.1 7 = .ok (.aload 4, 2) := by decide +kernel
theorem eX10_lay_9 : decode MX10_lay.2.1 9 = .ok (.ifnonnull 5, 3) := by decide +kernel
theorem eX10_lay_12 : decode MX10_lay.2.1 12 = .ok (.iconst (-1), 1) := by decide +kernel
theorem eX10_lay_13 : decode MX10_lay.2.1 13 = .ok (.ireturn, 1) := by decide +kernel
theorem eX10_lay_14 : decode MX10_lay.2.1 14 = .ok (.aload 4, 2) := by decide +kernel
theorem eX10_lay_16 : decode MX10_lay.2.1 16 = .ok (.invokevirtual 318, 3) := by decide +kernel
theorem eX10_lay_19 : decode MX10_lay.2.1 19 = .ok (.ifCond .eq 6, 3) := by decide +kernel
theorem eX10_lay_22 : decode MX10_lay.2.1 22 = .ok (.bipush (-11), 2) := by decide +kernel
theorem eX10_lay_24 : decode MX10_lay.2.1 24 = .ok (.ireturn, 1) := by decide +kernel
theorem eX10_lay_25 : decode MX10_lay.2.1 25 = .ok (.aload 4, 2) := by decide +kernel
theorem eX10_lay_27 : decode MX10_lay.2.1 27 = .ok (.iload_n 2, 1) := by decide +kernel
theorem eX10_lay_28 : decode MX10_lay.2.1 28 = .ok (.invokevirtual 321, 3) := by decide +kernel
theorem eX10_lay_31 : decode MX10_lay.2.1 31 = .ok (.ifCond .ne 6, 3) := by decide +kernel
theorem eX10_lay_34 : decode MX10_lay.2.1 34 = .ok (.bipush (-12), 2) := by decide +kernel
theorem eX10_lay_36 : decode MX10_lay.2.1 36 = .ok (.ireturn, 1) := by decide +kernel
theorem eX10_lay_37 : decode MX10_lay.2.1 37 = .ok (.aload 4, 2) := by decide +kernel
theorem eX10_lay_39 : decode MX10_lay.2.1 39 = .ok (.iload_n 2, 1) := by decide +kernel
theorem eX10_lay_40 : decode MX10_lay.2.1 40 = .ok (.iload_n 3, 1) := by decide +kernel
theorem eX10_lay_41 : decode MX10_lay.2.1 41 = .ok (.invokevirtual 325, 3) := by decide +kernel
theorem eX10_lay_44 : decode MX10_lay.2.1 44 = .ok (.iconst 1, 1) := by decide +kernel
theorem eX10_lay_45 : decode MX10_lay.2.1 45 = .ok (.ireturn, 1) := by decide +kernel
set_option maxRecDepth 20000 in
theorem bX10_lay_0 {d : Nat} {Q : Option Value → St → Prop} (x1 : Int32) (x2 : Int32) (x3 : Int32) (σ : St) 
    (k1 : (0 ≤ x1 ∧ x1 < 4) → ¬ ((σ.1 (gr 31 x1.toNatClampNeg) 1) = (-4)) → ((0 : Int32) ≤ x2 ∧ x2 < (σ.1 (gr 31 x1.toNatClampNeg) 0)) → Q (some (.int 1)) (sX7_write (gr 31 x1.toNatClampNeg) x2 x3 σ))
    (k2 : (0 ≤ x1 ∧ x1 < 4) → ¬ ((σ.1 (gr 31 x1.toNatClampNeg) 1) = (-4)) → (¬ ((0 : Int32) ≤ x2 ∧ x2 < (σ.1 (gr 31 x1.toNatClampNeg) 0))) → Q (some (.int (-12))) σ)
    (k3 : (0 ≤ x1 ∧ x1 < 4) → (σ.1 (gr 31 x1.toNatClampNeg) 1) = (-4) → Q (some (.int (-11))) σ)
    (k4 : (¬ (0 ≤ x1 ∧ x1 < 4)) → Q (some (.int (-1))) σ)
    : Run MX10_lay (d + 2) 0 [some (.ref 0), some (.int x1), some (.int x2), some (.int x3), none] [] σ Q := by
  refine (go_aload_n 0 eX10_lay_0 rfl rfl).run ?_
  refine (go_iload_n 1 eX10_lay_1 rfl rfl).run ?_
  refine Run.callV (d := (d + 1)) (As := [.int x1]) mX10_sheetNumbered lkX10_311 kd_0 (by decide) rfl rfl rfl rfl rfl (Nat.le_of_ble_eq_true rfl) eX10_lay_2 (Ct.mono (qX10_sheetNumbered (d + 1) x1 σ) ?_)
  rintro v1 s1 ⟨hv1, hs1⟩
  rw [hv1, hs1]
  by_cases h1 : 0 ≤ x1 ∧ x1 < 4
  · rw [if_pos h1]
    refine (go_astore 4 (L' := [some (.ref 0), some (.int x1), some (.int x2), some (.int x3), some (.ref (gr 31 x1.toNatClampNeg))]) eX10_lay_5 (Nat.le_of_ble_eq_true rfl) rfl).run ?_
    refine (go_aload 4 eX10_lay_7 rfl).run ?_
    refine (go_ifnonnull_r 14 eX10_lay_9 rfl).run ?_
    refine (go_aload 4 eX10_lay_14 rfl).run ?_
    refine Run.callV1 (d := (d + 1)) (As := []) (r := .int (bI ((σ.1 (gr 31 x1.toNatClampNeg) 1) = (-4)))) mX7_isNothing lkX10_318 (ka_104 (vp_of h1.1 h1.2 (by decide))) (by decide) rfl rfl rfl rfl rfl (Nat.le_of_ble_eq_true rfl) eX10_lay_16 (qX7_isNothing (d + 1) (gr 31 x1.toNatClampNeg) σ (ka_104 (vp_of h1.1 h1.2 (by decide))) ) ?_
    refine (br_ifeq_b 25 eX10_lay_19 rfl).run (fun h2 => ?_) (fun h2 => ?_)
    · refine (go_aload 4 eX10_lay_25 rfl).run ?_
      refine (go_iload_n 2 eX10_lay_27 rfl rfl).run ?_
      refine Run.callV1 (d := (d + 1)) (As := [.int x2]) (r := .int (bI ((0 : Int32) ≤ x2 ∧ x2 < (σ.1 (gr 31 x1.toNatClampNeg) 0)))) mX7_hasCell lkX10_321 (ka_104 (vp_of h1.1 h1.2 (by decide))) (by decide) rfl rfl rfl rfl rfl (Nat.le_of_ble_eq_true rfl) eX10_lay_28 (qX7_hasCell (d + 1) (gr 31 x1.toNatClampNeg) x2 σ (ka_104 (vp_of h1.1 h1.2 (by decide))) ) ?_
      refine (br_ifne_b 37 eX10_lay_31 rfl).run (fun h3 => ?_) (fun h3 => ?_)
      · refine (go_aload 4 eX10_lay_37 rfl).run ?_
        refine (go_iload_n 2 eX10_lay_39 rfl rfl).run ?_
        refine (go_iload_n 3 eX10_lay_40 rfl rfl).run ?_
        refine Run.callV0 (d := (d + 1)) (As := [.int x2, .int x3]) mX7_write lkX10_325 (ka_104 (vp_of h1.1 h1.2 (by decide))) (by decide) rfl rfl rfl rfl rfl (Nat.le_of_ble_eq_true rfl) eX10_lay_41 (qX7_write d (gr 31 x1.toNatClampNeg) x2 x3 σ (ka_104 (vp_of h1.1 h1.2 (by decide))) ) ?_
        refine (go_iconst (v := 1) eX10_lay_44 rfl).run ?_
        exact Run.ret (v := some (.int 1)) (k1 h1 h2 h3) ⟨Or.inl rfl, eX10_lay_45⟩ rfl
      · refine (go_bipush (v := -12) eX10_lay_34 rfl).run ?_
        exact Run.ret (v := some (.int (-12))) (k2 h1 h2 h3) ⟨Or.inl rfl, eX10_lay_36⟩ rfl
    · refine (go_bipush (v := -11) eX10_lay_22 rfl).run ?_
      exact Run.ret (v := some (.int (-11))) (k3 h1 h2) ⟨Or.inl rfl, eX10_lay_24⟩ rfl
  · rw [if_neg h1]
    refine (go_astoreN 4 (L' := [some (.ref 0), some (.int x1), some (.int x2), some (.int x3), some (.null)]) eX10_lay_5 (Nat.le_of_ble_eq_true rfl) rfl).run ?_
    refine (go_aloadN 4 eX10_lay_7 rfl).run ?_
    refine (go_ifnonnull_n eX10_lay_9).run ?_
    refine (go_iconst (v := -1) eX10_lay_12 rfl).run ?_
    exact Run.ret (v := some (.int (-1))) (k4 h1) ⟨Or.inl rfl, eX10_lay_13⟩ rfl

/-! CarryNets.heights -/
theorem eX10_heights_0 : decode MX10_heights.2.1 0 = .ok (.aload_n 0, 1) := by decide +kernel
theorem eX10_heights_1 : decode MX10_heights.2.1 1 = .ok (.iload_n 1, 1) := by decide +kernel
theorem eX10_heights_2 : decode MX10_heights.2.1 2 = .ok (.invokevirtual 311, 3) := by decide +kernel
theorem eX10_heights_5 : decode MX10_heights.2.1 5 = .ok (.astore 5, 2) := by decide +kernel
theorem eX10_heights_7 : decode MX10_heights.2.1 7 = .ok (.aload 5, 2) := by decide +kernel
theorem eX10_heights_9 : decode MX10_heights.2.1 9 = .ok (.ifnull 25, 3) := by decide +kernel
theorem eX10_heights_12 : decode MX10_heights.2.1 12 = .ok (.iload_n 2, 1) := by decide +kernel
theorem eX10_heights_13 : decode MX10_heights.2.1 13 = .ok (.ifCond .lt 21, 3) := by decide +kernel
theorem eX10_heights_16 : decode MX10_heights.2.1 16 = .ok (.iload_n 2, 1) := by decide +kernel
theorem eX10_heights_17 : decode MX10_heights.2.1 17 = .ok (.iconst 3, 1) := by decide +kernel
theorem eX10_heights_18 : decode MX10_heights.2.1 18 = .ok (.if_icmp .ge 16, 3) := by decide +kernel
theorem eX10_heights_21 : decode MX10_heights.2.1 21 = .ok (.iload 4, 2) := by decide +kernel
theorem eX10_heights_23 : decode MX10_heights.2.1 23 = .ok (.iconst 1, 1) := by decide +kernel
theorem eX10_heights_24 : decode MX10_heights.2.1 24 = .ok (.if_icmp .lt 10, 3) := by decide +kernel
theorem eX10_heights_27 : decode MX10_heights.2.1 27 = .ok (.iload 4, 2) := by decide +kernel
theorem eX10_heights_29 : decode MX10_heights.2.1 29 = .ok (.bipush 12, 2) := by decide +kernel
theorem eX10_heights_31 : decode MX10_heights.2.1 31 = .ok (.if_icmp .le 5, 3) := by decide +kernel
theorem eX10_heights_34 : decode MX10_heights.2.1 34 = .ok (.iconst (-1), 1) := by decide +kernel
theorem eX10_heights_35 : decode MX10_heights.2.1 35 = .ok (.ireturn, 1) := by decide +kernel
theorem eX10_heights_36 : decode MX10_heights.2.1 36 = .ok (.aload 5, 2) := by decide +kernel
theorem eX10_heights_38 : decode MX10_heights.2.1 38 = .ok (.iload_n 2, 1) := by decide +kernel
theorem eX10_heights_39 : decode MX10_heights.2.1 39 = .ok (.iload_n 3, 1) := by decide +kernel
theorem eX10_heights_40 : decode MX10_heights.2.1 40 = .ok (.iload 4, 2) := by decide +kernel
theorem eX10_heights_42 : decode MX10_heights.2.1 42 = .ok (.invokevirtual 328, 3) := by decide +kernel
theorem eX10_heights_45 : decode MX10_heights.2.1 45 = .ok (.istore 6, 2) := by decide +kernel
theorem eX10_heights_47 : decode MX10_heights.2.1 47 = .ok (.iload 6, 2) := by decide +kernel
theorem eX10_heights_49 : decode MX10_heights.2.1 49 = .ok (.ifCond .eq 6, 3) := by decide +kernel
theorem eX10_heights_52 : decode MX10_heights.2.1 52 = .ok (.iload 6, 2) := by decide +kernel
theorem eX10_heights_54 : decode MX10_heights.2.1 54 = .ok (.ireturn, 1) := by decide +kernel
theorem eX10_heights_55 : decode MX10_heights.2.1 55 = .ok (.aload_n 0, 1) := by decide +kernel
theorem eX10_heights_56 : decode MX10_heights.2.1 56 = .ok (.getfield 64, 3) := by decide +kernel
theorem eX10_heights_59 : decode MX10_heights.2.1 59 = .ok (.invokevirtual 267, 3) := by decide +kernel
theorem eX10_heights_62 : decode MX10_heights.2.1 62 = .ok (.iconst 0, 1) := by decide +kernel
theorem eX10_heights_63 : decode MX10_heights.2.1 63 = .ok (.istore 7, 2) := by decide +kernel
theorem eX10_heights_65 : decode MX10_heights.2.1 65 = .ok (.iload 7, 2) := by decide +kernel
theorem eX10_heights_67 : decode MX10_heights.2.1 67 = .ok (.iload 4, 2) := by decide +kernel
theorem eX10_heights_69 : decode MX10_heights.2.1 69 = .ok (.if_icmp .ge 27, 3) := by decide +kernel
theorem eX10_heights_72 : decode MX10_heights.2.1 72 = .ok (.aload_n 0, 1) := by decide +kernel
theorem eX10_heights_73 : decode MX10_heights.2.1 73 = .ok (.getfield 64, 3) := by decide +kernel
theorem eX10_heights_76 : decode MX10_heights.2.1 76 = .ok (.iload 7, 2) := by decide +kernel
theorem eX10_heights_78 : decode MX10_heights.2.1 78 = .ok (.aload 5, 2) := by decide +kernel
theorem eX10_heights_80 : decode MX10_heights.2.1 80 = .ok (.iload_n 3, 1) := by decide +kernel
theorem eX10_heights_81 : decode MX10_heights.2.1 81 = .ok (.iload 7, 2) := by decide +kernel
theorem eX10_heights_83 : decode MX10_heights.2.1 83 = .ok (.iadd, 1) := by decide +kernel
theorem eX10_heights_84 : decode MX10_heights.2.1 84 = .ok (.invokevirtual 332, 3) := by decide +kernel
theorem eX10_heights_87 : decode MX10_heights.2.1 87 = .ok (.invokevirtual 263, 3) := by decide +kernel
theorem eX10_heights_90 : decode MX10_heights.2.1 90 = .ok (.iinc 7 1, 3) := by decide +kernel
theorem eX10_heights_93 : decode MX10_heights.2.1 93 = .ok (.goto (-28), 3) := by decide +kernel
theorem eX10_heights_96 : decode MX10_heights.2.1 96 = .ok (.aload_n 0, 1) := by decide +kernel
theorem eX10_heights_97 : decode MX10_heights.2.1 97 = .ok (.getfield 64, 3) := by decide +kernel
theorem eX10_heights_100 : decode MX10_heights.2.1 100 = .ok (.invokevirtual 295, 3) := by decide +kernel
theorem eX10_heights_103 : decode MX10_heights.2.1 103 = .ok (.ireturn, 1) := by decide +kernel
set_option maxRecDepth 20000 in
theorem bX10_heights_0 {d : Nat} {Q : Option Value → St → Prop} (x1 : Int32) (x2 : Int32) (x3 : Int32) (x4 : Int32) (σ : St) 
    (k1 : (0 ≤ x1 ∧ x1 < 4) → x2 < 0 → Q (some (.int (-1))) σ)
    (k2 : (0 ≤ x1 ∧ x1 < 4) → (0 : Int32) ≤ x2 → (3 : Int32) ≤ x2 → Q (some (.int (-1))) σ)
    (k3 : (0 ≤ x1 ∧ x1 < 4) → (0 : Int32) ≤ x2 → x2 < 3 → x4 < 1 → Q (some (.int (-1))) σ)
    (k4 : (0 ≤ x1 ∧ x1 < 4) → (0 : Int32) ≤ x2 → x2 < 3 → (1 : Int32) ≤ x4 → x4 ≤ 12 → Ct yX7_refusal MX7_refusal (d + 2) [.ref (gr 31 x1.toNatClampNeg), .int x2, .int x3, .int x4] σ (fun v σ1 => Run MX10_heights (d + 3) 45 [some (.ref 0), none, none, some (.int x3), some (.int x4), some (.ref (gr 31 x1.toNatClampNeg)), none, none] (v.toList ++ []) σ1 Q))
    (k5 : (0 ≤ x1 ∧ x1 < 4) → (0 : Int32) ≤ x2 → x2 < 3 → (1 : Int32) ≤ x4 → (12 : Int32) < x4 → Q (some (.int (-1))) σ)
    (k6 : (¬ (0 ≤ x1 ∧ x1 < 4)) → Q (some (.int (-1))) σ)
    : Run MX10_heights (d + 3) 0 [some (.ref 0), some (.int x1), some (.int x2), some (.int x3), some (.int x4), none, none, none] [] σ Q := by
  refine (go_aload_n 0 eX10_heights_0 rfl rfl).run ?_
  refine (go_iload_n 1 eX10_heights_1 rfl rfl).run ?_
  refine Run.callV (d := (d + 2)) (As := [.int x1]) mX10_sheetNumbered lkX10_311 kd_0 (by decide) rfl rfl rfl rfl rfl (Nat.le_of_ble_eq_true rfl) eX10_heights_2 (Ct.mono (qX10_sheetNumbered (d + 2) x1 σ) ?_)
  rintro v1 s1 ⟨hv1, hs1⟩
  rw [hv1, hs1]
  by_cases h1 : 0 ≤ x1 ∧ x1 < 4
  · rw [if_pos h1]
    refine (go_astore 5 (L' := [some (.ref 0), some (.int x1), some (.int x2), some (.int x3), some (.int x4), some (.ref (gr 31 x1.toNatClampNeg)), none, none]) eX10_heights_5 (Nat.le_of_ble_eq_true rfl) rfl).run ?_
    refine (go_aload 5 eX10_heights_7 rfl).run ?_
    refine (go_ifnull_r eX10_heights_9).run ?_
    refine (go_iload_n 2 eX10_heights_12 rfl rfl).run ?_
    refine (bz_lt 34 eX10_heights_13 rfl).run (fun h2 => ?_) (fun h2 => ?_)
    · refine (go_iconst (v := -1) eX10_heights_34 rfl).run ?_
      exact Run.ret (v := some (.int (-1))) (k1 h1 h2) ⟨Or.inl rfl, eX10_heights_35⟩ rfl
    · refine (go_iload_n 2 eX10_heights_16 rfl rfl).run ?_
      refine (go_iconst (v := 3) eX10_heights_17 rfl).run ?_
      refine (bi_ge 34 eX10_heights_18 rfl).run (fun h3 => ?_) (fun h3 => ?_)
      · refine (go_iconst (v := -1) eX10_heights_34 rfl).run ?_
        exact Run.ret (v := some (.int (-1))) (k2 h1 h2 h3) ⟨Or.inl rfl, eX10_heights_35⟩ rfl
      · refine (go_iload 4 eX10_heights_21 rfl).run ?_
        refine (go_iconst (v := 1) eX10_heights_23 rfl).run ?_
        refine (bi_lt 34 eX10_heights_24 rfl).run (fun h4 => ?_) (fun h4 => ?_)
        · refine (go_iconst (v := -1) eX10_heights_34 rfl).run ?_
          exact Run.ret (v := some (.int (-1))) (k3 h1 h2 h3 h4) ⟨Or.inl rfl, eX10_heights_35⟩ rfl
        · refine (go_iload 4 eX10_heights_27 rfl).run ?_
          refine (go_bipush (v := 12) eX10_heights_29 rfl).run ?_
          refine (bi_le 36 eX10_heights_31 rfl).run (fun h5 => ?_) (fun h5 => ?_)
          · refine (go_aload 5 eX10_heights_36 rfl).run ?_
            refine (go_iload_n 2 eX10_heights_38 rfl rfl).run ?_
            refine (go_iload_n 3 eX10_heights_39 rfl rfl).run ?_
            refine (go_iload 4 eX10_heights_40 rfl).run ?_
            refine (go_sub (L' := [some (.ref 0), none, none, some (.int x3), some (.int x4), some (.ref (gr 31 x1.toNatClampNeg)), none, none]) (lsub_keep (lsub_drop (lsub_drop (lsub_keep (lsub_keep (lsub_keep (lsub_keep (lsub_keep lsub_nil))))))))).run ?_
            exact Run.callV (d := (d + 2)) (As := [.int x2, .int x3, .int x4]) mX7_refusal lkX10_328 (ka_104 (vp_of h1.1 h1.2 (by decide))) (by decide) rfl rfl rfl rfl rfl (Nat.le_of_ble_eq_true rfl) eX10_heights_42 (k4 h1 h2 h3 h4 h5)
          · refine (go_iconst (v := -1) eX10_heights_34 rfl).run ?_
            exact Run.ret (v := some (.int (-1))) (k5 h1 h2 h3 h4 h5) ⟨Or.inl rfl, eX10_heights_35⟩ rfl
  · rw [if_neg h1]
    refine (go_astoreN 5 (L' := [some (.ref 0), some (.int x1), some (.int x2), some (.int x3), some (.int x4), some (.null), none, none]) eX10_heights_5 (Nat.le_of_ble_eq_true rfl) rfl).run ?_
    refine (go_aloadN 5 eX10_heights_7 rfl).run ?_
    refine (go_ifnull_n 34 eX10_heights_9 rfl).run ?_
    refine (go_iconst (v := -1) eX10_heights_34 rfl).run ?_
    exact Run.ret (v := some (.int (-1))) (k6 h1) ⟨Or.inl rfl, eX10_heights_35⟩ rfl

set_option maxRecDepth 20000 in
theorem bX10_heights_45 {d : Nat} {Q : Option Value → St → Prop} (x3 : Int32) (x4 : Int32) (rx5 : Nat) (s0 : Int32) (σ : St) (hrx5 : kd rx5 = 6) 
    (k1 : s0 = 0 → Ct yX3_clear MX3_clear (d + 2) [.ref 27] σ (fun v σ1 => Run MX10_heights (d + 3) 62 [some (.ref 0), none, none, some (.int x3), some (.int x4), some (.ref rx5), none, none] (v.toList ++ []) σ1 Q))
    (k2 : ¬ s0 = 0 → Q (some (.int s0)) σ)
    : Run MX10_heights (d + 3) 45 [some (.ref 0), none, none, some (.int x3), some (.int x4), some (.ref rx5), none, none] [.int s0] σ Q := by
  refine (go_istore 6 (L' := [some (.ref 0), none, none, some (.int x3), some (.int x4), some (.ref rx5), some (.int s0), none]) eX10_heights_45 (Nat.le_of_ble_eq_true rfl) rfl).run ?_
  refine (go_iload 6 eX10_heights_47 rfl).run ?_
  refine (bz_eq 55 eX10_heights_49 rfl).run (fun h1 => ?_) (fun h1 => ?_)
  · refine (go_aload_n 0 eX10_heights_55 rfl rfl).run ?_
    refine (go_getr flX10_64 rf_9_9 kd_0 gr_0_9 eX10_heights_56).run ?_
    refine (go_sub (L' := [some (.ref 0), none, none, some (.int x3), some (.int x4), some (.ref rx5), none, none]) (lsub_keep (lsub_keep (lsub_keep (lsub_keep (lsub_keep (lsub_keep (lsub_drop (lsub_keep lsub_nil))))))))).run ?_
    exact Run.callV (d := (d + 2)) (As := []) mX3_clear lkX10_267 kd_27 (by decide) rfl rfl rfl rfl rfl (Nat.le_of_ble_eq_true rfl) eX10_heights_59 (k1 h1)
  · refine (go_iload 6 eX10_heights_52 rfl).run ?_
    exact Run.ret (v := some (.int s0)) (k2 h1) ⟨Or.inl rfl, eX10_heights_54⟩ rfl

set_option maxRecDepth 20000 in
theorem bX10_heights_62 {d : Nat} {Q : Option Value → St → Prop} (x3 : Int32) (x4 : Int32) (rx5 : Nat) (σ : St) (hrx5 : kd rx5 = 6) 
    (k1 : Run MX10_heights (d + 3) 65 [some (.ref 0), none, none, some (.int x3), some (.int x4), some (.ref rx5), none, some (.int 0)] [] σ Q)
    : Run MX10_heights (d + 3) 62 [some (.ref 0), none, none, some (.int x3), some (.int x4), some (.ref rx5), none, none] [] σ Q := by
  refine (go_iconst (v := 0) eX10_heights_62 rfl).run ?_
  refine (go_istore 7 (L' := [some (.ref 0), none, none, some (.int x3), some (.int x4), some (.ref rx5), none, some (.int 0)]) eX10_heights_63 (Nat.le_of_ble_eq_true rfl) rfl).run ?_
  exact k1

set_option maxRecDepth 20000 in
theorem bX10_heights_65 {d : Nat} {Q : Option Value → St → Prop} (x3 : Int32) (x4 : Int32) (rx5 : Nat) (x7 : Int32) (σ : St) (hrx5 : kd rx5 = 6) 
    (k1 : x4 ≤ x7 → Ct yX3_allBits MX3_allBits (d + 2) [.ref 27] σ (fun v σ1 => Run MX10_heights (d + 3) 103 [none, none, none, none, none, none, none, none] (v.toList ++ []) σ1 Q))
    (k2 : x7 < x4 → Run MX10_heights (d + 3) 65 [some (.ref 0), none, none, some (.int x3), some (.int x4), some (.ref rx5), none, some (.int (x7 + 1))] [] (sX3_setHeight 27 x7 (((aG (gr rx5 2) (x3 + x7) σ))) σ) Q)
    : Run MX10_heights (d + 3) 65 [some (.ref 0), none, none, some (.int x3), some (.int x4), some (.ref rx5), none, some (.int x7)] [] σ Q := by
  refine (go_iload 7 eX10_heights_65 rfl).run ?_
  refine (go_iload 4 eX10_heights_67 rfl).run ?_
  refine (bi_ge 96 eX10_heights_69 rfl).run (fun h1 => ?_) (fun h1 => ?_)
  · refine (go_aload_n 0 eX10_heights_96 rfl rfl).run ?_
    refine (go_getr flX10_64 rf_9_9 kd_0 gr_0_9 eX10_heights_97).run ?_
    refine (go_sub (L' := [none, none, none, none, none, none, none, none]) (lsub_drop (lsub_keep (lsub_keep (lsub_drop (lsub_drop (lsub_drop (lsub_keep (lsub_drop lsub_nil))))))))).run ?_
    exact Run.callV (d := (d + 2)) (As := []) mX3_allBits lkX10_295 kd_27 (by decide) rfl rfl rfl rfl rfl (Nat.le_of_ble_eq_true rfl) eX10_heights_100 (k1 h1)
  · refine (go_aload_n 0 eX10_heights_72 rfl rfl).run ?_
    refine (go_getr flX10_64 rf_9_9 kd_0 gr_0_9 eX10_heights_73).run ?_
    refine (go_iload 7 eX10_heights_76 rfl).run ?_
    refine (go_aload 5 eX10_heights_78 rfl).run ?_
    refine (go_iload_n 3 eX10_heights_80 rfl rfl).run ?_
    refine (go_iload 7 eX10_heights_81 rfl).run ?_
    refine (go_iadd eX10_heights_83).run ?_
    refine Run.callV1 (d := (d + 2)) (As := [.int (x3 + x7)]) (r := .int (((aG (gr rx5 2) (x3 + x7) σ)))) mX7_read lkX10_332 hrx5 (by decide) rfl rfl rfl rfl rfl (Nat.le_of_ble_eq_true rfl) eX10_heights_84 (qX7_read (d + 1) rx5 (x3 + x7) σ hrx5 ) ?_
    refine Run.callV0 (d := (d + 2)) (As := [.int x7, .int (((aG (gr rx5 2) (x3 + x7) σ)))]) mX3_setHeight lkX10_263 kd_27 (by decide) rfl rfl rfl rfl rfl (Nat.le_of_ble_eq_true rfl) eX10_heights_87 (qX3_setHeight (d + 1) 27 x7 (((aG (gr rx5 2) (x3 + x7) σ))) σ kd_27 ) ?_
    refine (go_iinc 7 (v := (x7 + 1)) (L' := [some (.ref 0), none, none, some (.int x3), some (.int x4), some (.ref rx5), none, some (.int (x7 + 1))]) eX10_heights_90 rfl rfl (Nat.le_of_ble_eq_true rfl) rfl).run ?_
    refine (go_goto 65 eX10_heights_93 rfl).run ?_
    exact (k2 h1)

set_option maxRecDepth 20000 in
theorem bX10_heights_103 {d : Nat} {Q : Option Value → St → Prop} (s0 : Int32) (σ : St) 
    (k1 : Q (some (.int s0)) σ)
    : Run MX10_heights (d + 3) 103 [none, none, none, none, none, none, none, none] [.int s0] σ Q := by
  exact Run.ret (v := some (.int s0)) k1 ⟨Or.inl rfl, eX10_heights_103⟩ rfl

/-! CarryNets.cellsOfFirstSheet -/
theorem eX10_cellsOfFirstSheet_0 : decode MX10_cellsOfFirstSheet.2.1 0 = .ok (.aload_n 0, 1) := by decide +kernel
theorem eX10_cellsOfFirstSheet_1 : decode MX10_cellsOfFirstSheet.2.1 1 = .ok (.iconst 0, 1) := by decide +kernel
theorem eX10_cellsOfFirstSheet_2 : decode MX10_cellsOfFirstSheet.2.1 2 = .ok (.invokevirtual 311, 3) := by decide +kernel
theorem eX10_cellsOfFirstSheet_5 : decode MX10_cellsOfFirstSheet.2.1 5 = .ok (.astore_n 1, 1) := by decide +kernel
theorem eX10_cellsOfFirstSheet_6 : decode MX10_cellsOfFirstSheet.2.1 6 = .ok (.aload_n 1, 1) := by decide +kernel
theorem eX10_cellsOfFirstSheet_7 : decode MX10_cellsOfFirstSheet.2.1 7 = .ok (.ifnull 10, 3) := by decide +kernel
theorem eX10_cellsOfFirstSheet_10 : decode MX10_cellsOfFirstSheet.2.1 10 = .ok (.aload_n 1, 1) := by decide +kernel
theorem eX10_cellsOfFirstSheet_11 : decode MX10_cellsOfFirstSheet.2.1 11 = .ok (.invokevirtual 318, 3) := by decide +kernel
theorem eX10_cellsOfFirstSheet_14 : decode MX10_cellsOfFirstSheet.2.1 14 = .ok (.ifCond .eq 8, 3) := by decide +kernel
theorem eX10_cellsOfFirstSheet_17 : decode MX10_cellsOfFirstSheet.2.1 17 = .ok (.bipush (-4), 2) := by decide +kernel
theorem eX10_cellsOfFirstSheet_19 : decode MX10_cellsOfFirstSheet.2.1 19 = .ok (.goto 7, 3) := by decide +kernel
theorem eX10_cellsOfFirstSheet_22 : decode MX10_cellsOfFirstSheet.2.1 22 = .ok (.aload_n 1, 1) := by decide +kernel
theorem eX10_cellsOfFirstSheet_23 : decode MX10_cellsOfFirstSheet.2.1 23 = .ok (.getfield 353, 3) := by decide +kernel
theorem eX10_cellsOfFirstSheet_26 : decode MX10_cellsOfFirstSheet.2.1 26 = .ok (.ireturn, 1) := by decide +kernel
set_option maxRecDepth 20000 in
theorem bX10_cellsOfFirstSheet_0 {d : Nat} {Q : Option Value → St → Prop} (σ : St) 
    (k1 : (0 ≤ (0 : Int32) ∧ (0 : Int32) < 4) → Q (some (.int (if (σ.1 (gr 31 (0 : Int32).toNatClampNeg) 1) = (-4) then (-4 : Int32) else (σ.1 ((gr 31 (0 : Int32).toNatClampNeg)) 0)))) σ)
    (k2 : (¬ (0 ≤ (0 : Int32) ∧ (0 : Int32) < 4)) → Q (some (.int (-4))) σ)
    : Run MX10_cellsOfFirstSheet (d + 1) 0 [some (.ref 0), none] [] σ Q := by
  refine (go_aload_n 0 eX10_cellsOfFirstSheet_0 rfl rfl).run ?_
  refine (go_iconst (v := 0) eX10_cellsOfFirstSheet_1 rfl).run ?_
  refine Run.callV (d := d) (As := [.int 0]) mX10_sheetNumbered lkX10_311 kd_0 (by decide) rfl rfl rfl rfl rfl (Nat.le_of_ble_eq_true rfl) eX10_cellsOfFirstSheet_2 (Ct.mono (qX10_sheetNumbered d (0 : Int32) σ) ?_)
  rintro v1 s1 ⟨hv1, hs1⟩
  rw [hv1, hs1]
  by_cases h1 : 0 ≤ (0 : Int32) ∧ (0 : Int32) < 4
  · rw [if_pos h1]
    refine (go_astore_n 1 (L' := [some (.ref 0), some (.ref (gr 31 (0 : Int32).toNatClampNeg))]) eX10_cellsOfFirstSheet_5 rfl (Nat.le_of_ble_eq_true rfl) rfl).run ?_
    refine (go_aload_n 1 eX10_cellsOfFirstSheet_6 rfl rfl).run ?_
    refine (go_ifnull_r eX10_cellsOfFirstSheet_7).run ?_
    refine (go_aload_n 1 eX10_cellsOfFirstSheet_10 rfl rfl).run ?_
    refine Run.callV1 (d := d) (As := []) (r := .int (bI ((σ.1 (gr 31 (0 : Int32).toNatClampNeg) 1) = (-4)))) mX7_isNothing lkX10_318 (ka_104 (vp_of h1.1 h1.2 (by decide))) (by decide) rfl rfl rfl rfl rfl (Nat.le_of_ble_eq_true rfl) eX10_cellsOfFirstSheet_11 (qX7_isNothing d (gr 31 (0 : Int32).toNatClampNeg) σ (ka_104 (vp_of h1.1 h1.2 (by decide))) ) ?_
    have hJh2 : Run MX10_cellsOfFirstSheet (d + 1) 26 [none, none] [.int (if (σ.1 (gr 31 (0 : Int32).toNatClampNeg) 1) = (-4) then (-4 : Int32) else (σ.1 ((gr 31 (0 : Int32).toNatClampNeg)) 0))] σ Q := by
      exact Run.ret (v := some (.int (if (σ.1 (gr 31 (0 : Int32).toNatClampNeg) 1) = (-4) then (-4 : Int32) else (σ.1 ((gr 31 (0 : Int32).toNatClampNeg)) 0)))) (k1 h1) ⟨Or.inl rfl, eX10_cellsOfFirstSheet_26⟩ rfl
    refine (br_ifeq_b 22 eX10_cellsOfFirstSheet_14 rfl).run (fun h2 => ?_) (fun h2 => ?_)
    · refine (go_aload_n 1 eX10_cellsOfFirstSheet_22 rfl rfl).run ?_
      refine (go_geti flX10_353 rf_6_0 (ka_104 (vp_of h1.1 h1.2 (by decide))) eX10_cellsOfFirstSheet_23).run ?_
      refine (go_sub (L' := [none, none]) (lsub_drop (lsub_drop lsub_nil))).run ?_
      first | exact hJh2 | (simp only [if_neg (h2)] at hJh2; exact hJh2) | (simp only [eq_false h2, not_false_eq_true, true_and, and_true, false_and, and_false, true_or, or_true, false_or, or_false, not_true_eq_false, not_false_eq_true] at hJh2; exact hJh2) | exact Run.eq (by simp [eq_false h2, not_false_eq_true, bI]) (by simp [eq_false h2, not_false_eq_true, bI]) rfl hJh2
    · refine (go_bipush (v := -4) eX10_cellsOfFirstSheet_17 rfl).run ?_
      refine (go_goto 26 eX10_cellsOfFirstSheet_19 rfl).run ?_
      refine (go_sub (L' := [none, none]) (lsub_drop (lsub_drop lsub_nil))).run ?_
      first | exact hJh2 | (simp only [if_pos h2] at hJh2; exact hJh2) | (simp only [eq_true h2, not_true_eq_false, true_and, and_true, false_and, and_false, true_or, or_true, false_or, or_false, not_true_eq_false, not_false_eq_true] at hJh2; exact hJh2) | exact Run.eq (by simp [eq_true h2, not_true_eq_false, bI]) (by simp [eq_true h2, not_true_eq_false, bI]) rfl hJh2
  · rw [if_neg h1]
    refine (go_astore_nN 1 (L' := [some (.ref 0), some (.null)]) eX10_cellsOfFirstSheet_5 rfl (Nat.le_of_ble_eq_true rfl) rfl).run ?_
    refine (go_aload_nN 1 eX10_cellsOfFirstSheet_6 rfl rfl).run ?_
    refine (go_ifnull_n 17 eX10_cellsOfFirstSheet_7 rfl).run ?_
    refine (go_bipush (v := -4) eX10_cellsOfFirstSheet_17 rfl).run ?_
    refine (go_goto 26 eX10_cellsOfFirstSheet_19 rfl).run ?_
    exact Run.ret (v := some (.int (-4))) (k2 h1) ⟨Or.inl rfl, eX10_cellsOfFirstSheet_26⟩ rfl

/-! CarryNets.count -/
theorem eX10_count_0 : decode MX10_count.2.1 0 = .ok (.iload_n 1, 1) := by decide +kernel
theorem eX10_count_1 : decode MX10_count.2.1 1 = .ok (.tableswitch 69 0 4 #[35, 40, 48, 56, 64], 35) := by decide +kernel
theorem eX10_count_36 : decode MX10_count.2.1 36 = .ok (.aload_n 0, 1) := by decide +kernel
theorem eX10_count_37 : decode MX10_count.2.1 37 = .ok (.getfield 111, 3) := by decide +kernel
theorem eX10_count_40 : decode MX10_count.2.1 40 = .ok (.ireturn, 1) := by decide +kernel
theorem eX10_count_41 : decode MX10_count.2.1 41 = .ok (.aload_n 0, 1) := by decide +kernel
theorem eX10_count_42 : decode MX10_count.2.1 42 = .ok (.getfield 39, 3) := by decide +kernel
theorem eX10_count_45 : decode MX10_count.2.1 45 = .ok (.getfield 175, 3) := by decide +kernel
theorem eX10_count_48 : decode MX10_count.2.1 48 = .ok (.ireturn, 1) := by decide +kernel
theorem eX10_count_49 : decode MX10_count.2.1 49 = .ok (.aload_n 0, 1) := by decide +kernel
theorem eX10_count_50 : decode MX10_count.2.1 50 = .ok (.getfield 39, 3) := by decide +kernel
theorem eX10_count_53 : decode MX10_count.2.1 53 = .ok (.getfield 178, 3) := by decide +kernel
theorem eX10_count_56 : decode MX10_count.2.1 56 = .ok (.ireturn, 1) := by decide +kernel
theorem eX10_count_57 : decode MX10_count.2.1 57 = .ok (.aload_n 0, 1) := by decide +kernel
theorem eX10_count_58 : decode MX10_count.2.1 58 = .ok (.getfield 18, 3) := by decide +kernel
theorem eX10_count_61 : decode MX10_count.2.1 61 = .ok (.getfield 83, 3) := by decide +kernel
theorem eX10_count_64 : decode MX10_count.2.1 64 = .ok (.ireturn, 1) := by decide +kernel
theorem eX10_count_65 : decode MX10_count.2.1 65 = .ok (.aload_n 0, 1) := by decide +kernel
theorem eX10_count_66 : decode MX10_count.2.1 66 = .ok (.invokevirtual 335, 3) := by decide +kernel
theorem eX10_count_69 : decode MX10_count.2.1 69 = .ok (.ireturn, 1) := by decide +kernel
theorem eX10_count_70 : decode MX10_count.2.1 70 = .ok (.iconst (-1), 1) := by decide +kernel
theorem eX10_count_71 : decode MX10_count.2.1 71 = .ok (.ireturn, 1) := by decide +kernel
set_option maxRecDepth 20000 in
theorem bX10_count_0 {d : Nat} {Q : Option Value → St → Prop} (x1 : Int32) (σ : St) 
    (k1 : x1 = 0 → Q (some (.int (σ.1 0 1))) σ)
    (k2 : x1 = 1 → Q (some (.int (σ.1 14 0))) σ)
    (k3 : x1 = 2 → Q (some (.int (σ.1 14 1))) σ)
    (k4 : x1 = 3 → Q (some (.int (σ.1 2 0))) σ)
    (k5 : x1 = 4 → Ct yX10_cellsOfFirstSheet MX10_cellsOfFirstSheet (d + 1) [.ref 0] σ (fun v σ1 => Run MX10_count (d + 2) 69 [none, none] (v.toList ++ []) σ1 Q))
    (k6 : (x1.toInt < 0 ∨ 4 < x1.toInt) → Q (some (.int (-1))) σ)
    : Run MX10_count (d + 2) 0 [some (.ref 0), some (.int x1)] [] σ Q := by
  refine (go_iload_n 1 eX10_count_0 rfl rfl).run ?_
  by_cases h1 : x1 = 0
  · refine (go_tableIn 36 eX10_count_1 (by rw [h1]; decide) (by rw [h1]; decide) (by rw [h1]; rfl) rfl).run ?_
    refine (go_aload_n 0 eX10_count_36 rfl rfl).run ?_
    refine (go_geti flX10_111 rf_9_1 kd_0 eX10_count_37).run ?_
    exact Run.ret (v := some (.int (σ.1 0 1))) (k1 h1) ⟨Or.inl rfl, eX10_count_40⟩ rfl
  have nh1_0 := h1
  clear h1
  by_cases h1 : x1 = 1
  · refine (go_tableIn 41 eX10_count_1 (by rw [h1]; decide) (by rw [h1]; decide) (by rw [h1]; rfl) rfl).run ?_
    refine (go_aload_n 0 eX10_count_41 rfl rfl).run ?_
    refine (go_getr flX10_39 rf_9_5 kd_0 gr_0_5 eX10_count_42).run ?_
    refine (go_geti flX10_175 rf_2_0 kd_14 eX10_count_45).run ?_
    exact Run.ret (v := some (.int (σ.1 14 0))) (k2 h1) ⟨Or.inl rfl, eX10_count_48⟩ rfl
  have nh1_1 := h1
  clear h1
  by_cases h1 : x1 = 2
  · refine (go_tableIn 49 eX10_count_1 (by rw [h1]; decide) (by rw [h1]; decide) (by rw [h1]; rfl) rfl).run ?_
    refine (go_aload_n 0 eX10_count_49 rfl rfl).run ?_
    refine (go_getr flX10_39 rf_9_5 kd_0 gr_0_5 eX10_count_50).run ?_
    refine (go_geti flX10_178 rf_2_1 kd_14 eX10_count_53).run ?_
    exact Run.ret (v := some (.int (σ.1 14 1))) (k3 h1) ⟨Or.inl rfl, eX10_count_56⟩ rfl
  have nh1_2 := h1
  clear h1
  by_cases h1 : x1 = 3
  · refine (go_tableIn 57 eX10_count_1 (by rw [h1]; decide) (by rw [h1]; decide) (by rw [h1]; rfl) rfl).run ?_
    refine (go_aload_n 0 eX10_count_57 rfl rfl).run ?_
    refine (go_getr flX10_18 rf_9_2 kd_0 gr_0_2 eX10_count_58).run ?_
    refine (go_geti flX10_83 rf_8_0 kd_2 eX10_count_61).run ?_
    exact Run.ret (v := some (.int (σ.1 2 0))) (k4 h1) ⟨Or.inl rfl, eX10_count_64⟩ rfl
  have nh1_3 := h1
  clear h1
  by_cases h1 : x1 = 4
  · refine (go_tableIn 65 eX10_count_1 (by rw [h1]; decide) (by rw [h1]; decide) (by rw [h1]; rfl) rfl).run ?_
    refine (go_aload_n 0 eX10_count_65 rfl rfl).run ?_
    refine (go_sub (L' := [none, none]) (lsub_drop (lsub_drop lsub_nil))).run ?_
    exact Run.callV (d := (d + 1)) (As := []) mX10_cellsOfFirstSheet lkX10_335 kd_0 (by decide) rfl rfl rfl rfl rfl (Nat.le_of_ble_eq_true rfl) eX10_count_66 (k5 h1)
  have nh1_4 := h1
  clear h1
  have h1 : x1.toInt < 0 ∨ 4 < x1.toInt := by simp only [← Int32.toInt_inj] at nh1_0 nh1_1 nh1_2 nh1_3 nh1_4; simp at nh1_0 nh1_1 nh1_2 nh1_3 nh1_4; omega
  refine (go_tableOut 70 eX10_count_1 h1 rfl).run ?_
  refine (go_iconst (v := -1) eX10_count_70 rfl).run ?_
  exact Run.ret (v := some (.int (-1))) (k6 h1) ⟨Or.inl rfl, eX10_count_71⟩ rfl

set_option maxRecDepth 20000 in
theorem bX10_count_69 {d : Nat} {Q : Option Value → St → Prop} (s0 : Int32) (σ : St) 
    (k1 : Q (some (.int s0)) σ)
    : Run MX10_count (d + 2) 69 [none, none] [.int s0] σ Q := by
  exact Run.ret (v := some (.int s0)) k1 ⟨Or.inl rfl, eX10_count_69⟩ rfl

/-! CarryNetsModel.in -/
theorem eX11_in_0 : decode MX11_in.2.1 0 = .ok (.lload_n 0, 1) := by decide +kernel
theorem eX11_in_1 : decode MX11_in.2.1 1 = .ok (.lload_n 2, 1) := by decide +kernel
theorem eX11_in_2 : decode MX11_in.2.1 2 = .ok (.lcmp, 1) := by decide +kernel
theorem eX11_in_3 : decode MX11_in.2.1 3 = .ok (.ifCond .lt 14, 3) := by decide +kernel
theorem eX11_in_6 : decode MX11_in.2.1 6 = .ok (.lload_n 0, 1) := by decide +kernel
theorem eX11_in_7 : decode MX11_in.2.1 7 = .ok (.lload 4, 2) := by decide +kernel
theorem eX11_in_9 : decode MX11_in.2.1 9 = .ok (.lcmp, 1) := by decide +kernel
theorem eX11_in_10 : decode MX11_in.2.1 10 = .ok (.ifCond .gt 7, 3) := by decide +kernel
theorem eX11_in_13 : decode MX11_in.2.1 13 = .ok (.iconst 1, 1) := by decide +kernel
theorem eX11_in_14 : decode MX11_in.2.1 14 = .ok (.goto 4, 3) := by decide +kernel
theorem eX11_in_17 : decode MX11_in.2.1 17 = .ok (.iconst 0, 1) := by decide +kernel
theorem eX11_in_18 : decode MX11_in.2.1 18 = .ok (.ireturn, 1) := by decide +kernel
set_option maxRecDepth 20000 in
theorem bX11_in_0 {d : Nat} {Q : Option Value → St → Prop} (x0 : Int64) (x2 : Int64) (x4 : Int64) (σ : St) 
    (k1 : Q (some (.int (bI (x2 ≤ x0 ∧ x0 ≤ x4)))) σ)
    : Run MX11_in d 0 [some (.long x0), none, some (.long x2), none, some (.long x4), none] [] σ Q := by
  refine (go_lload_n 0 eX11_in_0 rfl rfl).run ?_
  refine (go_lload_n 2 eX11_in_1 rfl rfl).run ?_
  refine (go_lcmp eX11_in_2).run ?_
  have hJh1 : Run MX11_in d 18 [none, none, none, none, none, none] [.int (bI (x2 ≤ x0 ∧ x0 ≤ x4))] σ Q := by
    exact Run.ret (v := some (.int (bI (x2 ≤ x0 ∧ x0 ≤ x4)))) k1 ⟨Or.inr ⟨rfl, bI_01⟩, eX11_in_18⟩ rfl
  refine (brl_lt 17 eX11_in_3 rfl).run (fun h1 => ?_) (fun h1 => ?_)
  · refine (go_iconst (v := 0) eX11_in_17 rfl).run ?_
    refine (go_sub (L' := [none, none, none, none, none, none]) (lsub_drop (lsub_keep (lsub_drop (lsub_keep (lsub_drop (lsub_keep lsub_nil))))))).run ?_
    first | exact hJh1 | (simp only [if_pos h1] at hJh1; exact hJh1) | (simp only [eq_true h1, eq_false (i64_nle.mpr h1), true_and, and_true, false_and, and_false, true_or, or_true, false_or, or_false, not_true_eq_false, not_false_eq_true] at hJh1; exact hJh1) | exact Run.eq (by simp [eq_true h1, eq_false (i64_nle.mpr h1), bI]) (by simp [eq_true h1, eq_false (i64_nle.mpr h1), bI]) rfl hJh1
  · refine (go_lload_n 0 eX11_in_6 rfl rfl).run ?_
    refine (go_lload 4 eX11_in_7 rfl).run ?_
    refine (go_lcmp eX11_in_9).run ?_
    have hJh2 : Run MX11_in d 18 [none, none, none, none, none, none] [.int (bI (x0 ≤ x4))] σ Q := by
      first | exact hJh1 | (simp only [if_neg (i64_nlt.mpr h1)] at hJh1; exact hJh1) | (simp only [eq_true h1, eq_false (i64_nlt.mpr h1), true_and, and_true, false_and, and_false, true_or, or_true, false_or, or_false, not_true_eq_false, not_false_eq_true] at hJh1; exact hJh1) | exact Run.eq (by simp [eq_true h1, eq_false (i64_nlt.mpr h1), bI]) (by simp [eq_true h1, eq_false (i64_nlt.mpr h1), bI]) rfl hJh1
    refine (brl_gt 17 eX11_in_10 rfl).run (fun h2 => ?_) (fun h2 => ?_)
    · refine (go_iconst (v := 0) eX11_in_17 rfl).run ?_
      refine (go_sub (L' := [none, none, none, none, none, none]) (lsub_drop (lsub_keep (lsub_drop (lsub_keep (lsub_drop (lsub_keep lsub_nil))))))).run ?_
      first | exact hJh2 | (simp only [if_pos h2] at hJh2; exact hJh2) | (simp only [eq_true h2, eq_false (i64_nle.mpr h2), true_and, and_true, false_and, and_false, true_or, or_true, false_or, or_false, not_true_eq_false, not_false_eq_true] at hJh2; exact hJh2) | exact Run.eq (by simp [eq_true h2, eq_false (i64_nle.mpr h2), bI]) (by simp [eq_true h2, eq_false (i64_nle.mpr h2), bI]) rfl hJh2
    · refine (go_iconst (v := 1) eX11_in_13 rfl).run ?_
      refine (go_goto 18 eX11_in_14 rfl).run ?_
      refine (go_sub (L' := [none, none, none, none, none, none]) (lsub_drop (lsub_keep (lsub_drop (lsub_keep (lsub_drop (lsub_keep lsub_nil))))))).run ?_
      first | exact hJh2 | (simp only [if_neg (i64_nlt.mpr h2)] at hJh2; exact hJh2) | (simp only [eq_true h2, eq_false (i64_nlt.mpr h2), true_and, and_true, false_and, and_false, true_or, or_true, false_or, or_false, not_true_eq_false, not_false_eq_true] at hJh2; exact hJh2) | exact Run.eq (by simp [eq_true h2, eq_false (i64_nlt.mpr h2), bI]) (by simp [eq_true h2, eq_false (i64_nlt.mpr h2), bI]) rfl hJh2

theorem qX11_in (d : Nat) (x0 : Int64) (x2 : Int64) (x4 : Int64) (σ : St) : Ct yX11_in MX11_in d [.long x0, .long x2, .long x4] σ (fun v σ1 => v = some (.int (bI (x2 ≤ x0 ∧ x0 ≤ x4))) ∧ σ1 = σ) :=
  Ct.of mX11_in.1 (Nat.le_of_ble_eq_true rfl) (bX11_in_0 x0 x2 x4 σ   (⟨by first | rfl | (simp only [bI, true_and, and_true, false_and, and_false, true_or, or_true, false_or, or_false, not_true_eq_false, not_false_eq_true, if_true, if_false]; done) | (simp [bI]; done), by first | rfl | (simp only [bI, true_and, and_true, false_and, and_false, true_or, or_true, false_or, or_false, not_true_eq_false, not_false_eq_true, if_true, if_false]; done) | (simp [bI]; done)⟩))

/-! CarryNetsModel.bits -/
theorem eX11_bits_0 : decode MX11_bits.2.1 0 = .ok (.iconst 0, 1) := by decide +kernel
theorem eX11_bits_1 : decode MX11_bits.2.1 1 = .ok (.istore_n 2, 1) := by decide +kernel
theorem eX11_bits_2 : decode MX11_bits.2.1 2 = .ok (.iconst 0, 1) := by decide +kernel
theorem eX11_bits_3 : decode MX11_bits.2.1 3 = .ok (.istore_n 3, 1) := by decide +kernel
theorem eX11_bits_4 : decode MX11_bits.2.1 4 = .ok (.iload_n 3, 1) := by decide +kernel
theorem eX11_bits_5 : decode MX11_bits.2.1 5 = .ok (.bipush 64, 2) := by decide +kernel
theorem eX11_bits_7 : decode MX11_bits.2.1 7 = .ok (.if_icmp .ge 18, 3) := by decide +kernel
theorem eX11_bits_10 : decode MX11_bits.2.1 10 = .ok (.iload_n 2, 1) := by decide +kernel
theorem eX11_bits_11 : decode MX11_bits.2.1 11 = .ok (.lload_n 0, 1) := by decide +kernel
theorem eX11_bits_12 : decode MX11_bits.2.1 12 = .ok (.iload_n 3, 1) := by decide +kernel
theorem eX11_bits_13 : decode MX11_bits.2.1 13 = .ok (.lshr, 1) := by decide +kernel
theorem eX11_bits_14 : decode MX11_bits.2.1 14 = .ok (.lconst 1, 1) := by decide +kernel
theorem eX11_bits_15 : decode MX11_bits.2.1 15 = .ok (.land, 1) := by decide +kernel
theorem eX11_bits_16 : decode MX11_bits.2.1 16 = .ok (.l2i, 1) := by decide +kernel
theorem eX11_bits_17 : decode MX11_bits.2.1 17 = .ok (.iadd, 1) := by decide +kernel
theorem eX11_bits_18 : decode MX11_bits.2.1 18 = .ok (.istore_n 2, 1) := by decide +kernel
theorem eX11_bits_19 : decode MX11_bits.2.1 19 = .ok (.iinc 3 1, 3) := by decide +kernel
theorem eX11_bits_22 : decode MX11_bits.2.1 22 = .ok (.goto (-18), 3) := by decide +kernel
theorem eX11_bits_25 : decode MX11_bits.2.1 25 = .ok (.iload_n 2, 1) := by decide +kernel
theorem eX11_bits_26 : decode MX11_bits.2.1 26 = .ok (.ireturn, 1) := by decide +kernel
set_option maxRecDepth 20000 in
theorem bX11_bits_0 {d : Nat} {Q : Option Value → St → Prop} (x0 : Int64) (σ : St) 
    (k1 : Run MX11_bits d 4 [some (.long x0), none, some (.int 0), some (.int 0)] [] σ Q)
    : Run MX11_bits d 0 [some (.long x0), none, none, none] [] σ Q := by
  refine (go_iconst (v := 0) eX11_bits_0 rfl).run ?_
  refine (go_istore_n 2 (L' := [some (.long x0), none, some (.int 0), none]) eX11_bits_1 rfl (Nat.le_of_ble_eq_true rfl) rfl).run ?_
  refine (go_iconst (v := 0) eX11_bits_2 rfl).run ?_
  refine (go_istore_n 3 (L' := [some (.long x0), none, some (.int 0), some (.int 0)]) eX11_bits_3 rfl (Nat.le_of_ble_eq_true rfl) rfl).run ?_
  exact k1

set_option maxRecDepth 20000 in
theorem bX11_bits_4 {d : Nat} {Q : Option Value → St → Prop} (x0 : Int64) (x2 : Int32) (x3 : Int32) (σ : St) 
    (k1 : (64 : Int32) ≤ x3 → Q (some (.int x2)) σ)
    (k2 : x3 < 64 → Run MX11_bits d 4 [some (.long x0), none, some (.int (x2 + (((x0 >>> (x3.toInt64 &&& 63)) &&& 1).toInt32))), some (.int (x3 + 1))] [] σ Q)
    : Run MX11_bits d 4 [some (.long x0), none, some (.int x2), some (.int x3)] [] σ Q := by
  refine (go_iload_n 3 eX11_bits_4 rfl rfl).run ?_
  refine (go_bipush (v := 64) eX11_bits_5 rfl).run ?_
  refine (bi_ge 25 eX11_bits_7 rfl).run (fun h1 => ?_) (fun h1 => ?_)
  · refine (go_iload_n 2 eX11_bits_25 rfl rfl).run ?_
    exact Run.ret (v := some (.int x2)) (k1 h1) ⟨Or.inl rfl, eX11_bits_26⟩ rfl
  · refine (go_iload_n 2 eX11_bits_10 rfl rfl).run ?_
    refine (go_lload_n 0 eX11_bits_11 rfl rfl).run ?_
    refine (go_iload_n 3 eX11_bits_12 rfl rfl).run ?_
    refine (go_lshr eX11_bits_13).run ?_
    refine (go_lconst (v := 1) eX11_bits_14 rfl).run ?_
    refine (go_land eX11_bits_15).run ?_
    refine (go_l2i eX11_bits_16).run ?_
    refine (go_iadd eX11_bits_17).run ?_
    refine (go_istore_n 2 (L' := [some (.long x0), none, some (.int (x2 + (((x0 >>> (x3.toInt64 &&& 63)) &&& 1).toInt32))), some (.int x3)]) eX11_bits_18 rfl (Nat.le_of_ble_eq_true rfl) rfl).run ?_
    refine (go_iinc 3 (v := (x3 + 1)) (L' := [some (.long x0), none, some (.int (x2 + (((x0 >>> (x3.toInt64 &&& 63)) &&& 1).toInt32))), some (.int (x3 + 1))]) eX11_bits_19 rfl rfl (Nat.le_of_ble_eq_true rfl) rfl).run ?_
    refine (go_goto 4 eX11_bits_22 rfl).run ?_
    exact (k2 h1)

/-! CarryNetsModel.begins -/
theorem eX11_begins_0 : decode MX11_begins.2.1 0 = .ok (.iconst 0, 1) := by decide +kernel
theorem eX11_begins_1 : decode MX11_begins.2.1 1 = .ok (.istore_n 1, 1) := by decide +kernel
theorem eX11_begins_2 : decode MX11_begins.2.1 2 = .ok (.iload_n 1, 1) := by decide +kernel
theorem eX11_begins_3 : decode MX11_begins.2.1 3 = .ok (.bipush 32, 2) := by decide +kernel
theorem eX11_begins_5 : decode MX11_begins.2.1 5 = .ok (.if_icmp .ge 16, 3) := by decide +kernel
theorem eX11_begins_8 : decode MX11_begins.2.1 8 = .ok (.aload_n 0, 1) := by decide +kernel
theorem eX11_begins_9 : decode MX11_begins.2.1 9 = .ok (.getfield 30, 3) := by decide +kernel
theorem eX11_begins_12 : decode MX11_begins.2.1 12 = .ok (.iload_n 1, 1) := by decide +kernel
theorem eX11_begins_13 : decode MX11_begins.2.1 13 = .ok (.iload_n 1, 1) := by decide +kernel
theorem eX11_begins_14 : decode MX11_begins.2.1 14 = .ok (.iastore, 1) := by decide +kernel
theorem eX11_begins_15 : decode MX11_begins.2.1 15 = .ok (.iinc 1 1, 3) := by decide +kernel
theorem eX11_begins_18 : decode MX11_begins.2.1 18 = .ok (.goto (-16), 3) := by decide +kernel
theorem eX11_begins_21 : decode MX11_begins.2.1 21 = .ok (.return_, 1) := by decide +kernel
set_option maxRecDepth 20000 in
theorem bX11_begins_0 {d : Nat} {Q : Option Value → St → Prop} (σ : St) 
    (k1 : Run MX11_begins d 2 [some (.ref 88), some (.int 0)] [] σ Q)
    : Run MX11_begins d 0 [some (.ref 88), none] [] σ Q := by
  refine (go_iconst (v := 0) eX11_begins_0 rfl).run ?_
  refine (go_istore_n 1 (L' := [some (.ref 88), some (.int 0)]) eX11_begins_1 rfl (Nat.le_of_ble_eq_true rfl) rfl).run ?_
  exact k1

set_option maxRecDepth 20000 in
theorem bX11_begins_2 {d : Nat} {Q : Option Value → St → Prop} (x1 : Int32) (σ : St) 
    (g1 : x1 < 32 → vp_in x1 32)
    (k1 : (32 : Int32) ≤ x1 → Q (none) σ)
    (k2 : x1 < 32 → Run MX11_begins d 2 [some (.ref 88), some (.int (x1 + 1))] [] (sA σ 93 (upd (σ.1 93) x1.toNatClampNeg x1)) Q)
    : Run MX11_begins d 2 [some (.ref 88), some (.int x1)] [] σ Q := by
  refine (go_iload_n 1 eX11_begins_2 rfl rfl).run ?_
  refine (go_bipush (v := 32) eX11_begins_3 rfl).run ?_
  refine (bi_ge 21 eX11_begins_5 rfl).run (fun h1 => ?_) (fun h1 => ?_)
  · exact Run.ret (v := none) (k1 h1) ⟨rfl, eX11_begins_21⟩ rfl
  · refine (go_aload_n 0 eX11_begins_8 rfl rfl).run ?_
    refine (go_getr flX11_30 rf_10_7 kd_88 gr_88_7 eX11_begins_9).run ?_
    refine (go_iload_n 1 eX11_begins_12 rfl rfl).run ?_
    refine (go_iload_n 1 eX11_begins_13 rfl rfl).run ?_
    refine (go_iast kd_93 ln_93 (g1 h1) eX11_begins_14).run ?_
    refine (go_iinc 1 (v := (x1 + 1)) (L' := [some (.ref 88), some (.int (x1 + 1))]) eX11_begins_15 rfl rfl (Nat.le_of_ble_eq_true rfl) rfl).run ?_
    refine (go_goto 2 eX11_begins_18 rfl).run ?_
    exact (k2 h1)

/-! CarryNetsModel.joins -/
theorem eX11_joins_0 : decode MX11_joins.2.1 0 = .ok (.iconst 0, 1) := by decide +kernel
theorem eX11_joins_1 : decode MX11_joins.2.1 1 = .ok (.istore_n 3, 1) := by decide +kernel
theorem eX11_joins_2 : decode MX11_joins.2.1 2 = .ok (.iload_n 3, 1) := by decide +kernel
theorem eX11_joins_3 : decode MX11_joins.2.1 3 = .ok (.bipush 32, 2) := by decide +kernel
theorem eX11_joins_5 : decode MX11_joins.2.1 5 = .ok (.if_icmp .ge 47, 3) := by decide +kernel
theorem eX11_joins_8 : decode MX11_joins.2.1 8 = .ok (.aload_n 0, 1) := by decide +kernel
theorem eX11_joins_9 : decode MX11_joins.2.1 9 = .ok (.getfield 33, 3) := by decide +kernel
theorem eX11_joins_12 : decode MX11_joins.2.1 12 = .ok (.iload_n 3, 1) := by decide +kernel
theorem eX11_joins_13 : decode MX11_joins.2.1 13 = .ok (.lload_n 1, 1) := by decide +kernel
theorem eX11_joins_14 : decode MX11_joins.2.1 14 = .ok (.iload_n 3, 1) := by decide +kernel
theorem eX11_joins_15 : decode MX11_joins.2.1 15 = .ok (.lshr, 1) := by decide +kernel
theorem eX11_joins_16 : decode MX11_joins.2.1 16 = .ok (.lconst 1, 1) := by decide +kernel
theorem eX11_joins_17 : decode MX11_joins.2.1 17 = .ok (.land, 1) := by decide +kernel
theorem eX11_joins_18 : decode MX11_joins.2.1 18 = .ok (.lconst 1, 1) := by decide +kernel
theorem eX11_joins_19 : decode MX11_joins.2.1 19 = .ok (.lcmp, 1) := by decide +kernel
theorem eX11_joins_20 : decode MX11_joins.2.1 20 = .ok (.ifCond .ne 19, 3) := by decide +kernel
theorem eX11_joins_23 : decode MX11_joins.2.1 23 = .ok (.aload_n 0, 1) := by decide +kernel
theorem eX11_joins_24 : decode MX11_joins.2.1 24 = .ok (.getfield 30, 3) := by decide +kernel
theorem eX11_joins_27 : decode MX11_joins.2.1 27 = .ok (.aload_n 0, 1) := by decide +kernel
theorem eX11_joins_28 : decode MX11_joins.2.1 28 = .ok (.getfield 30, 3) := by decide +kernel
theorem eX11_joins_31 : decode MX11_joins.2.1 31 = .ok (.iload_n 3, 1) := by decide +kernel
theorem eX11_joins_32 : decode MX11_joins.2.1 32 = .ok (.iaload, 1) := by decide +kernel
theorem eX11_joins_33 : decode MX11_joins.2.1 33 = .ok (.iconst 1, 1) := by decide +kernel
theorem eX11_joins_34 : decode MX11_joins.2.1 34 = .ok (.isub, 1) := by decide +kernel
theorem eX11_joins_35 : decode MX11_joins.2.1 35 = .ok (.iaload, 1) := by decide +kernel
theorem eX11_joins_36 : decode MX11_joins.2.1 36 = .ok (.goto 9, 3) := by decide +kernel
theorem eX11_joins_39 : decode MX11_joins.2.1 39 = .ok (.aload_n 0, 1) := by decide +kernel
theorem eX11_joins_40 : decode MX11_joins.2.1 40 = .ok (.getfield 30, 3) := by decide +kernel
theorem eX11_joins_43 : decode MX11_joins.2.1 43 = .ok (.iload_n 3, 1) := by decide +kernel
theorem eX11_joins_44 : decode MX11_joins.2.1 44 = .ok (.iaload, 1) := by decide +kernel
theorem eX11_joins_45 : decode MX11_joins.2.1 45 = .ok (.iastore, 1) := by decide +kernel
theorem eX11_joins_46 : decode MX11_joins.2.1 46 = .ok (.iinc 3 1, 3) := by decide +kernel
theorem eX11_joins_49 : decode MX11_joins.2.1 49 = .ok (.goto (-47), 3) := by decide +kernel
theorem eX11_joins_52 : decode MX11_joins.2.1 52 = .ok (.iconst 0, 1) := by decide +kernel
theorem eX11_joins_53 : decode MX11_joins.2.1 53 = .ok (.istore_n 3, 1) := by decide +kernel
theorem eX11_joins_54 : decode MX11_joins.2.1 54 = .ok (.iload_n 3, 1) := by decide +kernel
theorem eX11_joins_55 : decode MX11_joins.2.1 55 = .ok (.bipush 32, 2) := by decide +kernel
theorem eX11_joins_57 : decode MX11_joins.2.1 57 = .ok (.if_icmp .ge 21, 3) := by decide +kernel
theorem eX11_joins_60 : decode MX11_joins.2.1 60 = .ok (.aload_n 0, 1) := by decide +kernel
theorem eX11_joins_61 : decode MX11_joins.2.1 61 = .ok (.getfield 30, 3) := by decide +kernel
theorem eX11_joins_64 : decode MX11_joins.2.1 64 = .ok (.iload_n 3, 1) := by decide +kernel
theorem eX11_joins_65 : decode MX11_joins.2.1 65 = .ok (.aload_n 0, 1) := by decide +kernel
theorem eX11_joins_66 : decode MX11_joins.2.1 66 = .ok (.getfield 33, 3) := by decide +kernel
theorem eX11_joins_69 : decode MX11_joins.2.1 69 = .ok (.iload_n 3, 1) := by decide +kernel
theorem eX11_joins_70 : decode MX11_joins.2.1 70 = .ok (.iaload, 1) := by decide +kernel
theorem eX11_joins_71 : decode MX11_joins.2.1 71 = .ok (.iastore, 1) := by decide +kernel
theorem eX11_joins_72 : decode MX11_joins.2.1 72 = .ok (.iinc 3 1, 3) := by decide +kernel
theorem eX11_joins_75 : decode MX11_joins.2.1 75 = .ok (.goto (-21), 3) := by decide +kernel
theorem eX11_joins_78 : decode MX11_joins.2.1 78 = .ok (.return_, 1) := by decide +kernel
set_option maxRecDepth 20000 in
theorem bX11_joins_0 {d : Nat} {Q : Option Value → St → Prop} (x1 : Int64) (σ : St) 
    (k1 : Run MX11_joins d 2 [some (.ref 88), some (.long x1), none, some (.int 0)] [] σ Q)
    : Run MX11_joins d 0 [some (.ref 88), some (.long x1), none, none] [] σ Q := by
  refine (go_iconst (v := 0) eX11_joins_0 rfl).run ?_
  refine (go_istore_n 3 (L' := [some (.ref 88), some (.long x1), none, some (.int 0)]) eX11_joins_1 rfl (Nat.le_of_ble_eq_true rfl) rfl).run ?_
  exact k1

set_option maxRecDepth 20000 in
theorem bX11_joins_2 {d : Nat} {Q : Option Value → St → Prop} (x1 : Int64) (x3 : Int32) (σ : St) 
    (g1 : x3 < 32 → ¬ ((x1 >>> (x3.toInt64 &&& 63)) &&& 1) = 1 → vp_in x3 32)
    (g2 : x3 < 32 → ((x1 >>> (x3.toInt64 &&& 63)) &&& 1) = 1 → vp_in x3 32)
    (g3 : x3 < 32 → ((x1 >>> (x3.toInt64 &&& 63)) &&& 1) = 1 → vp_in ((σ.1 93 x3.toNatClampNeg) - 1) 32)
    (g4 : x3 < 32 → vp_in x3 32)
    (k1 : (32 : Int32) ≤ x3 → Run MX11_joins d 54 [some (.ref 88), none, none, some (.int 0)] [] σ Q)
    (k2 : x3 < 32 → Run MX11_joins d 2 [some (.ref 88), some (.long x1), none, some (.int (x3 + 1))] [] (sA σ 94 (upd (σ.1 94) x3.toNatClampNeg (if ((x1 >>> (x3.toInt64 &&& 63)) &&& 1) = 1 then (σ.1 93 ((σ.1 93 x3.toNatClampNeg) - 1).toNatClampNeg) else (σ.1 93 x3.toNatClampNeg)))) Q)
    : Run MX11_joins d 2 [some (.ref 88), some (.long x1), none, some (.int x3)] [] σ Q := by
  refine (go_iload_n 3 eX11_joins_2 rfl rfl).run ?_
  refine (go_bipush (v := 32) eX11_joins_3 rfl).run ?_
  refine (bi_ge 52 eX11_joins_5 rfl).run (fun h1 => ?_) (fun h1 => ?_)
  · refine (go_iconst (v := 0) eX11_joins_52 rfl).run ?_
    refine (go_istore_n 3 (L' := [some (.ref 88), some (.long x1), none, some (.int 0)]) eX11_joins_53 rfl (Nat.le_of_ble_eq_true rfl) rfl).run ?_
    refine (go_sub (L' := [some (.ref 88), none, none, some (.int 0)]) (lsub_keep (lsub_drop (lsub_keep (lsub_keep lsub_nil))))).run ?_
    exact (k1 h1)
  · refine (go_aload_n 0 eX11_joins_8 rfl rfl).run ?_
    refine (go_getr flX11_33 rf_10_8 kd_88 gr_88_8 eX11_joins_9).run ?_
    refine (go_iload_n 3 eX11_joins_12 rfl rfl).run ?_
    refine (go_lload_n 1 eX11_joins_13 rfl rfl).run ?_
    refine (go_iload_n 3 eX11_joins_14 rfl rfl).run ?_
    refine (go_lshr eX11_joins_15).run ?_
    refine (go_lconst (v := 1) eX11_joins_16 rfl).run ?_
    refine (go_land eX11_joins_17).run ?_
    refine (go_lconst (v := 1) eX11_joins_18 rfl).run ?_
    refine (go_lcmp eX11_joins_19).run ?_
    have hJh2 : Run MX11_joins d 45 [some (.ref 88), some (.long x1), none, some (.int x3)] [.int (if ((x1 >>> (x3.toInt64 &&& 63)) &&& 1) = 1 then (σ.1 93 ((σ.1 93 x3.toNatClampNeg) - 1).toNatClampNeg) else (σ.1 93 x3.toNatClampNeg)), .int x3, .ref 94] σ Q := by
      refine (go_iast kd_94 ln_94 (g4 h1) eX11_joins_45).run ?_
      refine (go_iinc 3 (v := (x3 + 1)) (L' := [some (.ref 88), some (.long x1), none, some (.int (x3 + 1))]) eX11_joins_46 rfl rfl (Nat.le_of_ble_eq_true rfl) rfl).run ?_
      refine (go_goto 2 eX11_joins_49 rfl).run ?_
      exact (k2 h1)
    refine (brl_ne 39 eX11_joins_20 rfl).run (fun h2 => ?_) (fun h2 => ?_)
    · refine (go_aload_n 0 eX11_joins_39 rfl rfl).run ?_
      refine (go_getr flX11_30 rf_10_7 kd_88 gr_88_7 eX11_joins_40).run ?_
      refine (go_iload_n 3 eX11_joins_43 rfl rfl).run ?_
      refine (go_iald kd_93 ln_93 (g1 h1 h2) eX11_joins_44).run ?_
      first | exact hJh2 | (simp only [if_neg (h2)] at hJh2; exact hJh2) | (simp only [eq_false h2, not_false_eq_true, true_and, and_true, false_and, and_false, true_or, or_true, false_or, or_false, not_true_eq_false, not_false_eq_true] at hJh2; exact hJh2) | exact Run.eq (by simp [eq_false h2, not_false_eq_true, bI]) (by simp [eq_false h2, not_false_eq_true, bI]) rfl hJh2
    · refine (go_aload_n 0 eX11_joins_23 rfl rfl).run ?_
      refine (go_getr flX11_30 rf_10_7 kd_88 gr_88_7 eX11_joins_24).run ?_
      refine (go_aload_n 0 eX11_joins_27 rfl rfl).run ?_
      refine (go_getr flX11_30 rf_10_7 kd_88 gr_88_7 eX11_joins_28).run ?_
      refine (go_iload_n 3 eX11_joins_31 rfl rfl).run ?_
      refine (go_iald kd_93 ln_93 (g2 h1 h2) eX11_joins_32).run ?_
      refine (go_iconst (v := 1) eX11_joins_33 rfl).run ?_
      refine (go_isub eX11_joins_34).run ?_
      refine (go_iald kd_93 ln_93 (g3 h1 h2) eX11_joins_35).run ?_
      refine (go_goto 45 eX11_joins_36 rfl).run ?_
      first | exact hJh2 | (simp only [if_pos h2] at hJh2; exact hJh2) | (simp only [eq_true h2, not_true_eq_false, true_and, and_true, false_and, and_false, true_or, or_true, false_or, or_false, not_true_eq_false, not_false_eq_true] at hJh2; exact hJh2) | exact Run.eq (by simp [eq_true h2, not_true_eq_false, bI]) (by simp [eq_true h2, not_true_eq_false, bI]) rfl hJh2

set_option maxRecDepth 20000 in
theorem bX11_joins_54 {d : Nat} {Q : Option Value → St → Prop} (x3 : Int32) (σ : St) 
    (g1 : x3 < 32 → vp_in x3 32)
    (k1 : (32 : Int32) ≤ x3 → Q (none) σ)
    (k2 : x3 < 32 → Run MX11_joins d 54 [some (.ref 88), none, none, some (.int (x3 + 1))] [] (sA σ 93 (upd (σ.1 93) x3.toNatClampNeg (σ.1 94 x3.toNatClampNeg))) Q)
    : Run MX11_joins d 54 [some (.ref 88), none, none, some (.int x3)] [] σ Q := by
  refine (go_iload_n 3 eX11_joins_54 rfl rfl).run ?_
  refine (go_bipush (v := 32) eX11_joins_55 rfl).run ?_
  refine (bi_ge 78 eX11_joins_57 rfl).run (fun h1 => ?_) (fun h1 => ?_)
  · exact Run.ret (v := none) (k1 h1) ⟨rfl, eX11_joins_78⟩ rfl
  · refine (go_aload_n 0 eX11_joins_60 rfl rfl).run ?_
    refine (go_getr flX11_30 rf_10_7 kd_88 gr_88_7 eX11_joins_61).run ?_
    refine (go_iload_n 3 eX11_joins_64 rfl rfl).run ?_
    refine (go_aload_n 0 eX11_joins_65 rfl rfl).run ?_
    refine (go_getr flX11_33 rf_10_8 kd_88 gr_88_8 eX11_joins_66).run ?_
    refine (go_iload_n 3 eX11_joins_69 rfl rfl).run ?_
    refine (go_iald kd_94 ln_94 (g1 h1) eX11_joins_70).run ?_
    refine (go_iast kd_93 ln_93 (g1 h1) eX11_joins_71).run ?_
    refine (go_iinc 3 (v := (x3 + 1)) (L' := [some (.ref 88), none, none, some (.int (x3 + 1))]) eX11_joins_72 rfl rfl (Nat.le_of_ble_eq_true rfl) rfl).run ?_
    refine (go_goto 54 eX11_joins_75 rfl).run ?_
    exact (k2 h1)

/-! CarryNetsModel.cellsOf -/
theorem eX11_cellsOf_0 : decode MX11_cellsOf.2.1 0 = .ok (.aload_n 0, 1) := by decide +kernel
theorem eX11_cellsOf_1 : decode MX11_cellsOf.2.1 1 = .ok (.getfield 16, 3) := by decide +kernel
theorem eX11_cellsOf_4 : decode MX11_cellsOf.2.1 4 = .ok (.bipush 32, 2) := by decide +kernel
theorem eX11_cellsOf_6 : decode MX11_cellsOf.2.1 6 = .ok (.iload_n 1, 1) := by decide +kernel
theorem eX11_cellsOf_7 : decode MX11_cellsOf.2.1 7 = .ok (.imul, 1) := by decide +kernel
theorem eX11_cellsOf_8 : decode MX11_cellsOf.2.1 8 = .ok (.iload_n 2, 1) := by decide +kernel
theorem eX11_cellsOf_9 : decode MX11_cellsOf.2.1 9 = .ok (.iadd, 1) := by decide +kernel
theorem eX11_cellsOf_10 : decode MX11_cellsOf.2.1 10 = .ok (.laload, 1) := by decide +kernel
theorem eX11_cellsOf_11 : decode MX11_cellsOf.2.1 11 = .ok (.lreturn, 1) := by decide +kernel
set_option maxRecDepth 20000 in
theorem bX11_cellsOf_0 {d : Nat} {Q : Option Value → St → Prop} (x1 : Int32) (x2 : Int32) (σ : St) 
    (g1 : vp_in (((32 : Int32) * x1) + x2) 256)
    (k1 : Q (some (.long (σ.2 91 (((32 : Int32) * x1) + x2).toNatClampNeg))) σ)
    : Run MX11_cellsOf d 0 [some (.ref 88), some (.int x1), some (.int x2)] [] σ Q := by
  refine (go_aload_n 0 eX11_cellsOf_0 rfl rfl).run ?_
  refine (go_getr flX11_16 rf_10_3 kd_88 gr_88_3 eX11_cellsOf_1).run ?_
  refine (go_bipush (v := 32) eX11_cellsOf_4 rfl).run ?_
  refine (go_iload_n 1 eX11_cellsOf_6 rfl rfl).run ?_
  refine (go_imul eX11_cellsOf_7).run ?_
  refine (go_iload_n 2 eX11_cellsOf_8 rfl rfl).run ?_
  refine (go_iadd eX11_cellsOf_9).run ?_
  refine (go_lald kd_91 ln_91 g1 eX11_cellsOf_10).run ?_
  exact Run.ret (v := some (.long (σ.2 91 (((32 : Int32) * x1) + x2).toNatClampNeg))) k1 ⟨rfl, eX11_cellsOf_11⟩ rfl

def rX11_cellsOf (x1 : Int32) (x2 : Int32) (σ : St) : Int64 := (σ.2 91 (((32 : Int32) * x1) + x2).toNatClampNeg)
theorem qX11_cellsOf (d : Nat) (x1 : Int32) (x2 : Int32) (σ : St) (g1 : vp_in (((32 : Int32) * x1) + x2) 256) : Ct yX11_cellsOf MX11_cellsOf d [.ref 88, .int x1, .int x2] σ (fun v σ1 => v = some (.long (rX11_cellsOf x1 x2 σ)) ∧ σ1 = σ) :=
  Ct.of mX11_cellsOf.1 (Nat.le_of_ble_eq_true rfl) (bX11_cellsOf_0 x1 x2 σ  g1 (⟨by first | rfl | (simp only [rX11_cellsOf, true_and, and_true, false_and, and_false, true_or, or_true, false_or, or_false, not_true_eq_false, not_false_eq_true, if_true, if_false]; done) | (simp [rX11_cellsOf, bI]; done), by first | rfl | (simp only [rX11_cellsOf, true_and, and_true, false_and, and_false, true_or, or_true, false_or, or_false, not_true_eq_false, not_false_eq_true, if_true, if_false]; done) | (simp [rX11_cellsOf, bI]; done)⟩))

/-! CarryNetsModel.goesTo -/
theorem eX11_goesTo_0 : decode MX11_goesTo.2.1 0 = .ok (.aload_n 0, 1) := by decide +kernel
theorem eX11_goesTo_1 : decode MX11_goesTo.2.1 1 = .ok (.invokevirtual 91, 3) := by decide +kernel
theorem eX11_goesTo_4 : decode MX11_goesTo.2.1 4 = .ok (.iconst 0, 1) := by decide +kernel
theorem eX11_goesTo_5 : decode MX11_goesTo.2.1 5 = .ok (.istore_n 3, 1) := by decide +kernel
theorem eX11_goesTo_6 : decode MX11_goesTo.2.1 6 = .ok (.iload_n 3, 1) := by decide +kernel
theorem eX11_goesTo_7 : decode MX11_goesTo.2.1 7 = .ok (.iload_n 2, 1) := by decide +kernel
theorem eX11_goesTo_8 : decode MX11_goesTo.2.1 8 = .ok (.if_icmp .ge 19, 3) := by decide +kernel
theorem eX11_goesTo_11 : decode MX11_goesTo.2.1 11 = .ok (.aload_n 0, 1) := by decide +kernel
theorem eX11_goesTo_12 : decode MX11_goesTo.2.1 12 = .ok (.aload_n 0, 1) := by decide +kernel
theorem eX11_goesTo_13 : decode MX11_goesTo.2.1 13 = .ok (.iload_n 1, 1) := by decide +kernel
theorem eX11_goesTo_14 : decode MX11_goesTo.2.1 14 = .ok (.iload_n 3, 1) := by decide +kernel
theorem eX11_goesTo_15 : decode MX11_goesTo.2.1 15 = .ok (.invokevirtual 94, 3) := by decide +kernel
theorem eX11_goesTo_18 : decode MX11_goesTo.2.1 18 = .ok (.invokevirtual 98, 3) := by decide +kernel
theorem eX11_goesTo_21 : decode MX11_goesTo.2.1 21 = .ok (.iinc 3 1, 3) := by decide +kernel
theorem eX11_goesTo_24 : decode MX11_goesTo.2.1 24 = .ok (.goto (-18), 3) := by decide +kernel
theorem eX11_goesTo_27 : decode MX11_goesTo.2.1 27 = .ok (.return_, 1) := by decide +kernel
set_option maxRecDepth 20000 in
theorem bX11_goesTo_0 {d : Nat} {Q : Option Value → St → Prop} (x1 : Int32) (x2 : Int32) (σ : St) 
    (k1 : Ct yX11_begins MX11_begins d [.ref 88] σ (fun v σ1 => Run MX11_goesTo (d + 1) 4 [some (.ref 88), some (.int x1), some (.int x2), none] (v.toList ++ []) σ1 Q))
    : Run MX11_goesTo (d + 1) 0 [some (.ref 88), some (.int x1), some (.int x2), none] [] σ Q := by
  refine (go_aload_n 0 eX11_goesTo_0 rfl rfl).run ?_
  exact Run.callV (d := d) (As := []) mX11_begins lkX11_91 kd_88 (by decide) rfl rfl rfl rfl rfl (Nat.le_of_ble_eq_true rfl) eX11_goesTo_1 k1

set_option maxRecDepth 20000 in
theorem bX11_goesTo_4 {d : Nat} {Q : Option Value → St → Prop} (x1 : Int32) (x2 : Int32) (σ : St) 
    (k1 : Run MX11_goesTo (d + 1) 6 [some (.ref 88), some (.int x1), some (.int x2), some (.int 0)] [] σ Q)
    : Run MX11_goesTo (d + 1) 4 [some (.ref 88), some (.int x1), some (.int x2), none] [] σ Q := by
  refine (go_iconst (v := 0) eX11_goesTo_4 rfl).run ?_
  refine (go_istore_n 3 (L' := [some (.ref 88), some (.int x1), some (.int x2), some (.int 0)]) eX11_goesTo_5 rfl (Nat.le_of_ble_eq_true rfl) rfl).run ?_
  exact k1

set_option maxRecDepth 20000 in
theorem bX11_goesTo_6 {d : Nat} {Q : Option Value → St → Prop} (x1 : Int32) (x2 : Int32) (x3 : Int32) (σ : St) 
    (g1 : x3 < x2 → vp_in (((32 : Int32) * x1) + x3) 256)
    (k1 : x2 ≤ x3 → Q (none) σ)
    (k2 : x3 < x2 → Ct yX11_joins MX11_joins d [.ref 88, .long ((rX11_cellsOf x1 x3 σ))] σ (fun v σ1 => Run MX11_goesTo (d + 1) 21 [some (.ref 88), some (.int x1), some (.int x2), some (.int x3)] (v.toList ++ []) σ1 Q))
    : Run MX11_goesTo (d + 1) 6 [some (.ref 88), some (.int x1), some (.int x2), some (.int x3)] [] σ Q := by
  refine (go_iload_n 3 eX11_goesTo_6 rfl rfl).run ?_
  refine (go_iload_n 2 eX11_goesTo_7 rfl rfl).run ?_
  refine (bi_ge 27 eX11_goesTo_8 rfl).run (fun h1 => ?_) (fun h1 => ?_)
  · exact Run.ret (v := none) (k1 h1) ⟨rfl, eX11_goesTo_27⟩ rfl
  · refine (go_aload_n 0 eX11_goesTo_11 rfl rfl).run ?_
    refine (go_aload_n 0 eX11_goesTo_12 rfl rfl).run ?_
    refine (go_iload_n 1 eX11_goesTo_13 rfl rfl).run ?_
    refine (go_iload_n 3 eX11_goesTo_14 rfl rfl).run ?_
    refine Run.callV1 (d := d) (As := [.int x1, .int x3]) (r := .long ((rX11_cellsOf x1 x3 σ))) mX11_cellsOf lkX11_94 kd_88 (by decide) rfl rfl rfl rfl rfl (Nat.le_of_ble_eq_true rfl) eX11_goesTo_15 (qX11_cellsOf d x1 x3 σ  (g1 h1)) ?_
    exact Run.callV (d := d) (As := [.long ((rX11_cellsOf x1 x3 σ))]) mX11_joins lkX11_98 kd_88 (by decide) rfl rfl rfl rfl rfl (Nat.le_of_ble_eq_true rfl) eX11_goesTo_18 (k2 h1)

set_option maxRecDepth 20000 in
theorem bX11_goesTo_21 {d : Nat} {Q : Option Value → St → Prop} (x1 : Int32) (x2 : Int32) (x3 : Int32) (σ : St) 
    (k1 : Run MX11_goesTo (d + 1) 6 [some (.ref 88), some (.int x1), some (.int x2), some (.int (x3 + 1))] [] σ Q)
    : Run MX11_goesTo (d + 1) 21 [some (.ref 88), some (.int x1), some (.int x2), some (.int x3)] [] σ Q := by
  refine (go_iinc 3 (v := (x3 + 1)) (L' := [some (.ref 88), some (.int x1), some (.int x2), some (.int (x3 + 1))]) eX11_goesTo_21 rfl rfl (Nat.le_of_ble_eq_true rfl) rfl).run ?_
  refine (go_goto 6 eX11_goesTo_24 rfl).run ?_
  exact k1

/-! CarryNetsModel.isWhole -/
theorem eX11_isWhole_0 : decode MX11_isWhole.2.1 0 = .ok (.aload_n 0, 1) := by decide +kernel
theorem eX11_isWhole_1 : decode MX11_isWhole.2.1 1 = .ok (.iload_n 1, 1) := by decide +kernel
theorem eX11_isWhole_2 : decode MX11_isWhole.2.1 2 = .ok (.aload_n 0, 1) := by decide +kernel
theorem eX11_isWhole_3 : decode MX11_isWhole.2.1 3 = .ok (.getfield 13, 3) := by decide +kernel
theorem eX11_isWhole_6 : decode MX11_isWhole.2.1 6 = .ok (.iload_n 1, 1) := by decide +kernel
theorem eX11_isWhole_7 : decode MX11_isWhole.2.1 7 = .ok (.iaload, 1) := by decide +kernel
theorem eX11_isWhole_8 : decode MX11_isWhole.2.1 8 = .ok (.invokevirtual 102, 3) := by decide +kernel
theorem eX11_isWhole_11 : decode MX11_isWhole.2.1 11 = .ok (.iconst 1, 1) := by decide +kernel
theorem eX11_isWhole_12 : decode MX11_isWhole.2.1 12 = .ok (.istore_n 2, 1) := by decide +kernel
theorem eX11_isWhole_13 : decode MX11_isWhole.2.1 13 = .ok (.iconst 0, 1) := by decide +kernel
theorem eX11_isWhole_14 : decode MX11_isWhole.2.1 14 = .ok (.istore_n 3, 1) := by decide +kernel
theorem eX11_isWhole_15 : decode MX11_isWhole.2.1 15 = .ok (.iload_n 3, 1) := by decide +kernel
theorem eX11_isWhole_16 : decode MX11_isWhole.2.1 16 = .ok (.aload_n 0, 1) := by decide +kernel
theorem eX11_isWhole_17 : decode MX11_isWhole.2.1 17 = .ok (.getfield 7, 3) := by decide +kernel
theorem eX11_isWhole_20 : decode MX11_isWhole.2.1 20 = .ok (.iload_n 1, 1) := by decide +kernel
theorem eX11_isWhole_21 : decode MX11_isWhole.2.1 21 = .ok (.iaload, 1) := by decide +kernel
theorem eX11_isWhole_22 : decode MX11_isWhole.2.1 22 = .ok (.if_icmp .ge 28, 3) := by decide +kernel
theorem eX11_isWhole_25 : decode MX11_isWhole.2.1 25 = .ok (.iload_n 2, 1) := by decide +kernel
theorem eX11_isWhole_26 : decode MX11_isWhole.2.1 26 = .ok (.ifCond .eq 16, 3) := by decide +kernel
theorem eX11_isWhole_29 : decode MX11_isWhole.2.1 29 = .ok (.aload_n 0, 1) := by decide +kernel
theorem eX11_isWhole_30 : decode MX11_isWhole.2.1 30 = .ok (.getfield 30, 3) := by decide +kernel
theorem eX11_isWhole_33 : decode MX11_isWhole.2.1 33 = .ok (.iload_n 3, 1) := by decide +kernel
theorem eX11_isWhole_34 : decode MX11_isWhole.2.1 34 = .ok (.iaload, 1) := by decide +kernel
theorem eX11_isWhole_35 : decode MX11_isWhole.2.1 35 = .ok (.ifCond .ne 7, 3) := by decide +kernel
theorem eX11_isWhole_38 : decode MX11_isWhole.2.1 38 = .ok (.iconst 1, 1) := by decide +kernel
theorem eX11_isWhole_39 : decode MX11_isWhole.2.1 39 = .ok (.goto 4, 3) := by decide +kernel
theorem eX11_isWhole_42 : decode MX11_isWhole.2.1 42 = .ok (.iconst 0, 1) := by decide +kernel
theorem eX11_isWhole_43 : decode MX11_isWhole.2.1 43 = .ok (.istore_n 2, 1) := by decide +kernel
theorem eX11_isWhole_44 : decode MX11_isWhole.2.1 44 = .ok (.iinc 3 1, 3) := by decide +kernel
theorem eX11_isWhole_47 : decode MX11_isWhole.2.1 47 = .ok (.goto (-32), 3) := by decide +kernel
theorem eX11_isWhole_50 : decode MX11_isWhole.2.1 50 = .ok (.iload_n 2, 1) := by decide +kernel
theorem eX11_isWhole_51 : decode MX11_isWhole.2.1 51 = .ok (.ireturn, 1) := by decide +kernel
set_option maxRecDepth 20000 in
theorem bX11_isWhole_0 {d : Nat} {Q : Option Value → St → Prop} (x1 : Int32) (σ : St) 
    (g1 : vp_in x1 8)
    (k1 : Ct yX11_goesTo MX11_goesTo (d + 1) [.ref 88, .int x1, .int (σ.1 90 x1.toNatClampNeg)] σ (fun v σ1 => Run MX11_isWhole (d + 2) 11 [some (.ref 88), some (.int x1), none, none] (v.toList ++ []) σ1 Q))
    : Run MX11_isWhole (d + 2) 0 [some (.ref 88), some (.int x1), none, none] [] σ Q := by
  refine (go_aload_n 0 eX11_isWhole_0 rfl rfl).run ?_
  refine (go_iload_n 1 eX11_isWhole_1 rfl rfl).run ?_
  refine (go_aload_n 0 eX11_isWhole_2 rfl rfl).run ?_
  refine (go_getr flX11_13 rf_10_2 kd_88 gr_88_2 eX11_isWhole_3).run ?_
  refine (go_iload_n 1 eX11_isWhole_6 rfl rfl).run ?_
  refine (go_iald kd_90 ln_90 g1 eX11_isWhole_7).run ?_
  exact Run.callV (d := (d + 1)) (As := [.int x1, .int (σ.1 90 x1.toNatClampNeg)]) mX11_goesTo lkX11_102 kd_88 (by decide) rfl rfl rfl rfl rfl (Nat.le_of_ble_eq_true rfl) eX11_isWhole_8 k1

set_option maxRecDepth 20000 in
theorem bX11_isWhole_11 {d : Nat} {Q : Option Value → St → Prop} (x1 : Int32) (σ : St) 
    (k1 : Run MX11_isWhole (d + 2) 15 [some (.ref 88), some (.int x1), some (.int 1), some (.int 0)] [] σ Q)
    : Run MX11_isWhole (d + 2) 11 [some (.ref 88), some (.int x1), none, none] [] σ Q := by
  refine (go_iconst (v := 1) eX11_isWhole_11 rfl).run ?_
  refine (go_istore_n 2 (L' := [some (.ref 88), some (.int x1), some (.int 1), none]) eX11_isWhole_12 rfl (Nat.le_of_ble_eq_true rfl) rfl).run ?_
  refine (go_iconst (v := 0) eX11_isWhole_13 rfl).run ?_
  refine (go_istore_n 3 (L' := [some (.ref 88), some (.int x1), some (.int 1), some (.int 0)]) eX11_isWhole_14 rfl (Nat.le_of_ble_eq_true rfl) rfl).run ?_
  exact k1

set_option maxRecDepth 20000 in
theorem bX11_isWhole_15 {d : Nat} {Q : Option Value → St → Prop} (x1 : Int32) (x2 : Int32) (x3 : Int32) (σ : St) 
    (g1 : vp_in x1 8)
    (g2 : (σ.1 89 x1.toNatClampNeg) ≤ x3 → (x2 = 0 ∨ x2 = 1))
    (g3 : x3 < (σ.1 89 x1.toNatClampNeg) → ¬ x2 = 0 → vp_in x3 32)
    (k1 : (σ.1 89 x1.toNatClampNeg) ≤ x3 → Q (some (.int x2)) σ)
    (k2 : x3 < (σ.1 89 x1.toNatClampNeg) → Run MX11_isWhole (d + 2) 15 [some (.ref 88), some (.int x1), some (.int (bI ((¬ x2 = 0) ∧ (σ.1 93 x3.toNatClampNeg) = 0))), some (.int (x3 + 1))] [] σ Q)
    : Run MX11_isWhole (d + 2) 15 [some (.ref 88), some (.int x1), some (.int x2), some (.int x3)] [] σ Q := by
  refine (go_iload_n 3 eX11_isWhole_15 rfl rfl).run ?_
  refine (go_aload_n 0 eX11_isWhole_16 rfl rfl).run ?_
  refine (go_getr flX11_7 rf_10_1 kd_88 gr_88_1 eX11_isWhole_17).run ?_
  refine (go_iload_n 1 eX11_isWhole_20 rfl rfl).run ?_
  refine (go_iald kd_89 ln_89 g1 eX11_isWhole_21).run ?_
  refine (bi_ge 50 eX11_isWhole_22 rfl).run (fun h1 => ?_) (fun h1 => ?_)
  · refine (go_iload_n 2 eX11_isWhole_50 rfl rfl).run ?_
    exact Run.ret (v := some (.int x2)) (k1 h1) ⟨Or.inr ⟨rfl, (g2 h1)⟩, eX11_isWhole_51⟩ rfl
  · refine (go_iload_n 2 eX11_isWhole_25 rfl rfl).run ?_
    have hJh2 : Run MX11_isWhole (d + 2) 43 [some (.ref 88), some (.int x1), none, some (.int x3)] [.int (bI ((¬ x2 = 0) ∧ (σ.1 93 x3.toNatClampNeg) = 0))] σ Q := by
      refine (go_istore_n 2 (L' := [some (.ref 88), some (.int x1), some (.int (bI ((¬ x2 = 0) ∧ (σ.1 93 x3.toNatClampNeg) = 0))), some (.int x3)]) eX11_isWhole_43 rfl (Nat.le_of_ble_eq_true rfl) rfl).run ?_
      refine (go_iinc 3 (v := (x3 + 1)) (L' := [some (.ref 88), some (.int x1), some (.int (bI ((¬ x2 = 0) ∧ (σ.1 93 x3.toNatClampNeg) = 0))), some (.int (x3 + 1))]) eX11_isWhole_44 rfl rfl (Nat.le_of_ble_eq_true rfl) rfl).run ?_
      refine (go_goto 15 eX11_isWhole_47 rfl).run ?_
      exact (k2 h1)
    refine (bz_eq 42 eX11_isWhole_26 rfl).run (fun h2 => ?_) (fun h2 => ?_)
    · refine (go_iconst (v := 0) eX11_isWhole_42 rfl).run ?_
      refine (go_sub (L' := [some (.ref 88), some (.int x1), none, some (.int x3)]) (lsub_keep (lsub_keep (lsub_drop (lsub_keep lsub_nil))))).run ?_
      first | exact hJh2 | (simp only [if_pos h2] at hJh2; exact hJh2) | (simp only [eq_true h2, not_true_eq_false, true_and, and_true, false_and, and_false, true_or, or_true, false_or, or_false, not_true_eq_false, not_false_eq_true] at hJh2; exact hJh2) | exact Run.eq (by simp [eq_true h2, not_true_eq_false, bI]) (by simp [eq_true h2, not_true_eq_false, bI]) rfl hJh2
    · refine (go_aload_n 0 eX11_isWhole_29 rfl rfl).run ?_
      refine (go_getr flX11_30 rf_10_7 kd_88 gr_88_7 eX11_isWhole_30).run ?_
      refine (go_iload_n 3 eX11_isWhole_33 rfl rfl).run ?_
      refine (go_iald kd_93 ln_93 (g3 h1 h2) eX11_isWhole_34).run ?_
      have hJh3 : Run MX11_isWhole (d + 2) 43 [some (.ref 88), some (.int x1), none, some (.int x3)] [.int (bI ((σ.1 93 x3.toNatClampNeg) = 0))] σ Q := by
        first | exact hJh2 | (simp only [if_neg (h2)] at hJh2; exact hJh2) | (simp only [eq_false h2, not_false_eq_true, true_and, and_true, false_and, and_false, true_or, or_true, false_or, or_false, not_true_eq_false, not_false_eq_true] at hJh2; exact hJh2) | exact Run.eq (by simp [eq_false h2, not_false_eq_true, bI]) (by simp [eq_false h2, not_false_eq_true, bI]) rfl hJh2
      refine (bz_ne 42 eX11_isWhole_35 rfl).run (fun h3 => ?_) (fun h3 => ?_)
      · refine (go_iconst (v := 0) eX11_isWhole_42 rfl).run ?_
        refine (go_sub (L' := [some (.ref 88), some (.int x1), none, some (.int x3)]) (lsub_keep (lsub_keep (lsub_drop (lsub_keep lsub_nil))))).run ?_
        first | exact hJh3 | (simp only [if_neg (h3)] at hJh3; exact hJh3) | (simp only [eq_false h3, not_false_eq_true, true_and, and_true, false_and, and_false, true_or, or_true, false_or, or_false, not_true_eq_false, not_false_eq_true] at hJh3; exact hJh3) | exact Run.eq (by simp [eq_false h3, not_false_eq_true, bI]) (by simp [eq_false h3, not_false_eq_true, bI]) rfl hJh3
      · refine (go_iconst (v := 1) eX11_isWhole_38 rfl).run ?_
        refine (go_goto 43 eX11_isWhole_39 rfl).run ?_
        refine (go_sub (L' := [some (.ref 88), some (.int x1), none, some (.int x3)]) (lsub_keep (lsub_keep (lsub_drop (lsub_keep lsub_nil))))).run ?_
        first | exact hJh3 | (simp only [if_pos h3] at hJh3; exact hJh3) | (simp only [eq_true h3, not_true_eq_false, true_and, and_true, false_and, and_false, true_or, or_true, false_or, or_false, not_true_eq_false, not_false_eq_true] at hJh3; exact hJh3) | exact Run.eq (by simp [eq_true h3, not_true_eq_false, bI]) (by simp [eq_true h3, not_true_eq_false, bI]) rfl hJh3

/-! CarryNetsModel.isNet -/
theorem eX11_isNet_0 : decode MX11_isNet.2.1 0 = .ok (.iload_n 1, 1) := by decide +kernel
theorem eX11_isNet_1 : decode MX11_isNet.2.1 1 = .ok (.i2l, 1) := by decide +kernel
theorem eX11_isNet_2 : decode MX11_isNet.2.1 2 = .ok (.lconst 0, 1) := by decide +kernel
theorem eX11_isNet_3 : decode MX11_isNet.2.1 3 = .ok (.aload_n 0, 1) := by decide +kernel
theorem eX11_isNet_4 : decode MX11_isNet.2.1 4 = .ok (.getfield 106, 3) := by decide +kernel
theorem eX11_isNet_7 : decode MX11_isNet.2.1 7 = .ok (.iconst 1, 1) := by decide +kernel
theorem eX11_isNet_8 : decode MX11_isNet.2.1 8 = .ok (.isub, 1) := by decide +kernel
theorem eX11_isNet_9 : decode MX11_isNet.2.1 9 = .ok (.i2l, 1) := by decide +kernel
theorem eX11_isNet_10 : decode MX11_isNet.2.1 10 = .ok (.invokestatic 109, 3) := by decide +kernel
theorem eX11_isNet_13 : decode MX11_isNet.2.1 13 = .ok (.ireturn, 1) := by decide +kernel
set_option maxRecDepth 20000 in
theorem bX11_isNet_0 {d : Nat} {Q : Option Value → St → Prop} (x1 : Int32) (σ : St) 
    (k1 : Q (some (.int (bI ((0 : Int64) ≤ x1.toInt64 ∧ x1.toInt64 ≤ (((σ.1 88 0) - 1).toInt64))))) σ)
    : Run MX11_isNet (d + 1) 0 [some (.ref 88), some (.int x1)] [] σ Q := by
  refine (go_iload_n 1 eX11_isNet_0 rfl rfl).run ?_
  refine (go_i2l eX11_isNet_1).run ?_
  refine (go_lconst (v := 0) eX11_isNet_2 rfl).run ?_
  refine (go_aload_n 0 eX11_isNet_3 rfl rfl).run ?_
  refine (go_geti flX11_106 rf_10_0 kd_88 eX11_isNet_4).run ?_
  refine (go_iconst (v := 1) eX11_isNet_7 rfl).run ?_
  refine (go_isub eX11_isNet_8).run ?_
  refine (go_i2l eX11_isNet_9).run ?_
  refine Run.callS1 (d := d) (As := [.long x1.toInt64, .long 0, .long (((σ.1 88 0) - 1).toInt64)]) (r := .int (bI ((0 : Int64) ≤ x1.toInt64 ∧ x1.toInt64 ≤ (((σ.1 88 0) - 1).toInt64)))) mX11_in lkX11_109 rfl rfl rfl (Nat.le_of_ble_eq_true rfl) eX11_isNet_10 (qX11_in d x1.toInt64 (0 : Int64) (((σ.1 88 0) - 1).toInt64) σ  ) ?_
  exact Run.ret (v := some (.int (bI ((0 : Int64) ≤ x1.toInt64 ∧ x1.toInt64 ≤ (((σ.1 88 0) - 1).toInt64))))) k1 ⟨Or.inr ⟨rfl, bI_01⟩, eX11_isNet_13⟩ rfl

theorem qX11_isNet (d : Nat) (x1 : Int32) (σ : St) : Ct yX11_isNet MX11_isNet (d + 1) [.ref 88, .int x1] σ (fun v σ1 => v = some (.int (bI ((0 : Int64) ≤ x1.toInt64 ∧ x1.toInt64 ≤ (((σ.1 88 0) - 1).toInt64)))) ∧ σ1 = σ) :=
  Ct.of mX11_isNet.1 (Nat.le_of_ble_eq_true rfl) (bX11_isNet_0 x1 σ   (⟨by first | rfl | (simp only [bI, true_and, and_true, false_and, and_false, true_or, or_true, false_or, or_false, not_true_eq_false, not_false_eq_true, if_true, if_false]; done) | (simp [bI]; done), by first | rfl | (simp only [bI, true_and, and_true, false_and, and_false, true_or, or_true, false_or, or_false, not_true_eq_false, not_false_eq_true, if_true, if_false]; done) | (simp [bI]; done)⟩))

/-! CarryNetsModel.feed -/
theorem eX11_feed_0 : decode MX11_feed.2.1 0 = .ok (.aload_n 0, 1) := by decide +kernel
theorem eX11_feed_1 : decode MX11_feed.2.1 1 = .ok (.getfield 113, 3) := by decide +kernel
theorem eX11_feed_4 : decode MX11_feed.2.1 4 = .ok (.bipush 8, 2) := by decide +kernel
theorem eX11_feed_6 : decode MX11_feed.2.1 6 = .ok (.iadd, 1) := by decide +kernel
theorem eX11_feed_7 : decode MX11_feed.2.1 7 = .ok (.sipush 240, 3) := by decide +kernel
theorem eX11_feed_10 : decode MX11_feed.2.1 10 = .ok (.if_icmp .le 6, 3) := by decide +kernel
theorem eX11_feed_13 : decode MX11_feed.2.1 13 = .ok (.bipush (-3), 2) := by decide +kernel
theorem eX11_feed_15 : decode MX11_feed.2.1 15 = .ok (.ireturn, 1) := by decide +kernel
theorem eX11_feed_16 : decode MX11_feed.2.1 16 = .ok (.bipush 56, 2) := by decide +kernel
theorem eX11_feed_18 : decode MX11_feed.2.1 18 = .ok (.istore_n 3, 1) := by decide +kernel
theorem eX11_feed_19 : decode MX11_feed.2.1 19 = .ok (.iload_n 3, 1) := by decide +kernel
theorem eX11_feed_20 : decode MX11_feed.2.1 20 = .ok (.ifCond .lt 36, 3) := by decide +kernel
theorem eX11_feed_23 : decode MX11_feed.2.1 23 = .ok (.aload_n 0, 1) := by decide +kernel
theorem eX11_feed_24 : decode MX11_feed.2.1 24 = .ok (.getfield 36, 3) := by decide +kernel
theorem eX11_feed_27 : decode MX11_feed.2.1 27 = .ok (.aload_n 0, 1) := by decide +kernel
theorem eX11_feed_28 : decode MX11_feed.2.1 28 = .ok (.getfield 113, 3) := by decide +kernel
theorem eX11_feed_31 : decode MX11_feed.2.1 31 = .ok (.lload_n 1, 1) := by decide +kernel
theorem eX11_feed_32 : decode MX11_feed.2.1 32 = .ok (.iload_n 3, 1) := by decide +kernel
theorem eX11_feed_33 : decode MX11_feed.2.1 33 = .ok (.lshr, 1) := by decide +kernel
theorem eX11_feed_34 : decode MX11_feed.2.1 34 = .ok (.ldc2_w 116, 3) := by decide +kernel
theorem eX11_feed_37 : decode MX11_feed.2.1 37 = .ok (.land, 1) := by decide +kernel
theorem eX11_feed_38 : decode MX11_feed.2.1 38 = .ok (.l2i, 1) := by decide +kernel
theorem eX11_feed_39 : decode MX11_feed.2.1 39 = .ok (.iastore, 1) := by decide +kernel
theorem eX11_feed_40 : decode MX11_feed.2.1 40 = .ok (.aload_n 0, 1) := by decide +kernel
theorem eX11_feed_41 : decode MX11_feed.2.1 41 = .ok (.dup, 1) := by decide +kernel
theorem eX11_feed_42 : decode MX11_feed.2.1 42 = .ok (.getfield 113, 3) := by decide +kernel
theorem eX11_feed_45 : decode MX11_feed.2.1 45 = .ok (.iconst 1, 1) := by decide +kernel
theorem eX11_feed_46 : decode MX11_feed.2.1 46 = .ok (.iadd, 1) := by decide +kernel
theorem eX11_feed_47 : decode MX11_feed.2.1 47 = .ok (.putfield 113, 3) := by decide +kernel
theorem eX11_feed_50 : decode MX11_feed.2.1 50 = .ok (.iinc 3 (-8), 3) := by decide +kernel
theorem eX11_feed_53 : decode MX11_feed.2.1 53 = .ok (.goto (-34), 3) := by decide +kernel
theorem eX11_feed_56 : decode MX11_feed.2.1 56 = .ok (.aload_n 0, 1) := by decide +kernel
theorem eX11_feed_57 : decode MX11_feed.2.1 57 = .ok (.getfield 113, 3) := by decide +kernel
theorem eX11_feed_60 : decode MX11_feed.2.1 60 = .ok (.ireturn, 1) := by decide +kernel
set_option maxRecDepth 20000 in
theorem bX11_feed_0 {d : Nat} {Q : Option Value → St → Prop} (x1 : Int64) (σ : St) 
    (k1 : ((σ.1 88 10) + 8) ≤ 240 → Run MX11_feed d 19 [some (.ref 88), some (.long x1), none, some (.int 56)] [] σ Q)
    (k2 : (240 : Int32) < ((σ.1 88 10) + 8) → Q (some (.int (-3))) σ)
    : Run MX11_feed d 0 [some (.ref 88), some (.long x1), none, none] [] σ Q := by
  refine (go_aload_n 0 eX11_feed_0 rfl rfl).run ?_
  refine (go_geti flX11_113 rf_10_10 kd_88 eX11_feed_1).run ?_
  refine (go_bipush (v := 8) eX11_feed_4 rfl).run ?_
  refine (go_iadd eX11_feed_6).run ?_
  refine (go_sipush (v := 240) eX11_feed_7 rfl).run ?_
  refine (bi_le 16 eX11_feed_10 rfl).run (fun h1 => ?_) (fun h1 => ?_)
  · refine (go_bipush (v := 56) eX11_feed_16 rfl).run ?_
    refine (go_istore_n 3 (L' := [some (.ref 88), some (.long x1), none, some (.int 56)]) eX11_feed_18 rfl (Nat.le_of_ble_eq_true rfl) rfl).run ?_
    exact (k1 h1)
  · refine (go_bipush (v := -3) eX11_feed_13 rfl).run ?_
    exact Run.ret (v := some (.int (-3))) (k2 h1) ⟨Or.inl rfl, eX11_feed_15⟩ rfl

set_option maxRecDepth 20000 in
theorem bX11_feed_19 {d : Nat} {Q : Option Value → St → Prop} (x1 : Int64) (x3 : Int32) (σ : St) 
    (g1 : (0 : Int32) ≤ x3 → vp_in (σ.1 88 10) 240)
    (k1 : x3 < 0 → Q (some (.int (σ.1 88 10))) σ)
    (k2 : (0 : Int32) ≤ x3 → Run MX11_feed d 19 [some (.ref 88), some (.long x1), none, some (.int (x3 + (-8)))] [] (sA (sA σ 95 (upd (σ.1 95) (σ.1 88 10).toNatClampNeg (((x1 >>> (x3.toInt64 &&& 63)) &&& (255)).toInt32))) 88 (upd (σ.1 88) 10 ((σ.1 88 10) + 1))) Q)
    : Run MX11_feed d 19 [some (.ref 88), some (.long x1), none, some (.int x3)] [] σ Q := by
  refine (go_iload_n 3 eX11_feed_19 rfl rfl).run ?_
  refine (bz_lt 56 eX11_feed_20 rfl).run (fun h1 => ?_) (fun h1 => ?_)
  · refine (go_aload_n 0 eX11_feed_56 rfl rfl).run ?_
    refine (go_geti flX11_113 rf_10_10 kd_88 eX11_feed_57).run ?_
    exact Run.ret (v := some (.int (σ.1 88 10))) (k1 h1) ⟨Or.inl rfl, eX11_feed_60⟩ rfl
  · refine (go_aload_n 0 eX11_feed_23 rfl rfl).run ?_
    refine (go_getr flX11_36 rf_10_9 kd_88 gr_88_9 eX11_feed_24).run ?_
    refine (go_aload_n 0 eX11_feed_27 rfl rfl).run ?_
    refine (go_geti flX11_113 rf_10_10 kd_88 eX11_feed_28).run ?_
    refine (go_lload_n 1 eX11_feed_31 rfl rfl).run ?_
    refine (go_iload_n 3 eX11_feed_32 rfl rfl).run ?_
    refine (go_lshr eX11_feed_33).run ?_
    refine (go_ldc2 csX11_116 eX11_feed_34).run ?_
    refine (go_land eX11_feed_37).run ?_
    refine (go_l2i eX11_feed_38).run ?_
    refine (go_iast kd_95 ln_95 (g1 h1) eX11_feed_39).run ?_
    refine (go_aload_n 0 eX11_feed_40 rfl rfl).run ?_
    refine (go_dup eX11_feed_41 rfl).run ?_
    refine (go_geti flX11_113 rf_10_10 kd_88 eX11_feed_42).run ?_
    refine (go_iconst (v := 1) eX11_feed_45 rfl).run ?_
    refine (go_iadd eX11_feed_46).run ?_
    refine (go_puti flX11_113 rf_10_10 rfl pf_10_10 rfl rfl kd_88 eX11_feed_47).run ?_
    refine (go_iinc 3 (v := (x3 + (-8))) (L' := [some (.ref 88), some (.long x1), none, some (.int (x3 + (-8)))]) eX11_feed_50 rfl rfl (Nat.le_of_ble_eq_true rfl) rfl).run ?_
    refine (go_goto 19 eX11_feed_53 rfl).run ?_
    exact (k2 h1)

/-! CarryNetsModel.end -/
theorem eX11_end_0 : decode MX11_end.2.1 0 = .ok (.iload_n 1, 1) := by decide +kernel
theorem eX11_end_1 : decode MX11_end.2.1 1 = .ok (.i2l, 1) := by decide +kernel
theorem eX11_end_2 : decode MX11_end.2.1 2 = .ok (.lconst 0, 1) := by decide +kernel
theorem eX11_end_3 : decode MX11_end.2.1 3 = .ok (.aload_n 0, 1) := by decide +kernel
theorem eX11_end_4 : decode MX11_end.2.1 4 = .ok (.getfield 113, 3) := by decide +kernel
theorem eX11_end_7 : decode MX11_end.2.1 7 = .ok (.i2l, 1) := by decide +kernel
theorem eX11_end_8 : decode MX11_end.2.1 8 = .ok (.invokestatic 109, 3) := by decide +kernel
theorem eX11_end_11 : decode MX11_end.2.1 11 = .ok (.ifCond .ne 5, 3) := by decide +kernel
theorem eX11_end_14 : decode MX11_end.2.1 14 = .ok (.iconst (-1), 1) := by decide +kernel
theorem eX11_end_15 : decode MX11_end.2.1 15 = .ok (.ireturn, 1) := by decide +kernel
theorem eX11_end_16 : decode MX11_end.2.1 16 = .ok (.aload_n 0, 1) := by decide +kernel
theorem eX11_end_17 : decode MX11_end.2.1 17 = .ok (.getfield 113, 3) := by decide +kernel
theorem eX11_end_20 : decode MX11_end.2.1 20 = .ok (.istore_n 2, 1) := by decide +kernel
theorem eX11_end_21 : decode MX11_end.2.1 21 = .ok (.aload_n 0, 1) := by decide +kernel
theorem eX11_end_22 : decode MX11_end.2.1 22 = .ok (.iload_n 1, 1) := by decide +kernel
theorem eX11_end_23 : decode MX11_end.2.1 23 = .ok (.putfield 113, 3) := by decide +kernel
theorem eX11_end_26 : decode MX11_end.2.1 26 = .ok (.iload_n 2, 1) := by decide +kernel
theorem eX11_end_27 : decode MX11_end.2.1 27 = .ok (.ireturn, 1) := by decide +kernel
set_option maxRecDepth 20000 in
theorem bX11_end_0 {d : Nat} {Q : Option Value → St → Prop} (x1 : Int32) (σ : St) 
    (k1 : ((0 : Int64) ≤ x1.toInt64 ∧ x1.toInt64 ≤ ((σ.1 88 10).toInt64)) → Q (some (.int (σ.1 88 10))) (sA σ 88 (upd (σ.1 88) 10 x1)))
    (k2 : (¬ ((0 : Int64) ≤ x1.toInt64 ∧ x1.toInt64 ≤ ((σ.1 88 10).toInt64))) → Q (some (.int (-1))) σ)
    : Run MX11_end (d + 1) 0 [some (.ref 88), some (.int x1), none] [] σ Q := by
  refine (go_iload_n 1 eX11_end_0 rfl rfl).run ?_
  refine (go_i2l eX11_end_1).run ?_
  refine (go_lconst (v := 0) eX11_end_2 rfl).run ?_
  refine (go_aload_n 0 eX11_end_3 rfl rfl).run ?_
  refine (go_geti flX11_113 rf_10_10 kd_88 eX11_end_4).run ?_
  refine (go_i2l eX11_end_7).run ?_
  refine Run.callS1 (d := d) (As := [.long x1.toInt64, .long 0, .long ((σ.1 88 10).toInt64)]) (r := .int (bI ((0 : Int64) ≤ x1.toInt64 ∧ x1.toInt64 ≤ ((σ.1 88 10).toInt64)))) mX11_in lkX11_109 rfl rfl rfl (Nat.le_of_ble_eq_true rfl) eX11_end_8 (qX11_in d x1.toInt64 (0 : Int64) ((σ.1 88 10).toInt64) σ  ) ?_
  refine (br_ifne_b 16 eX11_end_11 rfl).run (fun h1 => ?_) (fun h1 => ?_)
  · refine (go_aload_n 0 eX11_end_16 rfl rfl).run ?_
    refine (go_geti flX11_113 rf_10_10 kd_88 eX11_end_17).run ?_
    refine (go_istore_n 2 (L' := [some (.ref 88), some (.int x1), some (.int (σ.1 88 10))]) eX11_end_20 rfl (Nat.le_of_ble_eq_true rfl) rfl).run ?_
    refine (go_aload_n 0 eX11_end_21 rfl rfl).run ?_
    refine (go_iload_n 1 eX11_end_22 rfl rfl).run ?_
    refine (go_puti flX11_113 rf_10_10 rfl pf_10_10 rfl rfl kd_88 eX11_end_23).run ?_
    refine (go_iload_n 2 eX11_end_26 rfl rfl).run ?_
    exact Run.ret (v := some (.int (σ.1 88 10))) (k1 h1) ⟨Or.inl rfl, eX11_end_27⟩ rfl
  · refine (go_iconst (v := -1) eX11_end_14 rfl).run ?_
    exact Run.ret (v := some (.int (-1))) (k2 h1) ⟨Or.inl rfl, eX11_end_15⟩ rfl

def sX11_end (x1 : Int32) (σ : St) : St := (if (0 : Int64) ≤ x1.toInt64 ∧ x1.toInt64 ≤ ((σ.1 88 10).toInt64) then sA σ 88 (upd (σ.1 88) 10 x1) else σ)
def rX11_end (x1 : Int32) (σ : St) : Int32 := (if (0 : Int64) ≤ x1.toInt64 ∧ x1.toInt64 ≤ ((σ.1 88 10).toInt64) then (σ.1 88 10) else (-1 : Int32))
theorem qX11_end (d : Nat) (x1 : Int32) (σ : St) : Ct yX11_end MX11_end (d + 1) [.ref 88, .int x1] σ (fun v σ1 => v = some (.int (rX11_end x1 σ)) ∧ σ1 = sX11_end x1 σ) :=
  Ct.of mX11_end.1 (Nat.le_of_ble_eq_true rfl) (bX11_end_0 x1 σ   (fun h1 => ⟨by first | rfl | (simp only [sX11_end, rX11_end, eq_true h1, not_true_eq_false, true_and, and_true, false_and, and_false, true_or, or_true, false_or, or_false, not_true_eq_false, not_false_eq_true, if_true, if_false]; done) | (simp [sX11_end, rX11_end, eq_true h1, not_true_eq_false, bI]; done), by first | rfl | (simp only [sX11_end, rX11_end, eq_true h1, not_true_eq_false, true_and, and_true, false_and, and_false, true_or, or_true, false_or, or_false, not_true_eq_false, not_false_eq_true, if_true, if_false]; done) | (simp [sX11_end, rX11_end, eq_true h1, not_true_eq_false, bI]; done)⟩) (fun h1 => ⟨by first | rfl | (simp only [sX11_end, rX11_end, eq_false h1, not_false_eq_true, true_and, and_true, false_and, and_false, true_or, or_true, false_or, or_false, not_true_eq_false, not_false_eq_true, if_true, if_false]; done) | (simp [sX11_end, rX11_end, eq_false h1, not_false_eq_true, bI]; done), by first | rfl | (simp only [sX11_end, rX11_end, eq_false h1, not_false_eq_true, true_and, and_true, false_and, and_false, true_or, or_true, false_or, or_false, not_true_eq_false, not_false_eq_true, if_true, if_false]; done) | (simp [sX11_end, rX11_end, eq_false h1, not_false_eq_true, bI]; done)⟩))

/-! CarryNetsModel.wants -/
theorem eX11_wants_0 : decode MX11_wants.2.1 0 = .ok (.iload_n 1, 1) := by decide +kernel
theorem eX11_wants_1 : decode MX11_wants.2.1 1 = .ok (.ifCond .ne 23, 3) := by decide +kernel
theorem eX11_wants_4 : decode MX11_wants.2.1 4 = .ok (.aload_n 0, 1) := by decide +kernel
theorem eX11_wants_5 : decode MX11_wants.2.1 5 = .ok (.getfield 118, 3) := by decide +kernel
theorem eX11_wants_8 : decode MX11_wants.2.1 8 = .ok (.ifCond .ne 16, 3) := by decide +kernel
theorem eX11_wants_11 : decode MX11_wants.2.1 11 = .ok (.aload_n 0, 1) := by decide +kernel
theorem eX11_wants_12 : decode MX11_wants.2.1 12 = .ok (.iload_n 2, 1) := by decide +kernel
theorem eX11_wants_13 : decode MX11_wants.2.1 13 = .ok (.putfield 118, 3) := by decide +kernel
theorem eX11_wants_16 : decode MX11_wants.2.1 16 = .ok (.aload_n 0, 1) := by decide +kernel
theorem eX11_wants_17 : decode MX11_wants.2.1 17 = .ok (.aload_n 0, 1) := by decide +kernel
theorem eX11_wants_18 : decode MX11_wants.2.1 18 = .ok (.getfield 121, 3) := by decide +kernel
theorem eX11_wants_21 : decode MX11_wants.2.1 21 = .ok (.putfield 124, 3) := by decide +kernel
theorem eX11_wants_24 : decode MX11_wants.2.1 24 = .ok (.return_, 1) := by decide +kernel
set_option maxRecDepth 20000 in
theorem bX11_wants_0 {d : Nat} {Q : Option Value → St → Prop} (x1 : Int32) (x2 : Int32) (σ : St) 
    (k1 : ¬ x1 = 0 → Q (none) σ)
    (k2 : x1 = 0 → ¬ (σ.1 88 15) = 0 → Q (none) σ)
    (k3 : x1 = 0 → (σ.1 88 15) = 0 → Q (none) (sA (sA σ 88 (upd (σ.1 88) 15 x2)) 88 (upd (upd (σ.1 88) 15 x2) 16 (σ.1 88 12))))
    : Run MX11_wants d 0 [some (.ref 88), some (.int x1), some (.int x2)] [] σ Q := by
  refine (go_iload_n 1 eX11_wants_0 rfl rfl).run ?_
  refine (bz_ne 24 eX11_wants_1 rfl).run (fun h1 => ?_) (fun h1 => ?_)
  · exact Run.ret (v := none) (k1 h1) ⟨rfl, eX11_wants_24⟩ rfl
  · refine (go_aload_n 0 eX11_wants_4 rfl rfl).run ?_
    refine (go_geti flX11_118 rf_10_15 kd_88 eX11_wants_5).run ?_
    refine (bz_ne 24 eX11_wants_8 rfl).run (fun h2 => ?_) (fun h2 => ?_)
    · exact Run.ret (v := none) (k2 h1 h2) ⟨rfl, eX11_wants_24⟩ rfl
    · refine (go_aload_n 0 eX11_wants_11 rfl rfl).run ?_
      refine (go_iload_n 2 eX11_wants_12 rfl rfl).run ?_
      refine (go_puti flX11_118 rf_10_15 rfl pf_10_15 rfl rfl kd_88 eX11_wants_13).run ?_
      refine (go_aload_n 0 eX11_wants_16 rfl rfl).run ?_
      refine (go_aload_n 0 eX11_wants_17 rfl rfl).run ?_
      refine (go_geti flX11_121 rf_10_12 kd_88 eX11_wants_18).run ?_
      refine (go_puti flX11_124 rf_10_16 rfl pf_10_16 rfl rfl kd_88 eX11_wants_21).run ?_
      exact Run.ret (v := none) (k3 h1 h2) ⟨rfl, eX11_wants_24⟩ rfl

def sX11_wants (x1 : Int32) (x2 : Int32) (σ : St) : St := (if x1 = 0 then (if (σ.1 88 15) = 0 then sA (sA σ 88 (upd (σ.1 88) 15 x2)) 88 (upd (upd (σ.1 88) 15 x2) 16 (σ.1 88 12)) else σ) else σ)
theorem qX11_wants (d : Nat) (x1 : Int32) (x2 : Int32) (σ : St) : Ct yX11_wants MX11_wants d [.ref 88, .int x1, .int x2] σ (fun v σ1 => v = none ∧ σ1 = sX11_wants x1 x2 σ) :=
  Ct.of mX11_wants.1 (Nat.le_of_ble_eq_true rfl) (bX11_wants_0 x1 x2 σ   (fun h1 => ⟨by first | rfl | (simp only [sX11_wants, eq_false h1, not_false_eq_true, true_and, and_true, false_and, and_false, true_or, or_true, false_or, or_false, not_true_eq_false, not_false_eq_true, if_true, if_false]; done) | (simp [sX11_wants, eq_false h1, not_false_eq_true, bI]; done), by first | rfl | (simp only [sX11_wants, eq_false h1, not_false_eq_true, true_and, and_true, false_and, and_false, true_or, or_true, false_or, or_false, not_true_eq_false, not_false_eq_true, if_true, if_false]; done) | (simp [sX11_wants, eq_false h1, not_false_eq_true, bI]; done)⟩) (fun h1 h2 => ⟨by first | rfl | (simp only [sX11_wants, eq_true h1, not_true_eq_false, eq_false h2, not_false_eq_true, true_and, and_true, false_and, and_false, true_or, or_true, false_or, or_false, not_true_eq_false, not_false_eq_true, if_true, if_false]; done) | (simp [sX11_wants, eq_true h1, not_true_eq_false, eq_false h2, not_false_eq_true, bI]; done), by first | rfl | (simp only [sX11_wants, eq_true h1, not_true_eq_false, eq_false h2, not_false_eq_true, true_and, and_true, false_and, and_false, true_or, or_true, false_or, or_false, not_true_eq_false, not_false_eq_true, if_true, if_false]; done) | (simp [sX11_wants, eq_true h1, not_true_eq_false, eq_false h2, not_false_eq_true, bI]; done)⟩) (fun h1 h2 => ⟨by first | rfl | (simp only [sX11_wants, eq_true h1, not_true_eq_false, eq_true h2, not_true_eq_false, true_and, and_true, false_and, and_false, true_or, or_true, false_or, or_false, not_true_eq_false, not_false_eq_true, if_true, if_false]; done) | (simp [sX11_wants, eq_true h1, not_true_eq_false, eq_true h2, not_true_eq_false, bI]; done), by first | rfl | (simp only [sX11_wants, eq_true h1, not_true_eq_false, eq_true h2, not_true_eq_false, true_and, and_true, false_and, and_false, true_or, or_true, false_or, or_false, not_true_eq_false, not_false_eq_true, if_true, if_false]; done) | (simp [sX11_wants, eq_true h1, not_true_eq_false, eq_true h2, not_true_eq_false, bI]; done)⟩))

/-! CarryNetsModel.look -/
theorem eX11_look_0 : decode MX11_look.2.1 0 = .ok (.iload_n 1, 1) := by decide +kernel
theorem eX11_look_1 : decode MX11_look.2.1 1 = .ok (.aload_n 0, 1) := by decide +kernel
theorem eX11_look_2 : decode MX11_look.2.1 2 = .ok (.getfield 113, 3) := by decide +kernel
theorem eX11_look_5 : decode MX11_look.2.1 5 = .ok (.if_icmp .ge 12, 3) := by decide +kernel
theorem eX11_look_8 : decode MX11_look.2.1 8 = .ok (.aload_n 0, 1) := by decide +kernel
theorem eX11_look_9 : decode MX11_look.2.1 9 = .ok (.getfield 36, 3) := by decide +kernel
theorem eX11_look_12 : decode MX11_look.2.1 12 = .ok (.iload_n 1, 1) := by decide +kernel
theorem eX11_look_13 : decode MX11_look.2.1 13 = .ok (.iaload, 1) := by decide +kernel
theorem eX11_look_14 : decode MX11_look.2.1 14 = .ok (.goto 4, 3) := by decide +kernel
theorem eX11_look_17 : decode MX11_look.2.1 17 = .ok (.iconst (-1), 1) := by decide +kernel
theorem eX11_look_18 : decode MX11_look.2.1 18 = .ok (.ireturn, 1) := by decide +kernel
set_option maxRecDepth 20000 in
theorem bX11_look_0 {d : Nat} {Q : Option Value → St → Prop} (x1 : Int32) (σ : St) 
    (g1 : x1 < (σ.1 88 10) → vp_in x1 240)
    (k1 : Q (some (.int (if (σ.1 88 10) ≤ x1 then (-1 : Int32) else (σ.1 95 x1.toNatClampNeg)))) σ)
    : Run MX11_look d 0 [some (.ref 88), some (.int x1)] [] σ Q := by
  refine (go_iload_n 1 eX11_look_0 rfl rfl).run ?_
  refine (go_aload_n 0 eX11_look_1 rfl rfl).run ?_
  refine (go_geti flX11_113 rf_10_10 kd_88 eX11_look_2).run ?_
  have hJh1 : Run MX11_look d 18 [none, none] [.int (if (σ.1 88 10) ≤ x1 then (-1 : Int32) else (σ.1 95 x1.toNatClampNeg))] σ Q := by
    exact Run.ret (v := some (.int (if (σ.1 88 10) ≤ x1 then (-1 : Int32) else (σ.1 95 x1.toNatClampNeg)))) k1 ⟨Or.inl rfl, eX11_look_18⟩ rfl
  refine (bi_ge 17 eX11_look_5 rfl).run (fun h1 => ?_) (fun h1 => ?_)
  · refine (go_iconst (v := -1) eX11_look_17 rfl).run ?_
    refine (go_sub (L' := [none, none]) (lsub_drop (lsub_drop lsub_nil))).run ?_
    first | exact hJh1 | (simp only [if_pos h1] at hJh1; exact hJh1) | (simp only [eq_true h1, eq_false (i32_nlt.mpr h1), true_and, and_true, false_and, and_false, true_or, or_true, false_or, or_false, not_true_eq_false, not_false_eq_true] at hJh1; exact hJh1) | exact Run.eq (by simp [eq_true h1, eq_false (i32_nlt.mpr h1), bI]) (by simp [eq_true h1, eq_false (i32_nlt.mpr h1), bI]) rfl hJh1
  · refine (go_aload_n 0 eX11_look_8 rfl rfl).run ?_
    refine (go_getr flX11_36 rf_10_9 kd_88 gr_88_9 eX11_look_9).run ?_
    refine (go_iload_n 1 eX11_look_12 rfl rfl).run ?_
    refine (go_iald kd_95 ln_95 (g1 h1) eX11_look_13).run ?_
    refine (go_goto 18 eX11_look_14 rfl).run ?_
    refine (go_sub (L' := [none, none]) (lsub_drop (lsub_drop lsub_nil))).run ?_
    first | exact hJh1 | (simp only [if_neg (i32_nle.mpr h1)] at hJh1; exact hJh1) | (simp only [eq_true h1, eq_false (i32_nle.mpr h1), true_and, and_true, false_and, and_false, true_or, or_true, false_or, or_false, not_true_eq_false, not_false_eq_true] at hJh1; exact hJh1) | exact Run.eq (by simp [eq_true h1, eq_false (i32_nle.mpr h1), bI]) (by simp [eq_true h1, eq_false (i32_nle.mpr h1), bI]) rfl hJh1

def rX11_look (x1 : Int32) (σ : St) : Int32 := (if (σ.1 88 10) ≤ x1 then (-1 : Int32) else (σ.1 95 x1.toNatClampNeg))
theorem qX11_look (d : Nat) (x1 : Int32) (σ : St) (g1 : x1 < (σ.1 88 10) → vp_in x1 240) : Ct yX11_look MX11_look d [.ref 88, .int x1] σ (fun v σ1 => v = some (.int (rX11_look x1 σ)) ∧ σ1 = σ) :=
  Ct.of mX11_look.1 (Nat.le_of_ble_eq_true rfl) (bX11_look_0 x1 σ  g1 (⟨by first | rfl | (simp only [rX11_look, true_and, and_true, false_and, and_false, true_or, or_true, false_or, or_false, not_true_eq_false, not_false_eq_true, if_true, if_false]; done) | (simp [rX11_look, bI]; done), by first | rfl | (simp only [rX11_look, true_and, and_true, false_and, and_false, true_or, or_true, false_or, or_false, not_true_eq_false, not_false_eq_true, if_true, if_false]; done) | (simp [rX11_look, bI]; done)⟩))

/-! CarryNetsModel.next -/
theorem eX11_next_0 : decode MX11_next.2.1 0 = .ok (.aload_n 0, 1) := by decide +kernel
theorem eX11_next_1 : decode MX11_next.2.1 1 = .ok (.getfield 118, 3) := by decide +kernel
theorem eX11_next_4 : decode MX11_next.2.1 4 = .ok (.ifCond .le 4, 3) := by decide +kernel
theorem eX11_next_7 : decode MX11_next.2.1 7 = .ok (.return_, 1) := by decide +kernel
theorem eX11_next_8 : decode MX11_next.2.1 8 = .ok (.aload_n 0, 1) := by decide +kernel
theorem eX11_next_9 : decode MX11_next.2.1 9 = .ok (.aload_n 0, 1) := by decide +kernel
theorem eX11_next_10 : decode MX11_next.2.1 10 = .ok (.getfield 127, 3) := by decide +kernel
theorem eX11_next_13 : decode MX11_next.2.1 13 = .ok (.invokevirtual 130, 3) := by decide +kernel
theorem eX11_next_16 : decode MX11_next.2.1 16 = .ok (.bipush 32, 2) := by decide +kernel
theorem eX11_next_18 : decode MX11_next.2.1 18 = .ok (.if_icmp .ne 16, 3) := by decide +kernel
theorem eX11_next_21 : decode MX11_next.2.1 21 = .ok (.aload_n 0, 1) := by decide +kernel
theorem eX11_next_22 : decode MX11_next.2.1 22 = .ok (.dup, 1) := by decide +kernel
theorem eX11_next_23 : decode MX11_next.2.1 23 = .ok (.getfield 127, 3) := by decide +kernel
theorem eX11_next_26 : decode MX11_next.2.1 26 = .ok (.iconst 1, 1) := by decide +kernel
theorem eX11_next_27 : decode MX11_next.2.1 27 = .ok (.iadd, 1) := by decide +kernel
theorem eX11_next_28 : decode MX11_next.2.1 28 = .ok (.putfield 127, 3) := by decide +kernel
theorem eX11_next_31 : decode MX11_next.2.1 31 = .ok (.goto (-23), 3) := by decide +kernel
theorem eX11_next_34 : decode MX11_next.2.1 34 = .ok (.aload_n 0, 1) := by decide +kernel
theorem eX11_next_35 : decode MX11_next.2.1 35 = .ok (.aload_n 0, 1) := by decide +kernel
theorem eX11_next_36 : decode MX11_next.2.1 36 = .ok (.getfield 127, 3) := by decide +kernel
theorem eX11_next_39 : decode MX11_next.2.1 39 = .ok (.putfield 121, 3) := by decide +kernel
theorem eX11_next_42 : decode MX11_next.2.1 42 = .ok (.aload_n 0, 1) := by decide +kernel
theorem eX11_next_43 : decode MX11_next.2.1 43 = .ok (.aload_n 0, 1) := by decide +kernel
theorem eX11_next_44 : decode MX11_next.2.1 44 = .ok (.getfield 127, 3) := by decide +kernel
theorem eX11_next_47 : decode MX11_next.2.1 47 = .ok (.invokevirtual 130, 3) := by decide +kernel
theorem eX11_next_50 : decode MX11_next.2.1 50 = .ok (.istore_n 1, 1) := by decide +kernel
theorem eX11_next_51 : decode MX11_next.2.1 51 = .ok (.iload_n 1, 1) := by decide +kernel
theorem eX11_next_52 : decode MX11_next.2.1 52 = .ok (.ifCond .ge 11, 3) := by decide +kernel
theorem eX11_next_55 : decode MX11_next.2.1 55 = .ok (.aload_n 0, 1) := by decide +kernel
theorem eX11_next_56 : decode MX11_next.2.1 56 = .ok (.iconst 0, 1) := by decide +kernel
theorem eX11_next_57 : decode MX11_next.2.1 57 = .ok (.putfield 134, 3) := by decide +kernel
theorem eX11_next_60 : decode MX11_next.2.1 60 = .ok (.goto 178, 3) := by decide +kernel
theorem eX11_next_63 : decode MX11_next.2.1 63 = .ok (.iload_n 1, 1) := by decide +kernel
theorem eX11_next_64 : decode MX11_next.2.1 64 = .ok (.i2l, 1) := by decide +kernel
theorem eX11_next_65 : decode MX11_next.2.1 65 = .ok (.ldc2_w 137, 3) := by decide +kernel
theorem eX11_next_68 : decode MX11_next.2.1 68 = .ok (.ldc2_w 139, 3) := by decide +kernel
theorem eX11_next_71 : decode MX11_next.2.1 71 = .ok (.invokestatic 109, 3) := by decide +kernel
theorem eX11_next_74 : decode MX11_next.2.1 74 = .ok (.ifCond .eq 116, 3) := by decide +kernel
theorem eX11_next_77 : decode MX11_next.2.1 77 = .ok (.aload_n 0, 1) := by decide +kernel
theorem eX11_next_78 : decode MX11_next.2.1 78 = .ok (.iconst 1, 1) := by decide +kernel
theorem eX11_next_79 : decode MX11_next.2.1 79 = .ok (.putfield 134, 3) := by decide +kernel
theorem eX11_next_82 : decode MX11_next.2.1 82 = .ok (.aload_n 0, 1) := by decide +kernel
theorem eX11_next_83 : decode MX11_next.2.1 83 = .ok (.iconst 0, 1) := by decide +kernel
theorem eX11_next_84 : decode MX11_next.2.1 84 = .ok (.putfield 141, 3) := by decide +kernel
theorem eX11_next_87 : decode MX11_next.2.1 87 = .ok (.aload_n 0, 1) := by decide +kernel
theorem eX11_next_88 : decode MX11_next.2.1 88 = .ok (.aload_n 0, 1) := by decide +kernel
theorem eX11_next_89 : decode MX11_next.2.1 89 = .ok (.getfield 127, 3) := by decide +kernel
theorem eX11_next_92 : decode MX11_next.2.1 92 = .ok (.invokevirtual 130, 3) := by decide +kernel
theorem eX11_next_95 : decode MX11_next.2.1 95 = .ok (.i2l, 1) := by decide +kernel
theorem eX11_next_96 : decode MX11_next.2.1 96 = .ok (.ldc2_w 137, 3) := by decide +kernel
theorem eX11_next_99 : decode MX11_next.2.1 99 = .ok (.ldc2_w 139, 3) := by decide +kernel
theorem eX11_next_102 : decode MX11_next.2.1 102 = .ok (.invokestatic 109, 3) := by decide +kernel
theorem eX11_next_105 : decode MX11_next.2.1 105 = .ok (.ifCond .eq 59, 3) := by decide +kernel
theorem eX11_next_108 : decode MX11_next.2.1 108 = .ok (.aload_n 0, 1) := by decide +kernel
theorem eX11_next_109 : decode MX11_next.2.1 109 = .ok (.aload_n 0, 1) := by decide +kernel
theorem eX11_next_110 : decode MX11_next.2.1 110 = .ok (.getfield 127, 3) := by decide +kernel
theorem eX11_next_113 : decode MX11_next.2.1 113 = .ok (.aload_n 0, 1) := by decide +kernel
theorem eX11_next_114 : decode MX11_next.2.1 114 = .ok (.getfield 121, 3) := by decide +kernel
theorem eX11_next_117 : decode MX11_next.2.1 117 = .ok (.isub, 1) := by decide +kernel
theorem eX11_next_118 : decode MX11_next.2.1 118 = .ok (.iconst 2, 1) := by decide +kernel
theorem eX11_next_119 : decode MX11_next.2.1 119 = .ok (.if_icmp .ge 25, 3) := by decide +kernel
theorem eX11_next_122 : decode MX11_next.2.1 122 = .ok (.bipush 10, 2) := by decide +kernel
theorem eX11_next_124 : decode MX11_next.2.1 124 = .ok (.aload_n 0, 1) := by decide +kernel
theorem eX11_next_125 : decode MX11_next.2.1 125 = .ok (.getfield 141, 3) := by decide +kernel
theorem eX11_next_128 : decode MX11_next.2.1 128 = .ok (.imul, 1) := by decide +kernel
theorem eX11_next_129 : decode MX11_next.2.1 129 = .ok (.aload_n 0, 1) := by decide +kernel
theorem eX11_next_130 : decode MX11_next.2.1 130 = .ok (.aload_n 0, 1) := by decide +kernel
theorem eX11_next_131 : decode MX11_next.2.1 131 = .ok (.getfield 127, 3) := by decide +kernel
theorem eX11_next_134 : decode MX11_next.2.1 134 = .ok (.invokevirtual 130, 3) := by decide +kernel
theorem eX11_next_137 : decode MX11_next.2.1 137 = .ok (.iadd, 1) := by decide +kernel
theorem eX11_next_138 : decode MX11_next.2.1 138 = .ok (.bipush 48, 2) := by decide +kernel
theorem eX11_next_140 : decode MX11_next.2.1 140 = .ok (.isub, 1) := by decide +kernel
theorem eX11_next_141 : decode MX11_next.2.1 141 = .ok (.goto 7, 3) := by decide +kernel
theorem eX11_next_144 : decode MX11_next.2.1 144 = .ok (.aload_n 0, 1) := by decide +kernel
theorem eX11_next_145 : decode MX11_next.2.1 145 = .ok (.getfield 141, 3) := by decide +kernel
theorem eX11_next_148 : decode MX11_next.2.1 148 = .ok (.putfield 141, 3) := by decide +kernel
theorem eX11_next_151 : decode MX11_next.2.1 151 = .ok (.aload_n 0, 1) := by decide +kernel
theorem eX11_next_152 : decode MX11_next.2.1 152 = .ok (.dup, 1) := by decide +kernel
theorem eX11_next_153 : decode MX11_next.2.1 153 = .ok (.getfield 127, 3) := by decide +kernel
theorem eX11_next_156 : decode MX11_next.2.1 156 = .ok (.iconst 1, 1) := by decide +kernel
theorem eX11_next_157 : decode MX11_next.2.1 157 = .ok (.iadd, 1) := by decide +kernel
theorem eX11_next_158 : decode MX11_next.2.1 158 = .ok (.putfield 127, 3) := by decide +kernel
theorem eX11_next_161 : decode MX11_next.2.1 161 = .ok (.goto (-74), 3) := by decide +kernel
theorem eX11_next_164 : decode MX11_next.2.1 164 = .ok (.aload_n 0, 1) := by decide +kernel
theorem eX11_next_165 : decode MX11_next.2.1 165 = .ok (.aload_n 0, 1) := by decide +kernel
theorem eX11_next_166 : decode MX11_next.2.1 166 = .ok (.getfield 127, 3) := by decide +kernel
theorem eX11_next_169 : decode MX11_next.2.1 169 = .ok (.aload_n 0, 1) := by decide +kernel
theorem eX11_next_170 : decode MX11_next.2.1 170 = .ok (.getfield 121, 3) := by decide +kernel
theorem eX11_next_173 : decode MX11_next.2.1 173 = .ok (.isub, 1) := by decide +kernel
theorem eX11_next_174 : decode MX11_next.2.1 174 = .ok (.iconst 2, 1) := by decide +kernel
theorem eX11_next_175 : decode MX11_next.2.1 175 = .ok (.if_icmp .gt 7, 3) := by decide +kernel
theorem eX11_next_178 : decode MX11_next.2.1 178 = .ok (.iconst 1, 1) := by decide +kernel
theorem eX11_next_179 : decode MX11_next.2.1 179 = .ok (.goto 4, 3) := by decide +kernel
theorem eX11_next_182 : decode MX11_next.2.1 182 = .ok (.iconst 0, 1) := by decide +kernel
theorem eX11_next_183 : decode MX11_next.2.1 183 = .ok (.iconst 1, 1) := by decide +kernel
theorem eX11_next_184 : decode MX11_next.2.1 184 = .ok (.invokevirtual 144, 3) := by decide +kernel
theorem eX11_next_187 : decode MX11_next.2.1 187 = .ok (.goto 51, 3) := by decide +kernel
theorem eX11_next_190 : decode MX11_next.2.1 190 = .ok (.aload_n 0, 1) := by decide +kernel
theorem eX11_next_191 : decode MX11_next.2.1 191 = .ok (.iconst 2, 1) := by decide +kernel
theorem eX11_next_192 : decode MX11_next.2.1 192 = .ok (.putfield 134, 3) := by decide +kernel
theorem eX11_next_195 : decode MX11_next.2.1 195 = .ok (.aload_n 0, 1) := by decide +kernel
theorem eX11_next_196 : decode MX11_next.2.1 196 = .ok (.iload_n 1, 1) := by decide +kernel
theorem eX11_next_197 : decode MX11_next.2.1 197 = .ok (.putfield 141, 3) := by decide +kernel
theorem eX11_next_200 : decode MX11_next.2.1 200 = .ok (.aload_n 0, 1) := by decide +kernel
theorem eX11_next_201 : decode MX11_next.2.1 201 = .ok (.iload_n 1, 1) := by decide +kernel
theorem eX11_next_202 : decode MX11_next.2.1 202 = .ok (.bipush 58, 2) := by decide +kernel
theorem eX11_next_204 : decode MX11_next.2.1 204 = .ok (.if_icmp .eq 15, 3) := by decide +kernel
theorem eX11_next_207 : decode MX11_next.2.1 207 = .ok (.iload_n 1, 1) := by decide +kernel
theorem eX11_next_208 : decode MX11_next.2.1 208 = .ok (.bipush 44, 2) := by decide +kernel
theorem eX11_next_210 : decode MX11_next.2.1 210 = .ok (.if_icmp .eq 9, 3) := by decide +kernel
theorem eX11_next_213 : decode MX11_next.2.1 213 = .ok (.iload_n 1, 1) := by decide +kernel
theorem eX11_next_214 : decode MX11_next.2.1 214 = .ok (.bipush 59, 2) := by decide +kernel
theorem eX11_next_216 : decode MX11_next.2.1 216 = .ok (.if_icmp .ne 7, 3) := by decide +kernel
theorem eX11_next_219 : decode MX11_next.2.1 219 = .ok (.iconst 1, 1) := by decide +kernel
theorem eX11_next_220 : decode MX11_next.2.1 220 = .ok (.goto 4, 3) := by decide +kernel
theorem eX11_next_223 : decode MX11_next.2.1 223 = .ok (.iconst 0, 1) := by decide +kernel
theorem eX11_next_224 : decode MX11_next.2.1 224 = .ok (.iconst 1, 1) := by decide +kernel
theorem eX11_next_225 : decode MX11_next.2.1 225 = .ok (.invokevirtual 144, 3) := by decide +kernel
theorem eX11_next_228 : decode MX11_next.2.1 228 = .ok (.aload_n 0, 1) := by decide +kernel
theorem eX11_next_229 : decode MX11_next.2.1 229 = .ok (.dup, 1) := by decide +kernel
theorem eX11_next_230 : decode MX11_next.2.1 230 = .ok (.getfield 127, 3) := by decide +kernel
theorem eX11_next_233 : decode MX11_next.2.1 233 = .ok (.iconst 1, 1) := by decide +kernel
theorem eX11_next_234 : decode MX11_next.2.1 234 = .ok (.iadd, 1) := by decide +kernel
theorem eX11_next_235 : decode MX11_next.2.1 235 = .ok (.putfield 127, 3) := by decide +kernel
theorem eX11_next_238 : decode MX11_next.2.1 238 = .ok (.return_, 1) := by decide +kernel
set_option maxRecDepth 20000 in
theorem bX11_next_0 {d : Nat} {Q : Option Value → St → Prop} (σ : St) 
    (k1 : (σ.1 88 15) ≤ 0 → Run MX11_next (d + 1) 8 [some (.ref 88), none] [] σ Q)
    (k2 : (0 : Int32) < (σ.1 88 15) → Q (none) σ)
    : Run MX11_next (d + 1) 0 [some (.ref 88), none] [] σ Q := by
  refine (go_aload_n 0 eX11_next_0 rfl rfl).run ?_
  refine (go_geti flX11_118 rf_10_15 kd_88 eX11_next_1).run ?_
  refine (bz_le 8 eX11_next_4 rfl).run (fun h1 => ?_) (fun h1 => ?_)
  · exact (k1 h1)
  · exact Run.ret (v := none) (k2 h1) ⟨rfl, eX11_next_7⟩ rfl

set_option maxRecDepth 20000 in
theorem bX11_next_8 {d : Nat} {Q : Option Value → St → Prop} (σ : St) 
    (g1 : (σ.1 88 11) < (σ.1 88 10) → vp_in (σ.1 88 11) 240)
    (g2 : ¬ ((rX11_look (σ.1 88 11) σ)) = 32 → (σ.1 88 11) < (upd (σ.1 88) 12 (σ.1 88 11) 10) → vp_in (σ.1 88 11) 240)
    (k1 : ¬ ((rX11_look (σ.1 88 11) σ)) = 32 → (0 : Int32) ≤ ((rX11_look (σ.1 88 11) (sA σ 88 (upd (σ.1 88) 12 (σ.1 88 11))))) → (¬ ((48 : Int64) ≤ (((rX11_look (σ.1 88 11) (sA σ 88 (upd (σ.1 88) 12 (σ.1 88 11))))).toInt64) ∧ (((rX11_look (σ.1 88 11) (sA σ 88 (upd (σ.1 88) 12 (σ.1 88 11))))).toInt64) ≤ (57 : Int64))) → Q (none) (sA (sX11_wants (bI (((rX11_look (σ.1 88 11) (sA σ 88 (upd (σ.1 88) 12 (σ.1 88 11))))) = 58 ∨ (((rX11_look (σ.1 88 11) (sA σ 88 (upd (σ.1 88) 12 (σ.1 88 11))))) = 44 ∨ ((rX11_look (σ.1 88 11) (sA σ 88 (upd (σ.1 88) 12 (σ.1 88 11))))) = 59))) (1 : Int32) (sA (sA (sA σ 88 (upd (σ.1 88) 12 (σ.1 88 11))) 88 (upd (upd (σ.1 88) 12 (σ.1 88 11)) 13 2)) 88 (upd (upd (upd (σ.1 88) 12 (σ.1 88 11)) 13 2) 14 ((rX11_look (σ.1 88 11) (sA σ 88 (upd (σ.1 88) 12 (σ.1 88 11)))))))) 88 (upd ((sX11_wants (bI (((rX11_look (σ.1 88 11) (sA σ 88 (upd (σ.1 88) 12 (σ.1 88 11))))) = 58 ∨ (((rX11_look (σ.1 88 11) (sA σ 88 (upd (σ.1 88) 12 (σ.1 88 11))))) = 44 ∨ ((rX11_look (σ.1 88 11) (sA σ 88 (upd (σ.1 88) 12 (σ.1 88 11))))) = 59))) (1 : Int32) (sA (sA (sA σ 88 (upd (σ.1 88) 12 (σ.1 88 11))) 88 (upd (upd (σ.1 88) 12 (σ.1 88 11)) 13 2)) 88 (upd (upd (upd (σ.1 88) 12 (σ.1 88 11)) 13 2) 14 ((rX11_look (σ.1 88 11) (sA σ 88 (upd (σ.1 88) 12 (σ.1 88 11)))))))).1 88) 11 (((sX11_wants (bI (((rX11_look (σ.1 88 11) (sA σ 88 (upd (σ.1 88) 12 (σ.1 88 11))))) = 58 ∨ (((rX11_look (σ.1 88 11) (sA σ 88 (upd (σ.1 88) 12 (σ.1 88 11))))) = 44 ∨ ((rX11_look (σ.1 88 11) (sA σ 88 (upd (σ.1 88) 12 (σ.1 88 11))))) = 59))) (1 : Int32) (sA (sA (sA σ 88 (upd (σ.1 88) 12 (σ.1 88 11))) 88 (upd (upd (σ.1 88) 12 (σ.1 88 11)) 13 2)) 88 (upd (upd (upd (σ.1 88) 12 (σ.1 88 11)) 13 2) 14 ((rX11_look (σ.1 88 11) (sA σ 88 (upd (σ.1 88) 12 (σ.1 88 11)))))))).1 88 11) + 1))))
    (k2 : ¬ ((rX11_look (σ.1 88 11) σ)) = 32 → (0 : Int32) ≤ ((rX11_look (σ.1 88 11) (sA σ 88 (upd (σ.1 88) 12 (σ.1 88 11))))) → ((48 : Int64) ≤ (((rX11_look (σ.1 88 11) (sA σ 88 (upd (σ.1 88) 12 (σ.1 88 11))))).toInt64) ∧ (((rX11_look (σ.1 88 11) (sA σ 88 (upd (σ.1 88) 12 (σ.1 88 11))))).toInt64) ≤ (57 : Int64)) → Run MX11_next (d + 1) 87 [some (.ref 88), none] [] (sA (sA (sA σ 88 (upd (σ.1 88) 12 (σ.1 88 11))) 88 (upd (upd (σ.1 88) 12 (σ.1 88 11)) 13 1)) 88 (upd (upd (upd (σ.1 88) 12 (σ.1 88 11)) 13 1) 14 0)) Q)
    (k3 : ¬ ((rX11_look (σ.1 88 11) σ)) = 32 → ((rX11_look (σ.1 88 11) (sA σ 88 (upd (σ.1 88) 12 (σ.1 88 11))))) < 0 → Q (none) (sA (sA σ 88 (upd (σ.1 88) 12 (σ.1 88 11))) 88 (upd (upd (σ.1 88) 12 (σ.1 88 11)) 13 0)))
    (k4 : ((rX11_look (σ.1 88 11) σ)) = 32 → Run MX11_next (d + 1) 8 [some (.ref 88), none] [] (sA σ 88 (upd (σ.1 88) 11 ((σ.1 88 11) + 1))) Q)
    : Run MX11_next (d + 1) 8 [some (.ref 88), none] [] σ Q := by
  refine (go_aload_n 0 eX11_next_8 rfl rfl).run ?_
  refine (go_aload_n 0 eX11_next_9 rfl rfl).run ?_
  refine (go_geti flX11_127 rf_10_11 kd_88 eX11_next_10).run ?_
  refine Run.callV1 (d := d) (As := [.int (σ.1 88 11)]) (r := .int ((rX11_look (σ.1 88 11) σ))) mX11_look lkX11_130 kd_88 (by decide) rfl rfl rfl rfl rfl (Nat.le_of_ble_eq_true rfl) eX11_next_13 (qX11_look d (σ.1 88 11) σ  g1) ?_
  refine (go_bipush (v := 32) eX11_next_16 rfl).run ?_
  refine (bi_ne 34 eX11_next_18 rfl).run (fun h1 => ?_) (fun h1 => ?_)
  · refine (go_aload_n 0 eX11_next_34 rfl rfl).run ?_
    refine (go_aload_n 0 eX11_next_35 rfl rfl).run ?_
    refine (go_geti flX11_127 rf_10_11 kd_88 eX11_next_36).run ?_
    refine (go_puti flX11_121 rf_10_12 rfl pf_10_12 rfl rfl kd_88 eX11_next_39).run ?_
    refine (go_aload_n 0 eX11_next_42 rfl rfl).run ?_
    refine (go_aload_n 0 eX11_next_43 rfl rfl).run ?_
    refine (go_geti flX11_127 rf_10_11 kd_88 eX11_next_44).run ?_
    refine Run.callV1 (d := d) (As := [.int (σ.1 88 11)]) (r := .int ((rX11_look (σ.1 88 11) (sA σ 88 (upd (σ.1 88) 12 (σ.1 88 11)))))) mX11_look lkX11_130 kd_88 (by decide) rfl rfl rfl rfl rfl (Nat.le_of_ble_eq_true rfl) eX11_next_47 (qX11_look d (σ.1 88 11) (sA σ 88 (upd (σ.1 88) 12 (σ.1 88 11)))  (g2 h1)) ?_
    refine (go_istore_n 1 (L' := [some (.ref 88), some (.int ((rX11_look (σ.1 88 11) (sA σ 88 (upd (σ.1 88) 12 (σ.1 88 11))))))]) eX11_next_50 rfl (Nat.le_of_ble_eq_true rfl) rfl).run ?_
    refine (go_iload_n 1 eX11_next_51 rfl rfl).run ?_
    refine (bz_ge 63 eX11_next_52 rfl).run (fun h2 => ?_) (fun h2 => ?_)
    · refine (go_iload_n 1 eX11_next_63 rfl rfl).run ?_
      refine (go_i2l eX11_next_64).run ?_
      refine (go_ldc2 csX11_137 eX11_next_65).run ?_
      refine (go_ldc2 csX11_139 eX11_next_68).run ?_
      refine Run.callS1 (d := d) (As := [.long (((rX11_look (σ.1 88 11) (sA σ 88 (upd (σ.1 88) 12 (σ.1 88 11))))).toInt64), .long (48), .long (57)]) (r := .int (bI ((48 : Int64) ≤ (((rX11_look (σ.1 88 11) (sA σ 88 (upd (σ.1 88) 12 (σ.1 88 11))))).toInt64) ∧ (((rX11_look (σ.1 88 11) (sA σ 88 (upd (σ.1 88) 12 (σ.1 88 11))))).toInt64) ≤ (57 : Int64)))) mX11_in lkX11_109 rfl rfl rfl (Nat.le_of_ble_eq_true rfl) eX11_next_71 (qX11_in d (((rX11_look (σ.1 88 11) (sA σ 88 (upd (σ.1 88) 12 (σ.1 88 11))))).toInt64) (48 : Int64) (57 : Int64) (sA σ 88 (upd (σ.1 88) 12 (σ.1 88 11)))  ) ?_
      refine (br_ifeq_b 190 eX11_next_74 rfl).run (fun h3 => ?_) (fun h3 => ?_)
      · refine (go_aload_n 0 eX11_next_190 rfl rfl).run ?_
        refine (go_iconst (v := 2) eX11_next_191 rfl).run ?_
        refine (go_puti flX11_134 rf_10_13 rfl pf_10_13 rfl rfl kd_88 eX11_next_192).run ?_
        refine (go_aload_n 0 eX11_next_195 rfl rfl).run ?_
        refine (go_iload_n 1 eX11_next_196 rfl rfl).run ?_
        refine (go_puti flX11_141 rf_10_14 rfl pf_10_14 rfl rfl kd_88 eX11_next_197).run ?_
        refine (go_aload_n 0 eX11_next_200 rfl rfl).run ?_
        refine (go_iload_n 1 eX11_next_201 rfl rfl).run ?_
        refine (go_bipush (v := 58) eX11_next_202 rfl).run ?_
        have hJh4 : Run MX11_next (d + 1) 224 [some (.ref 88), none] [.int (bI (((rX11_look (σ.1 88 11) (sA σ 88 (upd (σ.1 88) 12 (σ.1 88 11))))) = 58 ∨ (((rX11_look (σ.1 88 11) (sA σ 88 (upd (σ.1 88) 12 (σ.1 88 11))))) = 44 ∨ ((rX11_look (σ.1 88 11) (sA σ 88 (upd (σ.1 88) 12 (σ.1 88 11))))) = 59))), .ref 88] (sA (sA (sA σ 88 (upd (σ.1 88) 12 (σ.1 88 11))) 88 (upd (upd (σ.1 88) 12 (σ.1 88 11)) 13 2)) 88 (upd (upd (upd (σ.1 88) 12 (σ.1 88 11)) 13 2) 14 ((rX11_look (σ.1 88 11) (sA σ 88 (upd (σ.1 88) 12 (σ.1 88 11))))))) Q := by
          refine (go_iconst (v := 1) eX11_next_224 rfl).run ?_
          refine Run.callV0 (d := d) (As := [.int (bI (((rX11_look (σ.1 88 11) (sA σ 88 (upd (σ.1 88) 12 (σ.1 88 11))))) = 58 ∨ (((rX11_look (σ.1 88 11) (sA σ 88 (upd (σ.1 88) 12 (σ.1 88 11))))) = 44 ∨ ((rX11_look (σ.1 88 11) (sA σ 88 (upd (σ.1 88) 12 (σ.1 88 11))))) = 59))), .int 1]) mX11_wants lkX11_144 kd_88 (by decide) rfl rfl rfl rfl rfl (Nat.le_of_ble_eq_true rfl) eX11_next_225 (qX11_wants d (bI (((rX11_look (σ.1 88 11) (sA σ 88 (upd (σ.1 88) 12 (σ.1 88 11))))) = 58 ∨ (((rX11_look (σ.1 88 11) (sA σ 88 (upd (σ.1 88) 12 (σ.1 88 11))))) = 44 ∨ ((rX11_look (σ.1 88 11) (sA σ 88 (upd (σ.1 88) 12 (σ.1 88 11))))) = 59))) (1 : Int32) (sA (sA (sA σ 88 (upd (σ.1 88) 12 (σ.1 88 11))) 88 (upd (upd (σ.1 88) 12 (σ.1 88 11)) 13 2)) 88 (upd (upd (upd (σ.1 88) 12 (σ.1 88 11)) 13 2) 14 ((rX11_look (σ.1 88 11) (sA σ 88 (upd (σ.1 88) 12 (σ.1 88 11)))))))  ) ?_
          refine (go_aload_n 0 eX11_next_228 rfl rfl).run ?_
          refine (go_dup eX11_next_229 rfl).run ?_
          refine (go_geti flX11_127 rf_10_11 kd_88 eX11_next_230).run ?_
          refine (go_iconst (v := 1) eX11_next_233 rfl).run ?_
          refine (go_iadd eX11_next_234).run ?_
          refine (go_puti flX11_127 rf_10_11 rfl pf_10_11 rfl rfl kd_88 eX11_next_235).run ?_
          exact Run.ret (v := none) (k1 h1 h2 h3) ⟨rfl, eX11_next_238⟩ rfl
        refine (bi_eq 219 eX11_next_204 rfl).run (fun (h4 : ((rX11_look (σ.1 88 11) (sA σ 88 (upd (σ.1 88) 12 (σ.1 88 11))))) = 58) => ?_) (fun (h4 : ¬ ((rX11_look (σ.1 88 11) (sA σ 88 (upd (σ.1 88) 12 (σ.1 88 11))))) = 58) => ?_)
        · refine (go_iconst (v := 1) eX11_next_219 rfl).run ?_
          refine (go_goto 224 eX11_next_220 rfl).run ?_
          refine (go_sub (L' := [some (.ref 88), none]) (lsub_keep (lsub_drop lsub_nil))).run ?_
          first | exact hJh4 | (simp only [if_pos h4] at hJh4; exact hJh4) | (simp only [eq_true h4, not_true_eq_false, true_and, and_true, false_and, and_false, true_or, or_true, false_or, or_false, not_true_eq_false, not_false_eq_true] at hJh4; exact hJh4) | exact Run.eq (by simp [eq_true h4, not_true_eq_false, bI]) (by simp [eq_true h4, not_true_eq_false, bI]) rfl hJh4
        · refine (go_iload_n 1 eX11_next_207 rfl rfl).run ?_
          refine (go_bipush (v := 44) eX11_next_208 rfl).run ?_
          have hJh5 : Run MX11_next (d + 1) 224 [some (.ref 88), none] [.int (bI (((rX11_look (σ.1 88 11) (sA σ 88 (upd (σ.1 88) 12 (σ.1 88 11))))) = 44 ∨ ((rX11_look (σ.1 88 11) (sA σ 88 (upd (σ.1 88) 12 (σ.1 88 11))))) = 59)), .ref 88] (sA (sA (sA σ 88 (upd (σ.1 88) 12 (σ.1 88 11))) 88 (upd (upd (σ.1 88) 12 (σ.1 88 11)) 13 2)) 88 (upd (upd (upd (σ.1 88) 12 (σ.1 88 11)) 13 2) 14 ((rX11_look (σ.1 88 11) (sA σ 88 (upd (σ.1 88) 12 (σ.1 88 11))))))) Q := by
            first | exact hJh4 | (simp only [if_neg (h4)] at hJh4; exact hJh4) | (simp only [eq_false h4, not_false_eq_true, true_and, and_true, false_and, and_false, true_or, or_true, false_or, or_false, not_true_eq_false, not_false_eq_true] at hJh4; exact hJh4) | exact Run.eq (by simp [eq_false h4, not_false_eq_true, bI]) (by simp [eq_false h4, not_false_eq_true, bI]) rfl hJh4
          refine (bi_eq 219 eX11_next_210 rfl).run (fun (h5 : ((rX11_look (σ.1 88 11) (sA σ 88 (upd (σ.1 88) 12 (σ.1 88 11))))) = 44) => ?_) (fun (h5 : ¬ ((rX11_look (σ.1 88 11) (sA σ 88 (upd (σ.1 88) 12 (σ.1 88 11))))) = 44) => ?_)
          · refine (go_iconst (v := 1) eX11_next_219 rfl).run ?_
            refine (go_goto 224 eX11_next_220 rfl).run ?_
            refine (go_sub (L' := [some (.ref 88), none]) (lsub_keep (lsub_drop lsub_nil))).run ?_
            first | exact hJh5 | (simp only [if_pos h5] at hJh5; exact hJh5) | (simp only [eq_true h5, not_true_eq_false, true_and, and_true, false_and, and_false, true_or, or_true, false_or, or_false, not_true_eq_false, not_false_eq_true] at hJh5; exact hJh5) | exact Run.eq (by simp [eq_true h5, not_true_eq_false, bI]) (by simp [eq_true h5, not_true_eq_false, bI]) rfl hJh5
          · refine (go_iload_n 1 eX11_next_213 rfl rfl).run ?_
            refine (go_bipush (v := 59) eX11_next_214 rfl).run ?_
            have hJh6 : Run MX11_next (d + 1) 224 [some (.ref 88), none] [.int (bI (((rX11_look (σ.1 88 11) (sA σ 88 (upd (σ.1 88) 12 (σ.1 88 11))))) = 59)), .ref 88] (sA (sA (sA σ 88 (upd (σ.1 88) 12 (σ.1 88 11))) 88 (upd (upd (σ.1 88) 12 (σ.1 88 11)) 13 2)) 88 (upd (upd (upd (σ.1 88) 12 (σ.1 88 11)) 13 2) 14 ((rX11_look (σ.1 88 11) (sA σ 88 (upd (σ.1 88) 12 (σ.1 88 11))))))) Q := by
              first | exact hJh5 | (simp only [if_neg (h5)] at hJh5; exact hJh5) | (simp only [eq_false h5, not_false_eq_true, true_and, and_true, false_and, and_false, true_or, or_true, false_or, or_false, not_true_eq_false, not_false_eq_true] at hJh5; exact hJh5) | exact Run.eq (by simp [eq_false h5, not_false_eq_true, bI]) (by simp [eq_false h5, not_false_eq_true, bI]) rfl hJh5
            refine (bi_ne 223 eX11_next_216 rfl).run (fun (h6 : ¬ ((rX11_look (σ.1 88 11) (sA σ 88 (upd (σ.1 88) 12 (σ.1 88 11))))) = 59) => ?_) (fun (h6 : ((rX11_look (σ.1 88 11) (sA σ 88 (upd (σ.1 88) 12 (σ.1 88 11))))) = 59) => ?_)
            · refine (go_iconst (v := 0) eX11_next_223 rfl).run ?_
              refine (go_sub (L' := [some (.ref 88), none]) (lsub_keep (lsub_drop lsub_nil))).run ?_
              first | exact hJh6 | (simp only [if_neg (h6)] at hJh6; exact hJh6) | (simp only [eq_false h6, not_false_eq_true, true_and, and_true, false_and, and_false, true_or, or_true, false_or, or_false, not_true_eq_false, not_false_eq_true] at hJh6; exact hJh6) | exact Run.eq (by simp [eq_false h6, not_false_eq_true, bI]) (by simp [eq_false h6, not_false_eq_true, bI]) rfl hJh6
            · refine (go_iconst (v := 1) eX11_next_219 rfl).run ?_
              refine (go_goto 224 eX11_next_220 rfl).run ?_
              refine (go_sub (L' := [some (.ref 88), none]) (lsub_keep (lsub_drop lsub_nil))).run ?_
              first | exact hJh6 | (simp only [if_pos h6] at hJh6; exact hJh6) | (simp only [eq_true h6, not_true_eq_false, true_and, and_true, false_and, and_false, true_or, or_true, false_or, or_false, not_true_eq_false, not_false_eq_true] at hJh6; exact hJh6) | exact Run.eq (by simp [eq_true h6, not_true_eq_false, bI]) (by simp [eq_true h6, not_true_eq_false, bI]) rfl hJh6
      · refine (go_aload_n 0 eX11_next_77 rfl rfl).run ?_
        refine (go_iconst (v := 1) eX11_next_78 rfl).run ?_
        refine (go_puti flX11_134 rf_10_13 rfl pf_10_13 rfl rfl kd_88 eX11_next_79).run ?_
        refine (go_aload_n 0 eX11_next_82 rfl rfl).run ?_
        refine (go_iconst (v := 0) eX11_next_83 rfl).run ?_
        refine (go_puti flX11_141 rf_10_14 rfl pf_10_14 rfl rfl kd_88 eX11_next_84).run ?_
        refine (go_sub (L' := [some (.ref 88), none]) (lsub_keep (lsub_drop lsub_nil))).run ?_
        exact (k2 h1 h2 h3)
    · refine (go_aload_n 0 eX11_next_55 rfl rfl).run ?_
      refine (go_iconst (v := 0) eX11_next_56 rfl).run ?_
      refine (go_puti flX11_134 rf_10_13 rfl pf_10_13 rfl rfl kd_88 eX11_next_57).run ?_
      refine (go_goto 238 eX11_next_60 rfl).run ?_
      exact Run.ret (v := none) (k3 h1 h2) ⟨rfl, eX11_next_238⟩ rfl
  · refine (go_aload_n 0 eX11_next_21 rfl rfl).run ?_
    refine (go_dup eX11_next_22 rfl).run ?_
    refine (go_geti flX11_127 rf_10_11 kd_88 eX11_next_23).run ?_
    refine (go_iconst (v := 1) eX11_next_26 rfl).run ?_
    refine (go_iadd eX11_next_27).run ?_
    refine (go_puti flX11_127 rf_10_11 rfl pf_10_11 rfl rfl kd_88 eX11_next_28).run ?_
    refine (go_goto 8 eX11_next_31 rfl).run ?_
    exact (k4 h1)

set_option maxRecDepth 20000 in
theorem bX11_next_87 {d : Nat} {Q : Option Value → St → Prop} (σ : St) 
    (g1 : (σ.1 88 11) < (σ.1 88 10) → vp_in (σ.1 88 11) 240)
    (k1 : (¬ ((48 : Int64) ≤ (((rX11_look (σ.1 88 11) σ)).toInt64) ∧ (((rX11_look (σ.1 88 11) σ)).toInt64) ≤ (57 : Int64))) → Q (none) (sX11_wants (bI (((σ.1 88 11) - (σ.1 88 12)) ≤ 2)) (1 : Int32) σ))
    (k2 : ((48 : Int64) ≤ (((rX11_look (σ.1 88 11) σ)).toInt64) ∧ (((rX11_look (σ.1 88 11) σ)).toInt64) ≤ (57 : Int64)) → Run MX11_next (d + 1) 87 [some (.ref 88), none] [] (sA (sA σ 88 (upd (σ.1 88) 14 (if (2 : Int32) ≤ ((σ.1 88 11) - (σ.1 88 12)) then (σ.1 88 14) else ((((10 : Int32) * (σ.1 88 14)) + ((rX11_look (σ.1 88 11) σ))) - 48)))) 88 (upd (upd (σ.1 88) 14 (if (2 : Int32) ≤ ((σ.1 88 11) - (σ.1 88 12)) then (σ.1 88 14) else ((((10 : Int32) * (σ.1 88 14)) + ((rX11_look (σ.1 88 11) σ))) - 48))) 11 ((σ.1 88 11) + 1))) Q)
    : Run MX11_next (d + 1) 87 [some (.ref 88), none] [] σ Q := by
  refine (go_aload_n 0 eX11_next_87 rfl rfl).run ?_
  refine (go_aload_n 0 eX11_next_88 rfl rfl).run ?_
  refine (go_geti flX11_127 rf_10_11 kd_88 eX11_next_89).run ?_
  refine Run.callV1 (d := d) (As := [.int (σ.1 88 11)]) (r := .int ((rX11_look (σ.1 88 11) σ))) mX11_look lkX11_130 kd_88 (by decide) rfl rfl rfl rfl rfl (Nat.le_of_ble_eq_true rfl) eX11_next_92 (qX11_look d (σ.1 88 11) σ  g1) ?_
  refine (go_i2l eX11_next_95).run ?_
  refine (go_ldc2 csX11_137 eX11_next_96).run ?_
  refine (go_ldc2 csX11_139 eX11_next_99).run ?_
  refine Run.callS1 (d := d) (As := [.long (((rX11_look (σ.1 88 11) σ)).toInt64), .long (48), .long (57)]) (r := .int (bI ((48 : Int64) ≤ (((rX11_look (σ.1 88 11) σ)).toInt64) ∧ (((rX11_look (σ.1 88 11) σ)).toInt64) ≤ (57 : Int64)))) mX11_in lkX11_109 rfl rfl rfl (Nat.le_of_ble_eq_true rfl) eX11_next_102 (qX11_in d (((rX11_look (σ.1 88 11) σ)).toInt64) (48 : Int64) (57 : Int64) σ  ) ?_
  refine (br_ifeq_b 164 eX11_next_105 rfl).run (fun h1 => ?_) (fun h1 => ?_)
  · refine (go_aload_n 0 eX11_next_164 rfl rfl).run ?_
    refine (go_aload_n 0 eX11_next_165 rfl rfl).run ?_
    refine (go_geti flX11_127 rf_10_11 kd_88 eX11_next_166).run ?_
    refine (go_aload_n 0 eX11_next_169 rfl rfl).run ?_
    refine (go_geti flX11_121 rf_10_12 kd_88 eX11_next_170).run ?_
    refine (go_isub eX11_next_173).run ?_
    refine (go_iconst (v := 2) eX11_next_174 rfl).run ?_
    have hJh2 : Run MX11_next (d + 1) 183 [none, none] [.int (bI (((σ.1 88 11) - (σ.1 88 12)) ≤ 2)), .ref 88] σ Q := by
      refine (go_iconst (v := 1) eX11_next_183 rfl).run ?_
      refine Run.callV0 (d := d) (As := [.int (bI (((σ.1 88 11) - (σ.1 88 12)) ≤ 2)), .int 1]) mX11_wants lkX11_144 kd_88 (by decide) rfl rfl rfl rfl rfl (Nat.le_of_ble_eq_true rfl) eX11_next_184 (qX11_wants d (bI (((σ.1 88 11) - (σ.1 88 12)) ≤ 2)) (1 : Int32) σ  ) ?_
      refine (go_goto 238 eX11_next_187 rfl).run ?_
      exact Run.ret (v := none) (k1 h1) ⟨rfl, eX11_next_238⟩ rfl
    refine (bi_gt 182 eX11_next_175 rfl).run (fun h2 => ?_) (fun h2 => ?_)
    · refine (go_iconst (v := 0) eX11_next_182 rfl).run ?_
      refine (go_sub (L' := [none, none]) (lsub_drop (lsub_keep lsub_nil))).run ?_
      first | exact hJh2 | (simp only [if_pos h2] at hJh2; exact hJh2) | (simp only [eq_true h2, eq_false (i32_nle.mpr h2), true_and, and_true, false_and, and_false, true_or, or_true, false_or, or_false, not_true_eq_false, not_false_eq_true] at hJh2; exact hJh2) | exact Run.eq (by simp [eq_true h2, eq_false (i32_nle.mpr h2), bI]) (by simp [eq_true h2, eq_false (i32_nle.mpr h2), bI]) rfl hJh2
    · refine (go_iconst (v := 1) eX11_next_178 rfl).run ?_
      refine (go_goto 183 eX11_next_179 rfl).run ?_
      refine (go_sub (L' := [none, none]) (lsub_drop (lsub_keep lsub_nil))).run ?_
      first | exact hJh2 | (simp only [if_neg (i32_nlt.mpr h2)] at hJh2; exact hJh2) | (simp only [eq_true h2, eq_false (i32_nlt.mpr h2), true_and, and_true, false_and, and_false, true_or, or_true, false_or, or_false, not_true_eq_false, not_false_eq_true] at hJh2; exact hJh2) | exact Run.eq (by simp [eq_true h2, eq_false (i32_nlt.mpr h2), bI]) (by simp [eq_true h2, eq_false (i32_nlt.mpr h2), bI]) rfl hJh2
  · refine (go_aload_n 0 eX11_next_108 rfl rfl).run ?_
    refine (go_aload_n 0 eX11_next_109 rfl rfl).run ?_
    refine (go_geti flX11_127 rf_10_11 kd_88 eX11_next_110).run ?_
    refine (go_aload_n 0 eX11_next_113 rfl rfl).run ?_
    refine (go_geti flX11_121 rf_10_12 kd_88 eX11_next_114).run ?_
    refine (go_isub eX11_next_117).run ?_
    refine (go_iconst (v := 2) eX11_next_118 rfl).run ?_
    have hJh3 : Run MX11_next (d + 1) 148 [some (.ref 88), none] [.int (if (2 : Int32) ≤ ((σ.1 88 11) - (σ.1 88 12)) then (σ.1 88 14) else ((((10 : Int32) * (σ.1 88 14)) + ((rX11_look (σ.1 88 11) σ))) - 48)), .ref 88] σ Q := by
      refine (go_puti flX11_141 rf_10_14 rfl pf_10_14 rfl rfl kd_88 eX11_next_148).run ?_
      refine (go_aload_n 0 eX11_next_151 rfl rfl).run ?_
      refine (go_dup eX11_next_152 rfl).run ?_
      refine (go_geti flX11_127 rf_10_11 kd_88 eX11_next_153).run ?_
      refine (go_iconst (v := 1) eX11_next_156 rfl).run ?_
      refine (go_iadd eX11_next_157).run ?_
      refine (go_puti flX11_127 rf_10_11 rfl pf_10_11 rfl rfl kd_88 eX11_next_158).run ?_
      refine (go_goto 87 eX11_next_161 rfl).run ?_
      exact (k2 h1)
    refine (bi_ge 144 eX11_next_119 rfl).run (fun h3 => ?_) (fun h3 => ?_)
    · refine (go_aload_n 0 eX11_next_144 rfl rfl).run ?_
      refine (go_geti flX11_141 rf_10_14 kd_88 eX11_next_145).run ?_
      first | exact hJh3 | (simp only [if_pos h3] at hJh3; exact hJh3) | (simp only [eq_true h3, eq_false (i32_nlt.mpr h3), true_and, and_true, false_and, and_false, true_or, or_true, false_or, or_false, not_true_eq_false, not_false_eq_true] at hJh3; exact hJh3) | exact Run.eq (by simp [eq_true h3, eq_false (i32_nlt.mpr h3), bI]) (by simp [eq_true h3, eq_false (i32_nlt.mpr h3), bI]) rfl hJh3
    · refine (go_bipush (v := 10) eX11_next_122 rfl).run ?_
      refine (go_aload_n 0 eX11_next_124 rfl rfl).run ?_
      refine (go_geti flX11_141 rf_10_14 kd_88 eX11_next_125).run ?_
      refine (go_imul eX11_next_128).run ?_
      refine (go_aload_n 0 eX11_next_129 rfl rfl).run ?_
      refine (go_aload_n 0 eX11_next_130 rfl rfl).run ?_
      refine (go_geti flX11_127 rf_10_11 kd_88 eX11_next_131).run ?_
      refine Run.callV1 (d := d) (As := [.int (σ.1 88 11)]) (r := .int ((rX11_look (σ.1 88 11) σ))) mX11_look lkX11_130 kd_88 (by decide) rfl rfl rfl rfl rfl (Nat.le_of_ble_eq_true rfl) eX11_next_134 (qX11_look d (σ.1 88 11) σ  g1) ?_
      refine (go_iadd eX11_next_137).run ?_
      refine (go_bipush (v := 48) eX11_next_138 rfl).run ?_
      refine (go_isub eX11_next_140).run ?_
      refine (go_goto 148 eX11_next_141 rfl).run ?_
      first | exact hJh3 | (simp only [if_neg (i32_nle.mpr h3)] at hJh3; exact hJh3) | (simp only [eq_true h3, eq_false (i32_nle.mpr h3), true_and, and_true, false_and, and_false, true_or, or_true, false_or, or_false, not_true_eq_false, not_false_eq_true] at hJh3; exact hJh3) | exact Run.eq (by simp [eq_true h3, eq_false (i32_nle.mpr h3), bI]) (by simp [eq_true h3, eq_false (i32_nle.mpr h3), bI]) rfl hJh3

/-! CarryNetsModel.isSign -/
theorem eX11_isSign_0 : decode MX11_isSign.2.1 0 = .ok (.aload_n 0, 1) := by decide +kernel
theorem eX11_isSign_1 : decode MX11_isSign.2.1 1 = .ok (.getfield 134, 3) := by decide +kernel
theorem eX11_isSign_4 : decode MX11_isSign.2.1 4 = .ok (.iconst 2, 1) := by decide +kernel
theorem eX11_isSign_5 : decode MX11_isSign.2.1 5 = .ok (.if_icmp .ne 15, 3) := by decide +kernel
theorem eX11_isSign_8 : decode MX11_isSign.2.1 8 = .ok (.aload_n 0, 1) := by decide +kernel
theorem eX11_isSign_9 : decode MX11_isSign.2.1 9 = .ok (.getfield 141, 3) := by decide +kernel
theorem eX11_isSign_12 : decode MX11_isSign.2.1 12 = .ok (.iload_n 1, 1) := by decide +kernel
theorem eX11_isSign_13 : decode MX11_isSign.2.1 13 = .ok (.if_icmp .ne 7, 3) := by decide +kernel
theorem eX11_isSign_16 : decode MX11_isSign.2.1 16 = .ok (.iconst 1, 1) := by decide +kernel
theorem eX11_isSign_17 : decode MX11_isSign.2.1 17 = .ok (.goto 4, 3) := by decide +kernel
theorem eX11_isSign_20 : decode MX11_isSign.2.1 20 = .ok (.iconst 0, 1) := by decide +kernel
theorem eX11_isSign_21 : decode MX11_isSign.2.1 21 = .ok (.ireturn, 1) := by decide +kernel
set_option maxRecDepth 20000 in
theorem bX11_isSign_0 {d : Nat} {Q : Option Value → St → Prop} (x1 : Int32) (σ : St) 
    (k1 : Q (some (.int (bI ((σ.1 88 13) = 2 ∧ (σ.1 88 14) = x1)))) σ)
    : Run MX11_isSign d 0 [some (.ref 88), some (.int x1)] [] σ Q := by
  refine (go_aload_n 0 eX11_isSign_0 rfl rfl).run ?_
  refine (go_geti flX11_134 rf_10_13 kd_88 eX11_isSign_1).run ?_
  refine (go_iconst (v := 2) eX11_isSign_4 rfl).run ?_
  have hJh1 : Run MX11_isSign d 21 [none, none] [.int (bI ((σ.1 88 13) = 2 ∧ (σ.1 88 14) = x1))] σ Q := by
    exact Run.ret (v := some (.int (bI ((σ.1 88 13) = 2 ∧ (σ.1 88 14) = x1)))) k1 ⟨Or.inr ⟨rfl, bI_01⟩, eX11_isSign_21⟩ rfl
  refine (bi_ne 20 eX11_isSign_5 rfl).run (fun h1 => ?_) (fun h1 => ?_)
  · refine (go_iconst (v := 0) eX11_isSign_20 rfl).run ?_
    refine (go_sub (L' := [none, none]) (lsub_drop (lsub_drop lsub_nil))).run ?_
    first | exact hJh1 | (simp only [if_neg (h1)] at hJh1; exact hJh1) | (simp only [eq_false h1, not_false_eq_true, true_and, and_true, false_and, and_false, true_or, or_true, false_or, or_false, not_true_eq_false, not_false_eq_true] at hJh1; exact hJh1) | exact Run.eq (by simp [eq_false h1, not_false_eq_true, bI]) (by simp [eq_false h1, not_false_eq_true, bI]) rfl hJh1
  · refine (go_aload_n 0 eX11_isSign_8 rfl rfl).run ?_
    refine (go_geti flX11_141 rf_10_14 kd_88 eX11_isSign_9).run ?_
    refine (go_iload_n 1 eX11_isSign_12 rfl rfl).run ?_
    have hJh2 : Run MX11_isSign d 21 [none, none] [.int (bI ((σ.1 88 14) = x1))] σ Q := by
      first | exact hJh1 | (simp only [if_pos h1] at hJh1; exact hJh1) | (simp only [eq_true h1, not_true_eq_false, true_and, and_true, false_and, and_false, true_or, or_true, false_or, or_false, not_true_eq_false, not_false_eq_true] at hJh1; exact hJh1) | exact Run.eq (by simp [eq_true h1, not_true_eq_false, bI]) (by simp [eq_true h1, not_true_eq_false, bI]) rfl hJh1
    refine (bi_ne 20 eX11_isSign_13 rfl).run (fun h2 => ?_) (fun h2 => ?_)
    · refine (go_iconst (v := 0) eX11_isSign_20 rfl).run ?_
      refine (go_sub (L' := [none, none]) (lsub_drop (lsub_drop lsub_nil))).run ?_
      first | exact hJh2 | (simp only [if_neg (h2)] at hJh2; exact hJh2) | (simp only [eq_false h2, not_false_eq_true, true_and, and_true, false_and, and_false, true_or, or_true, false_or, or_false, not_true_eq_false, not_false_eq_true] at hJh2; exact hJh2) | exact Run.eq (by simp [eq_false h2, not_false_eq_true, bI]) (by simp [eq_false h2, not_false_eq_true, bI]) rfl hJh2
    · refine (go_iconst (v := 1) eX11_isSign_16 rfl).run ?_
      refine (go_goto 21 eX11_isSign_17 rfl).run ?_
      refine (go_sub (L' := [none, none]) (lsub_drop (lsub_drop lsub_nil))).run ?_
      first | exact hJh2 | (simp only [if_pos h2] at hJh2; exact hJh2) | (simp only [eq_true h2, not_true_eq_false, true_and, and_true, false_and, and_false, true_or, or_true, false_or, or_false, not_true_eq_false, not_false_eq_true] at hJh2; exact hJh2) | exact Run.eq (by simp [eq_true h2, not_true_eq_false, bI]) (by simp [eq_true h2, not_true_eq_false, bI]) rfl hJh2

theorem qX11_isSign (d : Nat) (x1 : Int32) (σ : St) : Ct yX11_isSign MX11_isSign d [.ref 88, .int x1] σ (fun v σ1 => v = some (.int (bI ((σ.1 88 13) = 2 ∧ (σ.1 88 14) = x1))) ∧ σ1 = σ) :=
  Ct.of mX11_isSign.1 (Nat.le_of_ble_eq_true rfl) (bX11_isSign_0 x1 σ   (⟨by first | rfl | (simp only [bI, true_and, and_true, false_and, and_false, true_or, or_true, false_or, or_false, not_true_eq_false, not_false_eq_true, if_true, if_false]; done) | (simp [bI]; done), by first | rfl | (simp only [bI, true_and, and_true, false_and, and_false, true_or, or_true, false_or, or_false, not_true_eq_false, not_false_eq_true, if_true, if_false]; done) | (simp [bI]; done)⟩))


/-! CarryNetsModel.readRow -/
theorem eX11_readRow_0 : decode MX11_readRow.2.1 0 = .ok (.lconst 0, 1) := by decide +kernel
theorem eX11_readRow_1 : decode MX11_readRow.2.1 1 = .ok (.lstore_n 3, 1) := by decide +kernel
theorem eX11_readRow_2 : decode MX11_readRow.2.1 2 = .ok (.iconst 1, 1) := by decide +kernel
theorem eX11_readRow_3 : decode MX11_readRow.2.1 3 = .ok (.istore 5, 2) := by decide +kernel
theorem eX11_readRow_5 : decode MX11_readRow.2.1 5 = .ok (.aload_n 0, 1) := by decide +kernel
theorem eX11_readRow_6 : decode MX11_readRow.2.1 6 = .ok (.aload_n 0, 1) := by decide +kernel
theorem eX11_readRow_7 : decode MX11_readRow.2.1 7 = .ok (.getfield 134, 3) := by decide +kernel
theorem eX11_readRow_10 : decode MX11_readRow.2.1 10 = .ok (.iconst 1, 1) := by decide +kernel
theorem eX11_readRow_11 : decode MX11_readRow.2.1 11 = .ok (.if_icmp .ne 7, 3) := by decide +kernel
theorem eX11_readRow_14 : decode MX11_readRow.2.1 14 = .ok (.iconst 1, 1) := by decide +kernel
theorem eX11_readRow_15 : decode MX11_readRow.2.1 15 = .ok (.goto 4, 3) := by decide +kernel
theorem eX11_readRow_18 : decode MX11_readRow.2.1 18 = .ok (.iconst 0, 1) := by decide +kernel
theorem eX11_readRow_19 : decode MX11_readRow.2.1 19 = .ok (.iconst 2, 1) := by decide +kernel
theorem eX11_readRow_20 : decode MX11_readRow.2.1 20 = .ok (.invokevirtual 144, 3) := by decide +kernel
theorem eX11_readRow_23 : decode MX11_readRow.2.1 23 = .ok (.aload_n 0, 1) := by decide +kernel
theorem eX11_readRow_24 : decode MX11_readRow.2.1 24 = .ok (.iload_n 2, 1) := by decide +kernel
theorem eX11_readRow_25 : decode MX11_readRow.2.1 25 = .ok (.bipush 32, 2) := by decide +kernel
theorem eX11_readRow_27 : decode MX11_readRow.2.1 27 = .ok (.if_icmp .ge 7, 3) := by decide +kernel
theorem eX11_readRow_30 : decode MX11_readRow.2.1 30 = .ok (.iconst 1, 1) := by decide +kernel
theorem eX11_readRow_31 : decode MX11_readRow.2.1 31 = .ok (.goto 4, 3) := by decide +kernel
theorem eX11_readRow_34 : decode MX11_readRow.2.1 34 = .ok (.iconst 0, 1) := by decide +kernel
theorem eX11_readRow_35 : decode MX11_readRow.2.1 35 = .ok (.iconst 5, 1) := by decide +kernel
theorem eX11_readRow_36 : decode MX11_readRow.2.1 36 = .ok (.invokevirtual 144, 3) := by decide +kernel
theorem eX11_readRow_39 : decode MX11_readRow.2.1 39 = .ok (.iload 5, 2) := by decide +kernel
theorem eX11_readRow_41 : decode MX11_readRow.2.1 41 = .ok (.ifCond .eq 139, 3) := by decide +kernel
theorem eX11_readRow_44 : decode MX11_readRow.2.1 44 = .ok (.aload_n 0, 1) := by decide +kernel
theorem eX11_readRow_45 : decode MX11_readRow.2.1 45 = .ok (.getfield 118, 3) := by decide +kernel
theorem eX11_readRow_48 : decode MX11_readRow.2.1 48 = .ok (.ifCond .ne 132, 3) := by decide +kernel
theorem eX11_readRow_51 : decode MX11_readRow.2.1 51 = .ok (.aload_n 0, 1) := by decide +kernel
theorem eX11_readRow_52 : decode MX11_readRow.2.1 52 = .ok (.aload_n 0, 1) := by decide +kernel
theorem eX11_readRow_53 : decode MX11_readRow.2.1 53 = .ok (.getfield 134, 3) := by decide +kernel
theorem eX11_readRow_56 : decode MX11_readRow.2.1 56 = .ok (.iconst 1, 1) := by decide +kernel
theorem eX11_readRow_57 : decode MX11_readRow.2.1 57 = .ok (.if_icmp .ne 7, 3) := by decide +kernel
theorem eX11_readRow_60 : decode MX11_readRow.2.1 60 = .ok (.iconst 1, 1) := by decide +kernel
theorem eX11_readRow_61 : decode MX11_readRow.2.1 61 = .ok (.goto 4, 3) := by decide +kernel
theorem eX11_readRow_64 : decode MX11_readRow.2.1 64 = .ok (.iconst 0, 1) := by decide +kernel
theorem eX11_readRow_65 : decode MX11_readRow.2.1 65 = .ok (.iconst 2, 1) := by decide +kernel
theorem eX11_readRow_66 : decode MX11_readRow.2.1 66 = .ok (.invokevirtual 144, 3) := by decide +kernel
theorem eX11_readRow_69 : decode MX11_readRow.2.1 69 = .ok (.aload_n 0, 1) := by decide +kernel
theorem eX11_readRow_70 : decode MX11_readRow.2.1 70 = .ok (.getfield 118, 3) := by decide +kernel
theorem eX11_readRow_73 : decode MX11_readRow.2.1 73 = .ok (.ifCond .ne 21, 3) := by decide +kernel
theorem eX11_readRow_76 : decode MX11_readRow.2.1 76 = .ok (.aload_n 0, 1) := by decide +kernel
theorem eX11_readRow_77 : decode MX11_readRow.2.1 77 = .ok (.aload_n 0, 1) := by decide +kernel
theorem eX11_readRow_78 : decode MX11_readRow.2.1 78 = .ok (.getfield 141, 3) := by decide +kernel
theorem eX11_readRow_81 : decode MX11_readRow.2.1 81 = .ok (.iload_n 1, 1) := by decide +kernel
theorem eX11_readRow_82 : decode MX11_readRow.2.1 82 = .ok (.if_icmp .ge 7, 3) := by decide +kernel
theorem eX11_readRow_85 : decode MX11_readRow.2.1 85 = .ok (.iconst 1, 1) := by decide +kernel
theorem eX11_readRow_86 : decode MX11_readRow.2.1 86 = .ok (.goto 4, 3) := by decide +kernel
theorem eX11_readRow_89 : decode MX11_readRow.2.1 89 = .ok (.iconst 0, 1) := by decide +kernel
theorem eX11_readRow_90 : decode MX11_readRow.2.1 90 = .ok (.iconst 3, 1) := by decide +kernel
theorem eX11_readRow_91 : decode MX11_readRow.2.1 91 = .ok (.invokevirtual 144, 3) := by decide +kernel
theorem eX11_readRow_94 : decode MX11_readRow.2.1 94 = .ok (.aload_n 0, 1) := by decide +kernel
theorem eX11_readRow_95 : decode MX11_readRow.2.1 95 = .ok (.getfield 118, 3) := by decide +kernel
theorem eX11_readRow_98 : decode MX11_readRow.2.1 98 = .ok (.ifCond .ne 38, 3) := by decide +kernel
theorem eX11_readRow_101 : decode MX11_readRow.2.1 101 = .ok (.aload_n 0, 1) := by decide +kernel
theorem eX11_readRow_102 : decode MX11_readRow.2.1 102 = .ok (.lload_n 3, 1) := by decide +kernel
theorem eX11_readRow_103 : decode MX11_readRow.2.1 103 = .ok (.aload_n 0, 1) := by decide +kernel
theorem eX11_readRow_104 : decode MX11_readRow.2.1 104 = .ok (.getfield 141, 3) := by decide +kernel
theorem eX11_readRow_107 : decode MX11_readRow.2.1 107 = .ok (.lshr, 1) := by decide +kernel
theorem eX11_readRow_108 : decode MX11_readRow.2.1 108 = .ok (.lconst 1, 1) := by decide +kernel
theorem eX11_readRow_109 : decode MX11_readRow.2.1 109 = .ok (.land, 1) := by decide +kernel
theorem eX11_readRow_110 : decode MX11_readRow.2.1 110 = .ok (.lconst 0, 1) := by decide +kernel
theorem eX11_readRow_111 : decode MX11_readRow.2.1 111 = .ok (.lcmp, 1) := by decide +kernel
theorem eX11_readRow_112 : decode MX11_readRow.2.1 112 = .ok (.ifCond .ne 19, 3) := by decide +kernel
theorem eX11_readRow_115 : decode MX11_readRow.2.1 115 = .ok (.aload_n 0, 1) := by decide +kernel
theorem eX11_readRow_116 : decode MX11_readRow.2.1 116 = .ok (.getfield 30, 3) := by decide +kernel
theorem eX11_readRow_119 : decode MX11_readRow.2.1 119 = .ok (.aload_n 0, 1) := by decide +kernel
theorem eX11_readRow_120 : decode MX11_readRow.2.1 120 = .ok (.getfield 141, 3) := by decide +kernel
theorem eX11_readRow_123 : decode MX11_readRow.2.1 123 = .ok (.iaload, 1) := by decide +kernel
theorem eX11_readRow_124 : decode MX11_readRow.2.1 124 = .ok (.ifCond .le 7, 3) := by decide +kernel
theorem eX11_readRow_127 : decode MX11_readRow.2.1 127 = .ok (.iconst 1, 1) := by decide +kernel
theorem eX11_readRow_128 : decode MX11_readRow.2.1 128 = .ok (.goto 4, 3) := by decide +kernel
theorem eX11_readRow_131 : decode MX11_readRow.2.1 131 = .ok (.iconst 0, 1) := by decide +kernel
theorem eX11_readRow_132 : decode MX11_readRow.2.1 132 = .ok (.iconst 4, 1) := by decide +kernel
theorem eX11_readRow_133 : decode MX11_readRow.2.1 133 = .ok (.invokevirtual 144, 3) := by decide +kernel
theorem eX11_readRow_136 : decode MX11_readRow.2.1 136 = .ok (.lload_n 3, 1) := by decide +kernel
theorem eX11_readRow_137 : decode MX11_readRow.2.1 137 = .ok (.aload_n 0, 1) := by decide +kernel
theorem eX11_readRow_138 : decode MX11_readRow.2.1 138 = .ok (.getfield 118, 3) := by decide +kernel
theorem eX11_readRow_141 : decode MX11_readRow.2.1 141 = .ok (.ifCond .ne 12, 3) := by decide +kernel
theorem eX11_readRow_144 : decode MX11_readRow.2.1 144 = .ok (.lconst 1, 1) := by decide +kernel
theorem eX11_readRow_145 : decode MX11_readRow.2.1 145 = .ok (.aload_n 0, 1) := by decide +kernel
theorem eX11_readRow_146 : decode MX11_readRow.2.1 146 = .ok (.getfield 141, 3) := by decide +kernel
theorem eX11_readRow_149 : decode MX11_readRow.2.1 149 = .ok (.lshl, 1) := by decide +kernel
theorem eX11_readRow_150 : decode MX11_readRow.2.1 150 = .ok (.goto 4, 3) := by decide +kernel
theorem eX11_readRow_153 : decode MX11_readRow.2.1 153 = .ok (.lconst 0, 1) := by decide +kernel
theorem eX11_readRow_154 : decode MX11_readRow.2.1 154 = .ok (.lor, 1) := by decide +kernel
theorem eX11_readRow_155 : decode MX11_readRow.2.1 155 = .ok (.lstore_n 3, 1) := by decide +kernel
theorem eX11_readRow_156 : decode MX11_readRow.2.1 156 = .ok (.aload_n 0, 1) := by decide +kernel
theorem eX11_readRow_157 : decode MX11_readRow.2.1 157 = .ok (.invokevirtual 148, 3) := by decide +kernel
theorem eX11_readRow_160 : decode MX11_readRow.2.1 160 = .ok (.aload_n 0, 1) := by decide +kernel
theorem eX11_readRow_161 : decode MX11_readRow.2.1 161 = .ok (.bipush 44, 2) := by decide +kernel
theorem eX11_readRow_163 : decode MX11_readRow.2.1 163 = .ok (.invokevirtual 151, 3) := by decide +kernel
theorem eX11_readRow_166 : decode MX11_readRow.2.1 166 = .ok (.istore 5, 2) := by decide +kernel
theorem eX11_readRow_168 : decode MX11_readRow.2.1 168 = .ok (.iload 5, 2) := by decide +kernel
theorem eX11_readRow_170 : decode MX11_readRow.2.1 170 = .ok (.ifCond .eq (-131), 3) := by decide +kernel
theorem eX11_readRow_173 : decode MX11_readRow.2.1 173 = .ok (.aload_n 0, 1) := by decide +kernel
theorem eX11_readRow_174 : decode MX11_readRow.2.1 174 = .ok (.invokevirtual 148, 3) := by decide +kernel
theorem eX11_readRow_177 : decode MX11_readRow.2.1 177 = .ok (.goto (-138), 3) := by decide +kernel
theorem eX11_readRow_180 : decode MX11_readRow.2.1 180 = .ok (.aload_n 0, 1) := by decide +kernel
theorem eX11_readRow_181 : decode MX11_readRow.2.1 181 = .ok (.getfield 118, 3) := by decide +kernel
theorem eX11_readRow_184 : decode MX11_readRow.2.1 184 = .ok (.ifCond .ne 14, 3) := by decide +kernel
theorem eX11_readRow_187 : decode MX11_readRow.2.1 187 = .ok (.aload_n 0, 1) := by decide +kernel
theorem eX11_readRow_188 : decode MX11_readRow.2.1 188 = .ok (.aload_n 0, 1) := by decide +kernel
theorem eX11_readRow_189 : decode MX11_readRow.2.1 189 = .ok (.bipush 59, 2) := by decide +kernel
theorem eX11_readRow_191 : decode MX11_readRow.2.1 191 = .ok (.invokevirtual 151, 3) := by decide +kernel
theorem eX11_readRow_194 : decode MX11_readRow.2.1 194 = .ok (.iconst 2, 1) := by decide +kernel
theorem eX11_readRow_195 : decode MX11_readRow.2.1 195 = .ok (.invokevirtual 144, 3) := by decide +kernel
theorem eX11_readRow_198 : decode MX11_readRow.2.1 198 = .ok (.aload_n 0, 1) := by decide +kernel
theorem eX11_readRow_199 : decode MX11_readRow.2.1 199 = .ok (.invokevirtual 148, 3) := by decide +kernel
theorem eX11_readRow_202 : decode MX11_readRow.2.1 202 = .ok (.lload_n 3, 1) := by decide +kernel
theorem eX11_readRow_203 : decode MX11_readRow.2.1 203 = .ok (.lreturn, 1) := by decide +kernel
set_option maxRecDepth 20000 in
theorem bX11_readRow_0 {d : Nat} {Q : Option Value → St → Prop} (x1 : Int32) (x2 : Int32) (σ : St) 
    (k1 : Ct yX11_wants MX11_wants (d + 1) [.ref 88, .int (bI ((σ.1 88 13) = 1)), .int 2] σ (fun v σ1 => Run MX11_readRow (d + 2) 23 [some (.ref 88), some (.int x1), some (.int x2), some (.long 0), none, some (.int 1)] (v.toList ++ []) σ1 Q))
    : Run MX11_readRow (d + 2) 0 [some (.ref 88), some (.int x1), some (.int x2), none, none, none] [] σ Q := by
  refine (go_lconst (v := 0) eX11_readRow_0 rfl).run ?_
  refine (go_lstore_n 3 (L' := [some (.ref 88), some (.int x1), some (.int x2), some (.long 0), none, none]) eX11_readRow_1 rfl (Nat.le_of_ble_eq_true rfl) rfl).run ?_
  refine (go_iconst (v := 1) eX11_readRow_2 rfl).run ?_
  refine (go_istore 5 (L' := [some (.ref 88), some (.int x1), some (.int x2), some (.long 0), none, some (.int 1)]) eX11_readRow_3 (Nat.le_of_ble_eq_true rfl) rfl).run ?_
  refine (go_aload_n 0 eX11_readRow_5 rfl rfl).run ?_
  refine (go_aload_n 0 eX11_readRow_6 rfl rfl).run ?_
  refine (go_geti flX11_134 rf_10_13 kd_88 eX11_readRow_7).run ?_
  refine (go_iconst (v := 1) eX11_readRow_10 rfl).run ?_
  have hJh1 : Run MX11_readRow (d + 2) 19 [some (.ref 88), some (.int x1), some (.int x2), some (.long 0), none, some (.int 1)] [.int (bI ((σ.1 88 13) = 1)), .ref 88] σ Q := by
    refine (go_iconst (v := 2) eX11_readRow_19 rfl).run ?_
    exact Run.callV (d := (d + 1)) (As := [.int (bI ((σ.1 88 13) = 1)), .int 2]) mX11_wants lkX11_144 kd_88 (by decide) rfl rfl rfl rfl rfl (Nat.le_of_ble_eq_true rfl) eX11_readRow_20 k1
  refine (bi_ne 18 eX11_readRow_11 rfl).run (fun h1 => ?_) (fun h1 => ?_)
  · refine (go_iconst (v := 0) eX11_readRow_18 rfl).run ?_
    first | exact hJh1 | (simp only [if_neg (h1)] at hJh1; exact hJh1) | (simp only [eq_false h1, not_false_eq_true, true_and, and_true, false_and, and_false, true_or, or_true, false_or, or_false, not_true_eq_false, not_false_eq_true] at hJh1; exact hJh1) | exact Run.eq (by simp [eq_false h1, not_false_eq_true, bI]) (by simp [eq_false h1, not_false_eq_true, bI]) rfl hJh1
  · refine (go_iconst (v := 1) eX11_readRow_14 rfl).run ?_
    refine (go_goto 19 eX11_readRow_15 rfl).run ?_
    first | exact hJh1 | (simp only [if_pos h1] at hJh1; exact hJh1) | (simp only [eq_true h1, not_true_eq_false, true_and, and_true, false_and, and_false, true_or, or_true, false_or, or_false, not_true_eq_false, not_false_eq_true] at hJh1; exact hJh1) | exact Run.eq (by simp [eq_true h1, not_true_eq_false, bI]) (by simp [eq_true h1, not_true_eq_false, bI]) rfl hJh1

set_option maxRecDepth 20000 in
theorem bX11_readRow_23 {d : Nat} {Q : Option Value → St → Prop} (x1 : Int32) (x2 : Int32) (x3 : Int64) (x5 : Int32) (σ : St) 
    (k1 : Ct yX11_wants MX11_wants (d + 1) [.ref 88, .int (bI (x2 < 32)), .int 5] σ (fun v σ1 => Run MX11_readRow (d + 2) 39 [some (.ref 88), some (.int x1), none, some (.long x3), none, some (.int x5)] (v.toList ++ []) σ1 Q))
    : Run MX11_readRow (d + 2) 23 [some (.ref 88), some (.int x1), some (.int x2), some (.long x3), none, some (.int x5)] [] σ Q := by
  refine (go_aload_n 0 eX11_readRow_23 rfl rfl).run ?_
  refine (go_iload_n 2 eX11_readRow_24 rfl rfl).run ?_
  refine (go_bipush (v := 32) eX11_readRow_25 rfl).run ?_
  have hJh1 : Run MX11_readRow (d + 2) 35 [some (.ref 88), some (.int x1), none, some (.long x3), none, some (.int x5)] [.int (bI (x2 < 32)), .ref 88] σ Q := by
    refine (go_iconst (v := 5) eX11_readRow_35 rfl).run ?_
    exact Run.callV (d := (d + 1)) (As := [.int (bI (x2 < 32)), .int 5]) mX11_wants lkX11_144 kd_88 (by decide) rfl rfl rfl rfl rfl (Nat.le_of_ble_eq_true rfl) eX11_readRow_36 k1
  refine (bi_ge 34 eX11_readRow_27 rfl).run (fun h1 => ?_) (fun h1 => ?_)
  · refine (go_iconst (v := 0) eX11_readRow_34 rfl).run ?_
    refine (go_sub (L' := [some (.ref 88), some (.int x1), none, some (.long x3), none, some (.int x5)]) (lsub_keep (lsub_keep (lsub_drop (lsub_keep (lsub_keep (lsub_keep lsub_nil))))))).run ?_
    first | exact hJh1 | (simp only [if_pos h1] at hJh1; exact hJh1) | (simp only [eq_true h1, eq_false (i32_nlt.mpr h1), true_and, and_true, false_and, and_false, true_or, or_true, false_or, or_false, not_true_eq_false, not_false_eq_true] at hJh1; exact hJh1) | exact Run.eq (by simp [eq_true h1, eq_false (i32_nlt.mpr h1), bI]) (by simp [eq_true h1, eq_false (i32_nlt.mpr h1), bI]) rfl hJh1
  · refine (go_iconst (v := 1) eX11_readRow_30 rfl).run ?_
    refine (go_goto 35 eX11_readRow_31 rfl).run ?_
    refine (go_sub (L' := [some (.ref 88), some (.int x1), none, some (.long x3), none, some (.int x5)]) (lsub_keep (lsub_keep (lsub_drop (lsub_keep (lsub_keep (lsub_keep lsub_nil))))))).run ?_
    first | exact hJh1 | (simp only [if_neg (i32_nle.mpr h1)] at hJh1; exact hJh1) | (simp only [eq_true h1, eq_false (i32_nle.mpr h1), true_and, and_true, false_and, and_false, true_or, or_true, false_or, or_false, not_true_eq_false, not_false_eq_true] at hJh1; exact hJh1) | exact Run.eq (by simp [eq_true h1, eq_false (i32_nle.mpr h1), bI]) (by simp [eq_true h1, eq_false (i32_nle.mpr h1), bI]) rfl hJh1

set_option maxRecDepth 20000 in
theorem bX11_readRow_39 {d : Nat} {Q : Option Value → St → Prop} (x1 : Int32) (x3 : Int64) (x5 : Int32) (σ : St) 
    (k1 : x5 = 0 → ¬ (σ.1 88 15) = 0 → Ct yX11_next MX11_next (d + 1) [.ref 88] σ (fun v σ1 => Run MX11_readRow (d + 2) 202 [none, none, none, some (.long x3), none, none] (v.toList ++ []) σ1 Q))
    (k2 : x5 = 0 → (σ.1 88 15) = 0 → Ct yX11_wants MX11_wants (d + 1) [.ref 88, .int (bI ((σ.1 88 13) = 2 ∧ (σ.1 88 14) = (59 : Int32))), .int 2] σ (fun v σ1 => Run MX11_readRow (d + 2) 198 [some (.ref 88), none, none, some (.long x3), none, none] (v.toList ++ []) σ1 Q))
    (k3 : ¬ x5 = 0 → ¬ (σ.1 88 15) = 0 → ¬ (σ.1 88 15) = 0 → Ct yX11_next MX11_next (d + 1) [.ref 88] σ (fun v σ1 => Run MX11_readRow (d + 2) 202 [none, none, none, some (.long x3), none, none] (v.toList ++ []) σ1 Q))
    (k4 : ¬ x5 = 0 → ¬ (σ.1 88 15) = 0 → (σ.1 88 15) = 0 → Ct yX11_wants MX11_wants (d + 1) [.ref 88, .int (bI ((σ.1 88 13) = 2 ∧ (σ.1 88 14) = (59 : Int32))), .int 2] σ (fun v σ1 => Run MX11_readRow (d + 2) 198 [some (.ref 88), none, none, some (.long x3), none, none] (v.toList ++ []) σ1 Q))
    (k5 : ¬ x5 = 0 → (σ.1 88 15) = 0 → Ct yX11_wants MX11_wants (d + 1) [.ref 88, .int (bI ((σ.1 88 13) = 1)), .int 2] σ (fun v σ1 => Run MX11_readRow (d + 2) 69 [some (.ref 88), some (.int x1), none, some (.long x3), none, none] (v.toList ++ []) σ1 Q))
    : Run MX11_readRow (d + 2) 39 [some (.ref 88), some (.int x1), none, some (.long x3), none, some (.int x5)] [] σ Q := by
  refine (go_iload 5 eX11_readRow_39 rfl).run ?_
  refine (bz_eq 180 eX11_readRow_41 rfl).run (fun h1 => ?_) (fun h1 => ?_)
  · refine (go_aload_n 0 eX11_readRow_180 rfl rfl).run ?_
    refine (go_geti flX11_118 rf_10_15 kd_88 eX11_readRow_181).run ?_
    refine (bz_ne 198 eX11_readRow_184 rfl).run (fun h2 => ?_) (fun h2 => ?_)
    · refine (go_aload_n 0 eX11_readRow_198 rfl rfl).run ?_
      refine (go_sub (L' := [none, none, none, some (.long x3), none, none]) (lsub_drop (lsub_drop (lsub_keep (lsub_keep (lsub_keep (lsub_drop lsub_nil))))))).run ?_
      exact Run.callV (d := (d + 1)) (As := []) mX11_next lkX11_148 kd_88 (by decide) rfl rfl rfl rfl rfl (Nat.le_of_ble_eq_true rfl) eX11_readRow_199 (k1 h1 h2)
    · refine (go_aload_n 0 eX11_readRow_187 rfl rfl).run ?_
      refine (go_aload_n 0 eX11_readRow_188 rfl rfl).run ?_
      refine (go_bipush (v := 59) eX11_readRow_189 rfl).run ?_
      refine Run.callV1 (d := (d + 1)) (As := [.int 59]) (r := .int (bI ((σ.1 88 13) = 2 ∧ (σ.1 88 14) = (59 : Int32)))) mX11_isSign lkX11_151 kd_88 (by decide) rfl rfl rfl rfl rfl (Nat.le_of_ble_eq_true rfl) eX11_readRow_191 (qX11_isSign (d + 1) (59 : Int32) σ  ) ?_
      refine (go_iconst (v := 2) eX11_readRow_194 rfl).run ?_
      refine (go_sub (L' := [some (.ref 88), none, none, some (.long x3), none, none]) (lsub_keep (lsub_drop (lsub_keep (lsub_keep (lsub_keep (lsub_drop lsub_nil))))))).run ?_
      exact Run.callV (d := (d + 1)) (As := [.int (bI ((σ.1 88 13) = 2 ∧ (σ.1 88 14) = (59 : Int32))), .int 2]) mX11_wants lkX11_144 kd_88 (by decide) rfl rfl rfl rfl rfl (Nat.le_of_ble_eq_true rfl) eX11_readRow_195 (k2 h1 h2)
  · refine (go_aload_n 0 eX11_readRow_44 rfl rfl).run ?_
    refine (go_geti flX11_118 rf_10_15 kd_88 eX11_readRow_45).run ?_
    refine (bz_ne 180 eX11_readRow_48 rfl).run (fun h3 => ?_) (fun h3 => ?_)
    · refine (go_aload_n 0 eX11_readRow_180 rfl rfl).run ?_
      refine (go_geti flX11_118 rf_10_15 kd_88 eX11_readRow_181).run ?_
      refine (bz_ne 198 eX11_readRow_184 rfl).run (fun h4 => ?_) (fun h4 => ?_)
      · refine (go_aload_n 0 eX11_readRow_198 rfl rfl).run ?_
        refine (go_sub (L' := [none, none, none, some (.long x3), none, none]) (lsub_drop (lsub_drop (lsub_keep (lsub_keep (lsub_keep (lsub_drop lsub_nil))))))).run ?_
        exact Run.callV (d := (d + 1)) (As := []) mX11_next lkX11_148 kd_88 (by decide) rfl rfl rfl rfl rfl (Nat.le_of_ble_eq_true rfl) eX11_readRow_199 (k3 h1 h3 h4)
      · refine (go_aload_n 0 eX11_readRow_187 rfl rfl).run ?_
        refine (go_aload_n 0 eX11_readRow_188 rfl rfl).run ?_
        refine (go_bipush (v := 59) eX11_readRow_189 rfl).run ?_
        refine Run.callV1 (d := (d + 1)) (As := [.int 59]) (r := .int (bI ((σ.1 88 13) = 2 ∧ (σ.1 88 14) = (59 : Int32)))) mX11_isSign lkX11_151 kd_88 (by decide) rfl rfl rfl rfl rfl (Nat.le_of_ble_eq_true rfl) eX11_readRow_191 (qX11_isSign (d + 1) (59 : Int32) σ  ) ?_
        refine (go_iconst (v := 2) eX11_readRow_194 rfl).run ?_
        refine (go_sub (L' := [some (.ref 88), none, none, some (.long x3), none, none]) (lsub_keep (lsub_drop (lsub_keep (lsub_keep (lsub_keep (lsub_drop lsub_nil))))))).run ?_
        exact Run.callV (d := (d + 1)) (As := [.int (bI ((σ.1 88 13) = 2 ∧ (σ.1 88 14) = (59 : Int32))), .int 2]) mX11_wants lkX11_144 kd_88 (by decide) rfl rfl rfl rfl rfl (Nat.le_of_ble_eq_true rfl) eX11_readRow_195 (k4 h1 h3 h4)
    · refine (go_aload_n 0 eX11_readRow_51 rfl rfl).run ?_
      refine (go_aload_n 0 eX11_readRow_52 rfl rfl).run ?_
      refine (go_geti flX11_134 rf_10_13 kd_88 eX11_readRow_53).run ?_
      refine (go_iconst (v := 1) eX11_readRow_56 rfl).run ?_
      have hJh5 : Run MX11_readRow (d + 2) 65 [some (.ref 88), some (.int x1), none, some (.long x3), none, none] [.int (bI ((σ.1 88 13) = 1)), .ref 88] σ Q := by
        refine (go_iconst (v := 2) eX11_readRow_65 rfl).run ?_
        exact Run.callV (d := (d + 1)) (As := [.int (bI ((σ.1 88 13) = 1)), .int 2]) mX11_wants lkX11_144 kd_88 (by decide) rfl rfl rfl rfl rfl (Nat.le_of_ble_eq_true rfl) eX11_readRow_66 (k5 h1 h3)
      refine (bi_ne 64 eX11_readRow_57 rfl).run (fun h5 => ?_) (fun h5 => ?_)
      · refine (go_iconst (v := 0) eX11_readRow_64 rfl).run ?_
        refine (go_sub (L' := [some (.ref 88), some (.int x1), none, some (.long x3), none, none]) (lsub_keep (lsub_keep (lsub_keep (lsub_keep (lsub_keep (lsub_drop lsub_nil))))))).run ?_
        first | exact hJh5 | (simp only [if_neg (h5)] at hJh5; exact hJh5) | (simp only [eq_false h5, not_false_eq_true, true_and, and_true, false_and, and_false, true_or, or_true, false_or, or_false, not_true_eq_false, not_false_eq_true] at hJh5; exact hJh5) | exact Run.eq (by simp [eq_false h5, not_false_eq_true, bI]) (by simp [eq_false h5, not_false_eq_true, bI]) rfl hJh5
      · refine (go_iconst (v := 1) eX11_readRow_60 rfl).run ?_
        refine (go_goto 65 eX11_readRow_61 rfl).run ?_
        refine (go_sub (L' := [some (.ref 88), some (.int x1), none, some (.long x3), none, none]) (lsub_keep (lsub_keep (lsub_keep (lsub_keep (lsub_keep (lsub_drop lsub_nil))))))).run ?_
        first | exact hJh5 | (simp only [if_pos h5] at hJh5; exact hJh5) | (simp only [eq_true h5, not_true_eq_false, true_and, and_true, false_and, and_false, true_or, or_true, false_or, or_false, not_true_eq_false, not_false_eq_true] at hJh5; exact hJh5) | exact Run.eq (by simp [eq_true h5, not_true_eq_false, bI]) (by simp [eq_true h5, not_true_eq_false, bI]) rfl hJh5

set_option maxRecDepth 20000 in
theorem bX11_readRow_202 {d : Nat} {Q : Option Value → St → Prop} (x3 : Int64) (σ : St) 
    (k1 : Q (some (.long x3)) σ)
    : Run MX11_readRow (d + 2) 202 [none, none, none, some (.long x3), none, none] [] σ Q := by
  refine (go_lload_n 3 eX11_readRow_202 rfl rfl).run ?_
  exact Run.ret (v := some (.long x3)) k1 ⟨rfl, eX11_readRow_203⟩ rfl

set_option maxRecDepth 20000 in
theorem bX11_readRow_198 {d : Nat} {Q : Option Value → St → Prop} (x3 : Int64) (σ : St) 
    (k1 : Ct yX11_next MX11_next (d + 1) [.ref 88] σ (fun v σ1 => Run MX11_readRow (d + 2) 202 [none, none, none, some (.long x3), none, none] (v.toList ++ []) σ1 Q))
    : Run MX11_readRow (d + 2) 198 [some (.ref 88), none, none, some (.long x3), none, none] [] σ Q := by
  refine (go_aload_n 0 eX11_readRow_198 rfl rfl).run ?_
  refine (go_sub (L' := [none, none, none, some (.long x3), none, none]) (lsub_drop (lsub_keep (lsub_keep (lsub_keep (lsub_keep (lsub_keep lsub_nil))))))).run ?_
  exact Run.callV (d := (d + 1)) (As := []) mX11_next lkX11_148 kd_88 (by decide) rfl rfl rfl rfl rfl (Nat.le_of_ble_eq_true rfl) eX11_readRow_199 k1

set_option maxRecDepth 20000 in
theorem bX11_readRow_69 {d : Nat} {Q : Option Value → St → Prop} (x1 : Int32) (x3 : Int64) (σ : St) 
    (g1 : ¬ (σ.1 88 15) = 0 → (σ.1 88 15) = 0 → ((x3 >>> ((σ.1 88 14).toInt64 &&& 63)) &&& 1) = 0 → vp_in (σ.1 88 14) 32)
    (k1 : ¬ (σ.1 88 15) = 0 → ¬ (σ.1 88 15) = 0 → Ct yX11_next MX11_next (d + 1) [.ref 88] σ (fun v σ1 => Run MX11_readRow (d + 2) 160 [some (.ref 88), some (.int x1), none, some (.long (x3 ||| (if (σ.1 88 15) = 0 then ((1 : Int64) <<< ((σ.1 88 14).toInt64 &&& 63)) else 0))), none, none] (v.toList ++ []) σ1 Q))
    (k2 : ¬ (σ.1 88 15) = 0 → (σ.1 88 15) = 0 → Ct yX11_wants MX11_wants (d + 1) [.ref 88, .int (bI (((x3 >>> ((σ.1 88 14).toInt64 &&& 63)) &&& 1) = 0 ∧ (0 : Int32) < (σ.1 93 (σ.1 88 14).toNatClampNeg))), .int 4] σ (fun v σ1 => Run MX11_readRow (d + 2) 136 [some (.ref 88), some (.int x1), none, some (.long x3), none, none] (v.toList ++ []) σ1 Q))
    (k3 : (σ.1 88 15) = 0 → Ct yX11_wants MX11_wants (d + 1) [.ref 88, .int (bI ((σ.1 88 14) < x1)), .int 3] σ (fun v σ1 => Run MX11_readRow (d + 2) 94 [some (.ref 88), some (.int x1), none, some (.long x3), none, none] (v.toList ++ []) σ1 Q))
    : Run MX11_readRow (d + 2) 69 [some (.ref 88), some (.int x1), none, some (.long x3), none, none] [] σ Q := by
  refine (go_aload_n 0 eX11_readRow_69 rfl rfl).run ?_
  refine (go_geti flX11_118 rf_10_15 kd_88 eX11_readRow_70).run ?_
  refine (bz_ne 94 eX11_readRow_73 rfl).run (fun h1 => ?_) (fun h1 => ?_)
  · refine (go_aload_n 0 eX11_readRow_94 rfl rfl).run ?_
    refine (go_geti flX11_118 rf_10_15 kd_88 eX11_readRow_95).run ?_
    refine (bz_ne 136 eX11_readRow_98 rfl).run (fun h2 => ?_) (fun h2 => ?_)
    · refine (go_lload_n 3 eX11_readRow_136 rfl rfl).run ?_
      refine (go_aload_n 0 eX11_readRow_137 rfl rfl).run ?_
      refine (go_geti flX11_118 rf_10_15 kd_88 eX11_readRow_138).run ?_
      have hJh3 : Run MX11_readRow (d + 2) 154 [some (.ref 88), some (.int x1), none, none, none, none] [.long (if (σ.1 88 15) = 0 then ((1 : Int64) <<< ((σ.1 88 14).toInt64 &&& 63)) else 0), .long x3] σ Q := by
        refine (go_lor eX11_readRow_154).run ?_
        refine (go_lstore_n 3 (L' := [some (.ref 88), some (.int x1), none, some (.long (x3 ||| (if (σ.1 88 15) = 0 then ((1 : Int64) <<< ((σ.1 88 14).toInt64 &&& 63)) else 0))), none, none]) eX11_readRow_155 rfl (Nat.le_of_ble_eq_true rfl) rfl).run ?_
        refine (go_aload_n 0 eX11_readRow_156 rfl rfl).run ?_
        exact Run.callV (d := (d + 1)) (As := []) mX11_next lkX11_148 kd_88 (by decide) rfl rfl rfl rfl rfl (Nat.le_of_ble_eq_true rfl) eX11_readRow_157 (k1 h1 h2)
      refine (bz_ne 153 eX11_readRow_141 rfl).run (fun h3 => ?_) (fun h3 => ?_)
      · refine (go_lconst (v := 0) eX11_readRow_153 rfl).run ?_
        refine (go_sub (L' := [some (.ref 88), some (.int x1), none, none, none, none]) (lsub_keep (lsub_keep (lsub_keep (lsub_drop (lsub_keep (lsub_keep lsub_nil))))))).run ?_
        first | exact hJh3 | (simp only [if_neg (h3)] at hJh3; exact hJh3) | (simp only [eq_false h3, not_false_eq_true, true_and, and_true, false_and, and_false, true_or, or_true, false_or, or_false, not_true_eq_false, not_false_eq_true] at hJh3; exact hJh3) | exact Run.eq (by simp [eq_false h3, not_false_eq_true, bI]) (by simp [eq_false h3, not_false_eq_true, bI]) rfl hJh3
      · refine (go_lconst (v := 1) eX11_readRow_144 rfl).run ?_
        refine (go_aload_n 0 eX11_readRow_145 rfl rfl).run ?_
        refine (go_geti flX11_141 rf_10_14 kd_88 eX11_readRow_146).run ?_
        refine (go_lshl eX11_readRow_149).run ?_
        refine (go_goto 154 eX11_readRow_150 rfl).run ?_
        refine (go_sub (L' := [some (.ref 88), some (.int x1), none, none, none, none]) (lsub_keep (lsub_keep (lsub_keep (lsub_drop (lsub_keep (lsub_keep lsub_nil))))))).run ?_
        first | exact hJh3 | (simp only [if_pos h3] at hJh3; exact hJh3) | (simp only [eq_true h3, not_true_eq_false, true_and, and_true, false_and, and_false, true_or, or_true, false_or, or_false, not_true_eq_false, not_false_eq_true] at hJh3; exact hJh3) | exact Run.eq (by simp [eq_true h3, not_true_eq_false, bI]) (by simp [eq_true h3, not_true_eq_false, bI]) rfl hJh3
    · refine (go_aload_n 0 eX11_readRow_101 rfl rfl).run ?_
      refine (go_lload_n 3 eX11_readRow_102 rfl rfl).run ?_
      refine (go_aload_n 0 eX11_readRow_103 rfl rfl).run ?_
      refine (go_geti flX11_141 rf_10_14 kd_88 eX11_readRow_104).run ?_
      refine (go_lshr eX11_readRow_107).run ?_
      refine (go_lconst (v := 1) eX11_readRow_108 rfl).run ?_
      refine (go_land eX11_readRow_109).run ?_
      refine (go_lconst (v := 0) eX11_readRow_110 rfl).run ?_
      refine (go_lcmp eX11_readRow_111).run ?_
      have hJh4 : Run MX11_readRow (d + 2) 132 [some (.ref 88), some (.int x1), none, some (.long x3), none, none] [.int (bI (((x3 >>> ((σ.1 88 14).toInt64 &&& 63)) &&& 1) = 0 ∧ (0 : Int32) < (σ.1 93 (σ.1 88 14).toNatClampNeg))), .ref 88] σ Q := by
        refine (go_iconst (v := 4) eX11_readRow_132 rfl).run ?_
        exact Run.callV (d := (d + 1)) (As := [.int (bI (((x3 >>> ((σ.1 88 14).toInt64 &&& 63)) &&& 1) = 0 ∧ (0 : Int32) < (σ.1 93 (σ.1 88 14).toNatClampNeg))), .int 4]) mX11_wants lkX11_144 kd_88 (by decide) rfl rfl rfl rfl rfl (Nat.le_of_ble_eq_true rfl) eX11_readRow_133 (k2 h1 h2)
      refine (brl_ne 131 eX11_readRow_112 rfl).run (fun h4 => ?_) (fun h4 => ?_)
      · refine (go_iconst (v := 0) eX11_readRow_131 rfl).run ?_
        first | exact hJh4 | (simp only [if_neg (h4)] at hJh4; exact hJh4) | (simp only [eq_false h4, not_false_eq_true, true_and, and_true, false_and, and_false, true_or, or_true, false_or, or_false, not_true_eq_false, not_false_eq_true] at hJh4; exact hJh4) | exact Run.eq (by simp [eq_false h4, not_false_eq_true, bI]) (by simp [eq_false h4, not_false_eq_true, bI]) rfl hJh4
      · refine (go_aload_n 0 eX11_readRow_115 rfl rfl).run ?_
        refine (go_getr flX11_30 rf_10_7 kd_88 gr_88_7 eX11_readRow_116).run ?_
        refine (go_aload_n 0 eX11_readRow_119 rfl rfl).run ?_
        refine (go_geti flX11_141 rf_10_14 kd_88 eX11_readRow_120).run ?_
        refine (go_iald kd_93 ln_93 (g1 h1 h2 h4) eX11_readRow_123).run ?_
        have hJh5 : Run MX11_readRow (d + 2) 132 [some (.ref 88), some (.int x1), none, some (.long x3), none, none] [.int (bI ((0 : Int32) < (σ.1 93 (σ.1 88 14).toNatClampNeg))), .ref 88] σ Q := by
          first | exact hJh4 | (simp only [if_pos h4] at hJh4; exact hJh4) | (simp only [eq_true h4, not_true_eq_false, true_and, and_true, false_and, and_false, true_or, or_true, false_or, or_false, not_true_eq_false, not_false_eq_true] at hJh4; exact hJh4) | exact Run.eq (by simp [eq_true h4, not_true_eq_false, bI]) (by simp [eq_true h4, not_true_eq_false, bI]) rfl hJh4
        refine (bz_le 131 eX11_readRow_124 rfl).run (fun h5 => ?_) (fun h5 => ?_)
        · refine (go_iconst (v := 0) eX11_readRow_131 rfl).run ?_
          first | exact hJh5 | (simp only [if_pos h5] at hJh5; exact hJh5) | (simp only [eq_true h5, eq_false (i32_nlt.mpr h5), true_and, and_true, false_and, and_false, true_or, or_true, false_or, or_false, not_true_eq_false, not_false_eq_true] at hJh5; exact hJh5) | exact Run.eq (by simp [eq_true h5, eq_false (i32_nlt.mpr h5), bI]) (by simp [eq_true h5, eq_false (i32_nlt.mpr h5), bI]) rfl hJh5
        · refine (go_iconst (v := 1) eX11_readRow_127 rfl).run ?_
          refine (go_goto 132 eX11_readRow_128 rfl).run ?_
          first | exact hJh5 | (simp only [if_neg (i32_nle.mpr h5)] at hJh5; exact hJh5) | (simp only [eq_true h5, eq_false (i32_nle.mpr h5), true_and, and_true, false_and, and_false, true_or, or_true, false_or, or_false, not_true_eq_false, not_false_eq_true] at hJh5; exact hJh5) | exact Run.eq (by simp [eq_true h5, eq_false (i32_nle.mpr h5), bI]) (by simp [eq_true h5, eq_false (i32_nle.mpr h5), bI]) rfl hJh5
  · refine (go_aload_n 0 eX11_readRow_76 rfl rfl).run ?_
    refine (go_aload_n 0 eX11_readRow_77 rfl rfl).run ?_
    refine (go_geti flX11_141 rf_10_14 kd_88 eX11_readRow_78).run ?_
    refine (go_iload_n 1 eX11_readRow_81 rfl rfl).run ?_
    have hJh6 : Run MX11_readRow (d + 2) 90 [some (.ref 88), some (.int x1), none, some (.long x3), none, none] [.int (bI ((σ.1 88 14) < x1)), .ref 88] σ Q := by
      refine (go_iconst (v := 3) eX11_readRow_90 rfl).run ?_
      exact Run.callV (d := (d + 1)) (As := [.int (bI ((σ.1 88 14) < x1)), .int 3]) mX11_wants lkX11_144 kd_88 (by decide) rfl rfl rfl rfl rfl (Nat.le_of_ble_eq_true rfl) eX11_readRow_91 (k3 h1)
    refine (bi_ge 89 eX11_readRow_82 rfl).run (fun h6 => ?_) (fun h6 => ?_)
    · refine (go_iconst (v := 0) eX11_readRow_89 rfl).run ?_
      first | exact hJh6 | (simp only [if_pos h6] at hJh6; exact hJh6) | (simp only [eq_true h6, eq_false (i32_nlt.mpr h6), true_and, and_true, false_and, and_false, true_or, or_true, false_or, or_false, not_true_eq_false, not_false_eq_true] at hJh6; exact hJh6) | exact Run.eq (by simp [eq_true h6, eq_false (i32_nlt.mpr h6), bI]) (by simp [eq_true h6, eq_false (i32_nlt.mpr h6), bI]) rfl hJh6
    · refine (go_iconst (v := 1) eX11_readRow_85 rfl).run ?_
      refine (go_goto 90 eX11_readRow_86 rfl).run ?_
      first | exact hJh6 | (simp only [if_neg (i32_nle.mpr h6)] at hJh6; exact hJh6) | (simp only [eq_true h6, eq_false (i32_nle.mpr h6), true_and, and_true, false_and, and_false, true_or, or_true, false_or, or_false, not_true_eq_false, not_false_eq_true] at hJh6; exact hJh6) | exact Run.eq (by simp [eq_true h6, eq_false (i32_nle.mpr h6), bI]) (by simp [eq_true h6, eq_false (i32_nle.mpr h6), bI]) rfl hJh6

set_option maxRecDepth 20000 in
theorem bX11_readRow_160 {d : Nat} {Q : Option Value → St → Prop} (x1 : Int32) (x3 : Int64) (σ : St) 
    (k1 : (¬ ((σ.1 88 13) = 2 ∧ (σ.1 88 14) = (44 : Int32))) → Run MX11_readRow (d + 2) 39 [some (.ref 88), some (.int x1), none, some (.long x3), none, some (.int (bI ((σ.1 88 13) = 2 ∧ (σ.1 88 14) = (44 : Int32))))] [] σ Q)
    (k2 : ((σ.1 88 13) = 2 ∧ (σ.1 88 14) = (44 : Int32)) → Ct yX11_next MX11_next (d + 1) [.ref 88] σ (fun v σ1 => Run MX11_readRow (d + 2) 177 [some (.ref 88), some (.int x1), none, some (.long x3), none, some (.int (bI ((σ.1 88 13) = 2 ∧ (σ.1 88 14) = (44 : Int32))))] (v.toList ++ []) σ1 Q))
    : Run MX11_readRow (d + 2) 160 [some (.ref 88), some (.int x1), none, some (.long x3), none, none] [] σ Q := by
  refine (go_aload_n 0 eX11_readRow_160 rfl rfl).run ?_
  refine (go_bipush (v := 44) eX11_readRow_161 rfl).run ?_
  refine Run.callV1 (d := (d + 1)) (As := [.int 44]) (r := .int (bI ((σ.1 88 13) = 2 ∧ (σ.1 88 14) = (44 : Int32)))) mX11_isSign lkX11_151 kd_88 (by decide) rfl rfl rfl rfl rfl (Nat.le_of_ble_eq_true rfl) eX11_readRow_163 (qX11_isSign (d + 1) (44 : Int32) σ  ) ?_
  refine (go_istore 5 (L' := [some (.ref 88), some (.int x1), none, some (.long x3), none, some (.int (bI ((σ.1 88 13) = 2 ∧ (σ.1 88 14) = (44 : Int32))))]) eX11_readRow_166 (Nat.le_of_ble_eq_true rfl) rfl).run ?_
  refine (go_iload 5 eX11_readRow_168 rfl).run ?_
  refine (br_ifeq_b 39 eX11_readRow_170 rfl).run (fun h1 => ?_) (fun h1 => ?_)
  · exact (k1 h1)
  · refine (go_aload_n 0 eX11_readRow_173 rfl rfl).run ?_
    exact Run.callV (d := (d + 1)) (As := []) mX11_next lkX11_148 kd_88 (by decide) rfl rfl rfl rfl rfl (Nat.le_of_ble_eq_true rfl) eX11_readRow_174 (k2 h1)

set_option maxRecDepth 20000 in
theorem bX11_readRow_136 {d : Nat} {Q : Option Value → St → Prop} (x1 : Int32) (x3 : Int64) (σ : St) 
    (k1 : Ct yX11_next MX11_next (d + 1) [.ref 88] σ (fun v σ1 => Run MX11_readRow (d + 2) 160 [some (.ref 88), some (.int x1), none, some (.long (x3 ||| (if (σ.1 88 15) = 0 then ((1 : Int64) <<< ((σ.1 88 14).toInt64 &&& 63)) else 0))), none, none] (v.toList ++ []) σ1 Q))
    : Run MX11_readRow (d + 2) 136 [some (.ref 88), some (.int x1), none, some (.long x3), none, none] [] σ Q := by
  refine (go_lload_n 3 eX11_readRow_136 rfl rfl).run ?_
  refine (go_aload_n 0 eX11_readRow_137 rfl rfl).run ?_
  refine (go_geti flX11_118 rf_10_15 kd_88 eX11_readRow_138).run ?_
  have hJh1 : Run MX11_readRow (d + 2) 154 [some (.ref 88), some (.int x1), none, none, none, none] [.long (if (σ.1 88 15) = 0 then ((1 : Int64) <<< ((σ.1 88 14).toInt64 &&& 63)) else 0), .long x3] σ Q := by
    refine (go_lor eX11_readRow_154).run ?_
    refine (go_lstore_n 3 (L' := [some (.ref 88), some (.int x1), none, some (.long (x3 ||| (if (σ.1 88 15) = 0 then ((1 : Int64) <<< ((σ.1 88 14).toInt64 &&& 63)) else 0))), none, none]) eX11_readRow_155 rfl (Nat.le_of_ble_eq_true rfl) rfl).run ?_
    refine (go_aload_n 0 eX11_readRow_156 rfl rfl).run ?_
    exact Run.callV (d := (d + 1)) (As := []) mX11_next lkX11_148 kd_88 (by decide) rfl rfl rfl rfl rfl (Nat.le_of_ble_eq_true rfl) eX11_readRow_157 k1
  refine (bz_ne 153 eX11_readRow_141 rfl).run (fun h1 => ?_) (fun h1 => ?_)
  · refine (go_lconst (v := 0) eX11_readRow_153 rfl).run ?_
    refine (go_sub (L' := [some (.ref 88), some (.int x1), none, none, none, none]) (lsub_keep (lsub_keep (lsub_keep (lsub_drop (lsub_keep (lsub_keep lsub_nil))))))).run ?_
    first | exact hJh1 | (simp only [if_neg (h1)] at hJh1; exact hJh1) | (simp only [eq_false h1, not_false_eq_true, true_and, and_true, false_and, and_false, true_or, or_true, false_or, or_false, not_true_eq_false, not_false_eq_true] at hJh1; exact hJh1) | exact Run.eq (by simp [eq_false h1, not_false_eq_true, bI]) (by simp [eq_false h1, not_false_eq_true, bI]) rfl hJh1
  · refine (go_lconst (v := 1) eX11_readRow_144 rfl).run ?_
    refine (go_aload_n 0 eX11_readRow_145 rfl rfl).run ?_
    refine (go_geti flX11_141 rf_10_14 kd_88 eX11_readRow_146).run ?_
    refine (go_lshl eX11_readRow_149).run ?_
    refine (go_goto 154 eX11_readRow_150 rfl).run ?_
    refine (go_sub (L' := [some (.ref 88), some (.int x1), none, none, none, none]) (lsub_keep (lsub_keep (lsub_keep (lsub_drop (lsub_keep (lsub_keep lsub_nil))))))).run ?_
    first | exact hJh1 | (simp only [if_pos h1] at hJh1; exact hJh1) | (simp only [eq_true h1, not_true_eq_false, true_and, and_true, false_and, and_false, true_or, or_true, false_or, or_false, not_true_eq_false, not_false_eq_true] at hJh1; exact hJh1) | exact Run.eq (by simp [eq_true h1, not_true_eq_false, bI]) (by simp [eq_true h1, not_true_eq_false, bI]) rfl hJh1

set_option maxRecDepth 20000 in
theorem bX11_readRow_94 {d : Nat} {Q : Option Value → St → Prop} (x1 : Int32) (x3 : Int64) (σ : St) 
    (g1 : (σ.1 88 15) = 0 → ((x3 >>> ((σ.1 88 14).toInt64 &&& 63)) &&& 1) = 0 → vp_in (σ.1 88 14) 32)
    (k1 : ¬ (σ.1 88 15) = 0 → Ct yX11_next MX11_next (d + 1) [.ref 88] σ (fun v σ1 => Run MX11_readRow (d + 2) 160 [some (.ref 88), some (.int x1), none, some (.long (x3 ||| (if (σ.1 88 15) = 0 then ((1 : Int64) <<< ((σ.1 88 14).toInt64 &&& 63)) else 0))), none, none] (v.toList ++ []) σ1 Q))
    (k2 : (σ.1 88 15) = 0 → Ct yX11_wants MX11_wants (d + 1) [.ref 88, .int (bI (((x3 >>> ((σ.1 88 14).toInt64 &&& 63)) &&& 1) = 0 ∧ (0 : Int32) < (σ.1 93 (σ.1 88 14).toNatClampNeg))), .int 4] σ (fun v σ1 => Run MX11_readRow (d + 2) 136 [some (.ref 88), some (.int x1), none, some (.long x3), none, none] (v.toList ++ []) σ1 Q))
    : Run MX11_readRow (d + 2) 94 [some (.ref 88), some (.int x1), none, some (.long x3), none, none] [] σ Q := by
  refine (go_aload_n 0 eX11_readRow_94 rfl rfl).run ?_
  refine (go_geti flX11_118 rf_10_15 kd_88 eX11_readRow_95).run ?_
  refine (bz_ne 136 eX11_readRow_98 rfl).run (fun h1 => ?_) (fun h1 => ?_)
  · refine (go_lload_n 3 eX11_readRow_136 rfl rfl).run ?_
    refine (go_aload_n 0 eX11_readRow_137 rfl rfl).run ?_
    refine (go_geti flX11_118 rf_10_15 kd_88 eX11_readRow_138).run ?_
    have hJh2 : Run MX11_readRow (d + 2) 154 [some (.ref 88), some (.int x1), none, none, none, none] [.long (if (σ.1 88 15) = 0 then ((1 : Int64) <<< ((σ.1 88 14).toInt64 &&& 63)) else 0), .long x3] σ Q := by
      refine (go_lor eX11_readRow_154).run ?_
      refine (go_lstore_n 3 (L' := [some (.ref 88), some (.int x1), none, some (.long (x3 ||| (if (σ.1 88 15) = 0 then ((1 : Int64) <<< ((σ.1 88 14).toInt64 &&& 63)) else 0))), none, none]) eX11_readRow_155 rfl (Nat.le_of_ble_eq_true rfl) rfl).run ?_
      refine (go_aload_n 0 eX11_readRow_156 rfl rfl).run ?_
      exact Run.callV (d := (d + 1)) (As := []) mX11_next lkX11_148 kd_88 (by decide) rfl rfl rfl rfl rfl (Nat.le_of_ble_eq_true rfl) eX11_readRow_157 (k1 h1)
    refine (bz_ne 153 eX11_readRow_141 rfl).run (fun h2 => ?_) (fun h2 => ?_)
    · refine (go_lconst (v := 0) eX11_readRow_153 rfl).run ?_
      refine (go_sub (L' := [some (.ref 88), some (.int x1), none, none, none, none]) (lsub_keep (lsub_keep (lsub_keep (lsub_drop (lsub_keep (lsub_keep lsub_nil))))))).run ?_
      first | exact hJh2 | (simp only [if_neg (h2)] at hJh2; exact hJh2) | (simp only [eq_false h2, not_false_eq_true, true_and, and_true, false_and, and_false, true_or, or_true, false_or, or_false, not_true_eq_false, not_false_eq_true] at hJh2; exact hJh2) | exact Run.eq (by simp [eq_false h2, not_false_eq_true, bI]) (by simp [eq_false h2, not_false_eq_true, bI]) rfl hJh2
    · refine (go_lconst (v := 1) eX11_readRow_144 rfl).run ?_
      refine (go_aload_n 0 eX11_readRow_145 rfl rfl).run ?_
      refine (go_geti flX11_141 rf_10_14 kd_88 eX11_readRow_146).run ?_
      refine (go_lshl eX11_readRow_149).run ?_
      refine (go_goto 154 eX11_readRow_150 rfl).run ?_
      refine (go_sub (L' := [some (.ref 88), some (.int x1), none, none, none, none]) (lsub_keep (lsub_keep (lsub_keep (lsub_drop (lsub_keep (lsub_keep lsub_nil))))))).run ?_
      first | exact hJh2 | (simp only [if_pos h2] at hJh2; exact hJh2) | (simp only [eq_true h2, not_true_eq_false, true_and, and_true, false_and, and_false, true_or, or_true, false_or, or_false, not_true_eq_false, not_false_eq_true] at hJh2; exact hJh2) | exact Run.eq (by simp [eq_true h2, not_true_eq_false, bI]) (by simp [eq_true h2, not_true_eq_false, bI]) rfl hJh2
  · refine (go_aload_n 0 eX11_readRow_101 rfl rfl).run ?_
    refine (go_lload_n 3 eX11_readRow_102 rfl rfl).run ?_
    refine (go_aload_n 0 eX11_readRow_103 rfl rfl).run ?_
    refine (go_geti flX11_141 rf_10_14 kd_88 eX11_readRow_104).run ?_
    refine (go_lshr eX11_readRow_107).run ?_
    refine (go_lconst (v := 1) eX11_readRow_108 rfl).run ?_
    refine (go_land eX11_readRow_109).run ?_
    refine (go_lconst (v := 0) eX11_readRow_110 rfl).run ?_
    refine (go_lcmp eX11_readRow_111).run ?_
    have hJh3 : Run MX11_readRow (d + 2) 132 [some (.ref 88), some (.int x1), none, some (.long x3), none, none] [.int (bI (((x3 >>> ((σ.1 88 14).toInt64 &&& 63)) &&& 1) = 0 ∧ (0 : Int32) < (σ.1 93 (σ.1 88 14).toNatClampNeg))), .ref 88] σ Q := by
      refine (go_iconst (v := 4) eX11_readRow_132 rfl).run ?_
      exact Run.callV (d := (d + 1)) (As := [.int (bI (((x3 >>> ((σ.1 88 14).toInt64 &&& 63)) &&& 1) = 0 ∧ (0 : Int32) < (σ.1 93 (σ.1 88 14).toNatClampNeg))), .int 4]) mX11_wants lkX11_144 kd_88 (by decide) rfl rfl rfl rfl rfl (Nat.le_of_ble_eq_true rfl) eX11_readRow_133 (k2 h1)
    refine (brl_ne 131 eX11_readRow_112 rfl).run (fun h3 => ?_) (fun h3 => ?_)
    · refine (go_iconst (v := 0) eX11_readRow_131 rfl).run ?_
      first | exact hJh3 | (simp only [if_neg (h3)] at hJh3; exact hJh3) | (simp only [eq_false h3, not_false_eq_true, true_and, and_true, false_and, and_false, true_or, or_true, false_or, or_false, not_true_eq_false, not_false_eq_true] at hJh3; exact hJh3) | exact Run.eq (by simp [eq_false h3, not_false_eq_true, bI]) (by simp [eq_false h3, not_false_eq_true, bI]) rfl hJh3
    · refine (go_aload_n 0 eX11_readRow_115 rfl rfl).run ?_
      refine (go_getr flX11_30 rf_10_7 kd_88 gr_88_7 eX11_readRow_116).run ?_
      refine (go_aload_n 0 eX11_readRow_119 rfl rfl).run ?_
      refine (go_geti flX11_141 rf_10_14 kd_88 eX11_readRow_120).run ?_
      refine (go_iald kd_93 ln_93 (g1 h1 h3) eX11_readRow_123).run ?_
      have hJh4 : Run MX11_readRow (d + 2) 132 [some (.ref 88), some (.int x1), none, some (.long x3), none, none] [.int (bI ((0 : Int32) < (σ.1 93 (σ.1 88 14).toNatClampNeg))), .ref 88] σ Q := by
        first | exact hJh3 | (simp only [if_pos h3] at hJh3; exact hJh3) | (simp only [eq_true h3, not_true_eq_false, true_and, and_true, false_and, and_false, true_or, or_true, false_or, or_false, not_true_eq_false, not_false_eq_true] at hJh3; exact hJh3) | exact Run.eq (by simp [eq_true h3, not_true_eq_false, bI]) (by simp [eq_true h3, not_true_eq_false, bI]) rfl hJh3
      refine (bz_le 131 eX11_readRow_124 rfl).run (fun h4 => ?_) (fun h4 => ?_)
      · refine (go_iconst (v := 0) eX11_readRow_131 rfl).run ?_
        first | exact hJh4 | (simp only [if_pos h4] at hJh4; exact hJh4) | (simp only [eq_true h4, eq_false (i32_nlt.mpr h4), true_and, and_true, false_and, and_false, true_or, or_true, false_or, or_false, not_true_eq_false, not_false_eq_true] at hJh4; exact hJh4) | exact Run.eq (by simp [eq_true h4, eq_false (i32_nlt.mpr h4), bI]) (by simp [eq_true h4, eq_false (i32_nlt.mpr h4), bI]) rfl hJh4
      · refine (go_iconst (v := 1) eX11_readRow_127 rfl).run ?_
        refine (go_goto 132 eX11_readRow_128 rfl).run ?_
        first | exact hJh4 | (simp only [if_neg (i32_nle.mpr h4)] at hJh4; exact hJh4) | (simp only [eq_true h4, eq_false (i32_nle.mpr h4), true_and, and_true, false_and, and_false, true_or, or_true, false_or, or_false, not_true_eq_false, not_false_eq_true] at hJh4; exact hJh4) | exact Run.eq (by simp [eq_true h4, eq_false (i32_nle.mpr h4), bI]) (by simp [eq_true h4, eq_false (i32_nle.mpr h4), bI]) rfl hJh4

set_option maxRecDepth 20000 in
theorem bX11_readRow_177 {d : Nat} {Q : Option Value → St → Prop} (x1 : Int32) (x3 : Int64) (x5 : Int32) (σ : St) 
    (k1 : Run MX11_readRow (d + 2) 39 [some (.ref 88), some (.int x1), none, some (.long x3), none, some (.int x5)] [] σ Q)
    : Run MX11_readRow (d + 2) 177 [some (.ref 88), some (.int x1), none, some (.long x3), none, some (.int x5)] [] σ Q := by
  refine (go_goto 39 eX11_readRow_177 rfl).run ?_
  exact k1

/-! CarryNetsModel.text -/
theorem eX11_text_0 : decode MX11_text.2.1 0 = .ok (.aload_n 0, 1) := by decide +kernel
theorem eX11_text_1 : decode MX11_text.2.1 1 = .ok (.getfield 106, 3) := by decide +kernel
theorem eX11_text_4 : decode MX11_text.2.1 4 = .ok (.bipush 8, 2) := by decide +kernel
theorem eX11_text_6 : decode MX11_text.2.1 6 = .ok (.if_icmp .ne 6, 3) := by decide +kernel
theorem eX11_text_9 : decode MX11_text.2.1 9 = .ok (.bipush (-3), 2) := by decide +kernel
theorem eX11_text_11 : decode MX11_text.2.1 11 = .ok (.ireturn, 1) := by decide +kernel
theorem eX11_text_12 : decode MX11_text.2.1 12 = .ok (.aload_n 0, 1) := by decide +kernel
theorem eX11_text_13 : decode MX11_text.2.1 13 = .ok (.iconst 0, 1) := by decide +kernel
theorem eX11_text_14 : decode MX11_text.2.1 14 = .ok (.putfield 118, 3) := by decide +kernel
theorem eX11_text_17 : decode MX11_text.2.1 17 = .ok (.aload_n 0, 1) := by decide +kernel
theorem eX11_text_18 : decode MX11_text.2.1 18 = .ok (.iconst 0, 1) := by decide +kernel
theorem eX11_text_19 : decode MX11_text.2.1 19 = .ok (.putfield 127, 3) := by decide +kernel
theorem eX11_text_22 : decode MX11_text.2.1 22 = .ok (.aload_n 0, 1) := by decide +kernel
theorem eX11_text_23 : decode MX11_text.2.1 23 = .ok (.invokevirtual 91, 3) := by decide +kernel
theorem eX11_text_26 : decode MX11_text.2.1 26 = .ok (.aload_n 0, 1) := by decide +kernel
theorem eX11_text_27 : decode MX11_text.2.1 27 = .ok (.invokevirtual 148, 3) := by decide +kernel
theorem eX11_text_30 : decode MX11_text.2.1 30 = .ok (.aload_n 0, 1) := by decide +kernel
theorem eX11_text_31 : decode MX11_text.2.1 31 = .ok (.aload_n 0, 1) := by decide +kernel
theorem eX11_text_32 : decode MX11_text.2.1 32 = .ok (.getfield 134, 3) := by decide +kernel
theorem eX11_text_35 : decode MX11_text.2.1 35 = .ok (.iconst 1, 1) := by decide +kernel
theorem eX11_text_36 : decode MX11_text.2.1 36 = .ok (.if_icmp .ne 7, 3) := by decide +kernel
theorem eX11_text_39 : decode MX11_text.2.1 39 = .ok (.iconst 1, 1) := by decide +kernel
theorem eX11_text_40 : decode MX11_text.2.1 40 = .ok (.goto 4, 3) := by decide +kernel
theorem eX11_text_43 : decode MX11_text.2.1 43 = .ok (.iconst 0, 1) := by decide +kernel
theorem eX11_text_44 : decode MX11_text.2.1 44 = .ok (.iconst 2, 1) := by decide +kernel
theorem eX11_text_45 : decode MX11_text.2.1 45 = .ok (.invokevirtual 144, 3) := by decide +kernel
theorem eX11_text_48 : decode MX11_text.2.1 48 = .ok (.aload_n 0, 1) := by decide +kernel
theorem eX11_text_49 : decode MX11_text.2.1 49 = .ok (.getfield 118, 3) := by decide +kernel
theorem eX11_text_52 : decode MX11_text.2.1 52 = .ok (.ifCond .ne 22, 3) := by decide +kernel
theorem eX11_text_55 : decode MX11_text.2.1 55 = .ok (.aload_n 0, 1) := by decide +kernel
theorem eX11_text_56 : decode MX11_text.2.1 56 = .ok (.aload_n 0, 1) := by decide +kernel
theorem eX11_text_57 : decode MX11_text.2.1 57 = .ok (.getfield 141, 3) := by decide +kernel
theorem eX11_text_60 : decode MX11_text.2.1 60 = .ok (.i2l, 1) := by decide +kernel
theorem eX11_text_61 : decode MX11_text.2.1 61 = .ok (.ldc2_w 155, 3) := by decide +kernel
theorem eX11_text_64 : decode MX11_text.2.1 64 = .ok (.ldc2_w 157, 3) := by decide +kernel
theorem eX11_text_67 : decode MX11_text.2.1 67 = .ok (.invokestatic 109, 3) := by decide +kernel
theorem eX11_text_70 : decode MX11_text.2.1 70 = .ok (.iconst 3, 1) := by decide +kernel
theorem eX11_text_71 : decode MX11_text.2.1 71 = .ok (.invokevirtual 144, 3) := by decide +kernel
theorem eX11_text_74 : decode MX11_text.2.1 74 = .ok (.aload_n 0, 1) := by decide +kernel
theorem eX11_text_75 : decode MX11_text.2.1 75 = .ok (.getfield 141, 3) := by decide +kernel
theorem eX11_text_78 : decode MX11_text.2.1 78 = .ok (.istore_n 1, 1) := by decide +kernel
theorem eX11_text_79 : decode MX11_text.2.1 79 = .ok (.aload_n 0, 1) := by decide +kernel
theorem eX11_text_80 : decode MX11_text.2.1 80 = .ok (.invokevirtual 148, 3) := by decide +kernel
theorem eX11_text_83 : decode MX11_text.2.1 83 = .ok (.aload_n 0, 1) := by decide +kernel
theorem eX11_text_84 : decode MX11_text.2.1 84 = .ok (.getfield 118, 3) := by decide +kernel
theorem eX11_text_87 : decode MX11_text.2.1 87 = .ok (.ifCond .ne 14, 3) := by decide +kernel
theorem eX11_text_90 : decode MX11_text.2.1 90 = .ok (.aload_n 0, 1) := by decide +kernel
theorem eX11_text_91 : decode MX11_text.2.1 91 = .ok (.aload_n 0, 1) := by decide +kernel
theorem eX11_text_92 : decode MX11_text.2.1 92 = .ok (.bipush 58, 2) := by decide +kernel
theorem eX11_text_94 : decode MX11_text.2.1 94 = .ok (.invokevirtual 151, 3) := by decide +kernel
theorem eX11_text_97 : decode MX11_text.2.1 97 = .ok (.iconst 2, 1) := by decide +kernel
theorem eX11_text_98 : decode MX11_text.2.1 98 = .ok (.invokevirtual 144, 3) := by decide +kernel
theorem eX11_text_101 : decode MX11_text.2.1 101 = .ok (.aload_n 0, 1) := by decide +kernel
theorem eX11_text_102 : decode MX11_text.2.1 102 = .ok (.invokevirtual 148, 3) := by decide +kernel
theorem eX11_text_105 : decode MX11_text.2.1 105 = .ok (.iconst 0, 1) := by decide +kernel
theorem eX11_text_106 : decode MX11_text.2.1 106 = .ok (.istore_n 2, 1) := by decide +kernel
theorem eX11_text_107 : decode MX11_text.2.1 107 = .ok (.aload_n 0, 1) := by decide +kernel
theorem eX11_text_108 : decode MX11_text.2.1 108 = .ok (.getfield 118, 3) := by decide +kernel
theorem eX11_text_111 : decode MX11_text.2.1 111 = .ok (.ifCond .ne 50, 3) := by decide +kernel
theorem eX11_text_114 : decode MX11_text.2.1 114 = .ok (.aload_n 0, 1) := by decide +kernel
theorem eX11_text_115 : decode MX11_text.2.1 115 = .ok (.getfield 134, 3) := by decide +kernel
theorem eX11_text_118 : decode MX11_text.2.1 118 = .ok (.ifCond .eq 43, 3) := by decide +kernel
theorem eX11_text_121 : decode MX11_text.2.1 121 = .ok (.aload_n 0, 1) := by decide +kernel
theorem eX11_text_122 : decode MX11_text.2.1 122 = .ok (.iload_n 1, 1) := by decide +kernel
theorem eX11_text_123 : decode MX11_text.2.1 123 = .ok (.iload_n 2, 1) := by decide +kernel
theorem eX11_text_124 : decode MX11_text.2.1 124 = .ok (.invokevirtual 159, 3) := by decide +kernel
theorem eX11_text_127 : decode MX11_text.2.1 127 = .ok (.lstore_n 3, 1) := by decide +kernel
theorem eX11_text_128 : decode MX11_text.2.1 128 = .ok (.aload_n 0, 1) := by decide +kernel
theorem eX11_text_129 : decode MX11_text.2.1 129 = .ok (.getfield 118, 3) := by decide +kernel
theorem eX11_text_132 : decode MX11_text.2.1 132 = .ok (.ifCond .ne 26, 3) := by decide +kernel
theorem eX11_text_135 : decode MX11_text.2.1 135 = .ok (.aload_n 0, 1) := by decide +kernel
theorem eX11_text_136 : decode MX11_text.2.1 136 = .ok (.getfield 16, 3) := by decide +kernel
theorem eX11_text_139 : decode MX11_text.2.1 139 = .ok (.bipush 32, 2) := by decide +kernel
theorem eX11_text_141 : decode MX11_text.2.1 141 = .ok (.aload_n 0, 1) := by decide +kernel
theorem eX11_text_142 : decode MX11_text.2.1 142 = .ok (.getfield 106, 3) := by decide +kernel
theorem eX11_text_145 : decode MX11_text.2.1 145 = .ok (.imul, 1) := by decide +kernel
theorem eX11_text_146 : decode MX11_text.2.1 146 = .ok (.iload_n 2, 1) := by decide +kernel
theorem eX11_text_147 : decode MX11_text.2.1 147 = .ok (.iadd, 1) := by decide +kernel
theorem eX11_text_148 : decode MX11_text.2.1 148 = .ok (.lload_n 3, 1) := by decide +kernel
theorem eX11_text_149 : decode MX11_text.2.1 149 = .ok (.lastore, 1) := by decide +kernel
theorem eX11_text_150 : decode MX11_text.2.1 150 = .ok (.aload_n 0, 1) := by decide +kernel
theorem eX11_text_151 : decode MX11_text.2.1 151 = .ok (.lload_n 3, 1) := by decide +kernel
theorem eX11_text_152 : decode MX11_text.2.1 152 = .ok (.invokevirtual 98, 3) := by decide +kernel
theorem eX11_text_155 : decode MX11_text.2.1 155 = .ok (.iinc 2 1, 3) := by decide +kernel
theorem eX11_text_158 : decode MX11_text.2.1 158 = .ok (.goto (-51), 3) := by decide +kernel
theorem eX11_text_161 : decode MX11_text.2.1 161 = .ok (.aload_n 0, 1) := by decide +kernel
theorem eX11_text_162 : decode MX11_text.2.1 162 = .ok (.iconst 0, 1) := by decide +kernel
theorem eX11_text_163 : decode MX11_text.2.1 163 = .ok (.putfield 113, 3) := by decide +kernel
theorem eX11_text_166 : decode MX11_text.2.1 166 = .ok (.aload_n 0, 1) := by decide +kernel
theorem eX11_text_167 : decode MX11_text.2.1 167 = .ok (.getfield 118, 3) := by decide +kernel
theorem eX11_text_170 : decode MX11_text.2.1 170 = .ok (.ifCond .le 11, 3) := by decide +kernel
theorem eX11_text_173 : decode MX11_text.2.1 173 = .ok (.bipush (-10), 2) := by decide +kernel
theorem eX11_text_175 : decode MX11_text.2.1 175 = .ok (.aload_n 0, 1) := by decide +kernel
theorem eX11_text_176 : decode MX11_text.2.1 176 = .ok (.getfield 124, 3) := by decide +kernel
theorem eX11_text_179 : decode MX11_text.2.1 179 = .ok (.isub, 1) := by decide +kernel
theorem eX11_text_180 : decode MX11_text.2.1 180 = .ok (.ireturn, 1) := by decide +kernel
theorem eX11_text_181 : decode MX11_text.2.1 181 = .ok (.aload_n 0, 1) := by decide +kernel
theorem eX11_text_182 : decode MX11_text.2.1 182 = .ok (.getfield 7, 3) := by decide +kernel
theorem eX11_text_185 : decode MX11_text.2.1 185 = .ok (.aload_n 0, 1) := by decide +kernel
theorem eX11_text_186 : decode MX11_text.2.1 186 = .ok (.getfield 106, 3) := by decide +kernel
theorem eX11_text_189 : decode MX11_text.2.1 189 = .ok (.iload_n 1, 1) := by decide +kernel
theorem eX11_text_190 : decode MX11_text.2.1 190 = .ok (.iastore, 1) := by decide +kernel
theorem eX11_text_191 : decode MX11_text.2.1 191 = .ok (.aload_n 0, 1) := by decide +kernel
theorem eX11_text_192 : decode MX11_text.2.1 192 = .ok (.getfield 13, 3) := by decide +kernel
theorem eX11_text_195 : decode MX11_text.2.1 195 = .ok (.aload_n 0, 1) := by decide +kernel
theorem eX11_text_196 : decode MX11_text.2.1 196 = .ok (.getfield 106, 3) := by decide +kernel
theorem eX11_text_199 : decode MX11_text.2.1 199 = .ok (.iload_n 2, 1) := by decide +kernel
theorem eX11_text_200 : decode MX11_text.2.1 200 = .ok (.iastore, 1) := by decide +kernel
theorem eX11_text_201 : decode MX11_text.2.1 201 = .ok (.aload_n 0, 1) := by decide +kernel
theorem eX11_text_202 : decode MX11_text.2.1 202 = .ok (.dup, 1) := by decide +kernel
theorem eX11_text_203 : decode MX11_text.2.1 203 = .ok (.getfield 106, 3) := by decide +kernel
theorem eX11_text_206 : decode MX11_text.2.1 206 = .ok (.iconst 1, 1) := by decide +kernel
theorem eX11_text_207 : decode MX11_text.2.1 207 = .ok (.iadd, 1) := by decide +kernel
theorem eX11_text_208 : decode MX11_text.2.1 208 = .ok (.putfield 106, 3) := by decide +kernel
theorem eX11_text_211 : decode MX11_text.2.1 211 = .ok (.aload_n 0, 1) := by decide +kernel
theorem eX11_text_212 : decode MX11_text.2.1 212 = .ok (.getfield 106, 3) := by decide +kernel
theorem eX11_text_215 : decode MX11_text.2.1 215 = .ok (.iconst 1, 1) := by decide +kernel
theorem eX11_text_216 : decode MX11_text.2.1 216 = .ok (.isub, 1) := by decide +kernel
theorem eX11_text_217 : decode MX11_text.2.1 217 = .ok (.ireturn, 1) := by decide +kernel
set_option maxRecDepth 20000 in
theorem bX11_text_0 {d : Nat} {Q : Option Value → St → Prop} (σ : St) 
    (k1 : ¬ (σ.1 88 0) = 8 → Ct yX11_begins MX11_begins (d + 2) [.ref 88] (sA (sA σ 88 (upd (σ.1 88) 15 0)) 88 (upd (upd (σ.1 88) 15 0) 11 0)) (fun v σ1 => Run MX11_text (d + 3) 26 [some (.ref 88), none, none, none, none] (v.toList ++ []) σ1 Q))
    (k2 : (σ.1 88 0) = 8 → Q (some (.int (-3))) σ)
    : Run MX11_text (d + 3) 0 [some (.ref 88), none, none, none, none] [] σ Q := by
  refine (go_aload_n 0 eX11_text_0 rfl rfl).run ?_
  refine (go_geti flX11_106 rf_10_0 kd_88 eX11_text_1).run ?_
  refine (go_bipush (v := 8) eX11_text_4 rfl).run ?_
  refine (bi_ne 12 eX11_text_6 rfl).run (fun h1 => ?_) (fun h1 => ?_)
  · refine (go_aload_n 0 eX11_text_12 rfl rfl).run ?_
    refine (go_iconst (v := 0) eX11_text_13 rfl).run ?_
    refine (go_puti flX11_118 rf_10_15 rfl pf_10_15 rfl rfl kd_88 eX11_text_14).run ?_
    refine (go_aload_n 0 eX11_text_17 rfl rfl).run ?_
    refine (go_iconst (v := 0) eX11_text_18 rfl).run ?_
    refine (go_puti flX11_127 rf_10_11 rfl pf_10_11 rfl rfl kd_88 eX11_text_19).run ?_
    refine (go_aload_n 0 eX11_text_22 rfl rfl).run ?_
    exact Run.callV (d := (d + 2)) (As := []) mX11_begins lkX11_91 kd_88 (by decide) rfl rfl rfl rfl rfl (Nat.le_of_ble_eq_true rfl) eX11_text_23 (k1 h1)
  · refine (go_bipush (v := -3) eX11_text_9 rfl).run ?_
    exact Run.ret (v := some (.int (-3))) (k2 h1) ⟨Or.inl rfl, eX11_text_11⟩ rfl

set_option maxRecDepth 20000 in
theorem bX11_text_26 {d : Nat} {Q : Option Value → St → Prop} (σ : St) 
    (k1 : Ct yX11_next MX11_next (d + 2) [.ref 88] σ (fun v σ1 => Run MX11_text (d + 3) 30 [some (.ref 88), none, none, none, none] (v.toList ++ []) σ1 Q))
    : Run MX11_text (d + 3) 26 [some (.ref 88), none, none, none, none] [] σ Q := by
  refine (go_aload_n 0 eX11_text_26 rfl rfl).run ?_
  exact Run.callV (d := (d + 2)) (As := []) mX11_next lkX11_148 kd_88 (by decide) rfl rfl rfl rfl rfl (Nat.le_of_ble_eq_true rfl) eX11_text_27 k1

set_option maxRecDepth 20000 in
theorem bX11_text_30 {d : Nat} {Q : Option Value → St → Prop} (σ : St) 
    (k1 : Ct yX11_wants MX11_wants (d + 2) [.ref 88, .int (bI ((σ.1 88 13) = 1)), .int 2] σ (fun v σ1 => Run MX11_text (d + 3) 48 [some (.ref 88), none, none, none, none] (v.toList ++ []) σ1 Q))
    : Run MX11_text (d + 3) 30 [some (.ref 88), none, none, none, none] [] σ Q := by
  refine (go_aload_n 0 eX11_text_30 rfl rfl).run ?_
  refine (go_aload_n 0 eX11_text_31 rfl rfl).run ?_
  refine (go_geti flX11_134 rf_10_13 kd_88 eX11_text_32).run ?_
  refine (go_iconst (v := 1) eX11_text_35 rfl).run ?_
  have hJh1 : Run MX11_text (d + 3) 44 [some (.ref 88), none, none, none, none] [.int (bI ((σ.1 88 13) = 1)), .ref 88] σ Q := by
    refine (go_iconst (v := 2) eX11_text_44 rfl).run ?_
    exact Run.callV (d := (d + 2)) (As := [.int (bI ((σ.1 88 13) = 1)), .int 2]) mX11_wants lkX11_144 kd_88 (by decide) rfl rfl rfl rfl rfl (Nat.le_of_ble_eq_true rfl) eX11_text_45 k1
  refine (bi_ne 43 eX11_text_36 rfl).run (fun h1 => ?_) (fun h1 => ?_)
  · refine (go_iconst (v := 0) eX11_text_43 rfl).run ?_
    first | exact hJh1 | (simp only [if_neg (h1)] at hJh1; exact hJh1) | (simp only [eq_false h1, not_false_eq_true, true_and, and_true, false_and, and_false, true_or, or_true, false_or, or_false, not_true_eq_false, not_false_eq_true] at hJh1; exact hJh1) | exact Run.eq (by simp [eq_false h1, not_false_eq_true, bI]) (by simp [eq_false h1, not_false_eq_true, bI]) rfl hJh1
  · refine (go_iconst (v := 1) eX11_text_39 rfl).run ?_
    refine (go_goto 44 eX11_text_40 rfl).run ?_
    first | exact hJh1 | (simp only [if_pos h1] at hJh1; exact hJh1) | (simp only [eq_true h1, not_true_eq_false, true_and, and_true, false_and, and_false, true_or, or_true, false_or, or_false, not_true_eq_false, not_false_eq_true] at hJh1; exact hJh1) | exact Run.eq (by simp [eq_true h1, not_true_eq_false, bI]) (by simp [eq_true h1, not_true_eq_false, bI]) rfl hJh1

set_option maxRecDepth 20000 in
theorem bX11_text_48 {d : Nat} {Q : Option Value → St → Prop} (σ : St) 
    (k1 : ¬ (σ.1 88 15) = 0 → Ct yX11_next MX11_next (d + 2) [.ref 88] σ (fun v σ1 => Run MX11_text (d + 3) 83 [some (.ref 88), some (.int (σ.1 88 14)), none, none, none] (v.toList ++ []) σ1 Q))
    (k2 : (σ.1 88 15) = 0 → Ct yX11_wants MX11_wants (d + 2) [.ref 88, .int (bI ((2 : Int64) ≤ ((σ.1 88 14).toInt64) ∧ ((σ.1 88 14).toInt64) ≤ (32 : Int64))), .int 3] σ (fun v σ1 => Run MX11_text (d + 3) 74 [some (.ref 88), none, none, none, none] (v.toList ++ []) σ1 Q))
    : Run MX11_text (d + 3) 48 [some (.ref 88), none, none, none, none] [] σ Q := by
  refine (go_aload_n 0 eX11_text_48 rfl rfl).run ?_
  refine (go_geti flX11_118 rf_10_15 kd_88 eX11_text_49).run ?_
  refine (bz_ne 74 eX11_text_52 rfl).run (fun h1 => ?_) (fun h1 => ?_)
  · refine (go_aload_n 0 eX11_text_74 rfl rfl).run ?_
    refine (go_geti flX11_141 rf_10_14 kd_88 eX11_text_75).run ?_
    refine (go_istore_n 1 (L' := [some (.ref 88), some (.int (σ.1 88 14)), none, none, none]) eX11_text_78 rfl (Nat.le_of_ble_eq_true rfl) rfl).run ?_
    refine (go_aload_n 0 eX11_text_79 rfl rfl).run ?_
    exact Run.callV (d := (d + 2)) (As := []) mX11_next lkX11_148 kd_88 (by decide) rfl rfl rfl rfl rfl (Nat.le_of_ble_eq_true rfl) eX11_text_80 (k1 h1)
  · refine (go_aload_n 0 eX11_text_55 rfl rfl).run ?_
    refine (go_aload_n 0 eX11_text_56 rfl rfl).run ?_
    refine (go_geti flX11_141 rf_10_14 kd_88 eX11_text_57).run ?_
    refine (go_i2l eX11_text_60).run ?_
    refine (go_ldc2 csX11_155 eX11_text_61).run ?_
    refine (go_ldc2 csX11_157 eX11_text_64).run ?_
    refine Run.callS1 (d := (d + 2)) (As := [.long ((σ.1 88 14).toInt64), .long (2), .long (32)]) (r := .int (bI ((2 : Int64) ≤ ((σ.1 88 14).toInt64) ∧ ((σ.1 88 14).toInt64) ≤ (32 : Int64)))) mX11_in lkX11_109 rfl rfl rfl (Nat.le_of_ble_eq_true rfl) eX11_text_67 (qX11_in (d + 2) ((σ.1 88 14).toInt64) (2 : Int64) (32 : Int64) σ  ) ?_
    refine (go_iconst (v := 3) eX11_text_70 rfl).run ?_
    exact Run.callV (d := (d + 2)) (As := [.int (bI ((2 : Int64) ≤ ((σ.1 88 14).toInt64) ∧ ((σ.1 88 14).toInt64) ≤ (32 : Int64))), .int 3]) mX11_wants lkX11_144 kd_88 (by decide) rfl rfl rfl rfl rfl (Nat.le_of_ble_eq_true rfl) eX11_text_71 (k2 h1)

set_option maxRecDepth 20000 in
theorem bX11_text_83 {d : Nat} {Q : Option Value → St → Prop} (x1 : Int32) (σ : St) 
    (k1 : ¬ (σ.1 88 15) = 0 → Ct yX11_next MX11_next (d + 2) [.ref 88] σ (fun v σ1 => Run MX11_text (d + 3) 105 [some (.ref 88), some (.int x1), none, none, none] (v.toList ++ []) σ1 Q))
    (k2 : (σ.1 88 15) = 0 → Ct yX11_wants MX11_wants (d + 2) [.ref 88, .int (bI ((σ.1 88 13) = 2 ∧ (σ.1 88 14) = (58 : Int32))), .int 2] σ (fun v σ1 => Run MX11_text (d + 3) 101 [some (.ref 88), some (.int x1), none, none, none] (v.toList ++ []) σ1 Q))
    : Run MX11_text (d + 3) 83 [some (.ref 88), some (.int x1), none, none, none] [] σ Q := by
  refine (go_aload_n 0 eX11_text_83 rfl rfl).run ?_
  refine (go_geti flX11_118 rf_10_15 kd_88 eX11_text_84).run ?_
  refine (bz_ne 101 eX11_text_87 rfl).run (fun h1 => ?_) (fun h1 => ?_)
  · refine (go_aload_n 0 eX11_text_101 rfl rfl).run ?_
    exact Run.callV (d := (d + 2)) (As := []) mX11_next lkX11_148 kd_88 (by decide) rfl rfl rfl rfl rfl (Nat.le_of_ble_eq_true rfl) eX11_text_102 (k1 h1)
  · refine (go_aload_n 0 eX11_text_90 rfl rfl).run ?_
    refine (go_aload_n 0 eX11_text_91 rfl rfl).run ?_
    refine (go_bipush (v := 58) eX11_text_92 rfl).run ?_
    refine Run.callV1 (d := (d + 2)) (As := [.int 58]) (r := .int (bI ((σ.1 88 13) = 2 ∧ (σ.1 88 14) = (58 : Int32)))) mX11_isSign lkX11_151 kd_88 (by decide) rfl rfl rfl rfl rfl (Nat.le_of_ble_eq_true rfl) eX11_text_94 (qX11_isSign (d + 2) (58 : Int32) σ  ) ?_
    refine (go_iconst (v := 2) eX11_text_97 rfl).run ?_
    exact Run.callV (d := (d + 2)) (As := [.int (bI ((σ.1 88 13) = 2 ∧ (σ.1 88 14) = (58 : Int32))), .int 2]) mX11_wants lkX11_144 kd_88 (by decide) rfl rfl rfl rfl rfl (Nat.le_of_ble_eq_true rfl) eX11_text_98 (k2 h1)

set_option maxRecDepth 20000 in
theorem bX11_text_74 {d : Nat} {Q : Option Value → St → Prop} (σ : St) 
    (k1 : Ct yX11_next MX11_next (d + 2) [.ref 88] σ (fun v σ1 => Run MX11_text (d + 3) 83 [some (.ref 88), some (.int (σ.1 88 14)), none, none, none] (v.toList ++ []) σ1 Q))
    : Run MX11_text (d + 3) 74 [some (.ref 88), none, none, none, none] [] σ Q := by
  refine (go_aload_n 0 eX11_text_74 rfl rfl).run ?_
  refine (go_geti flX11_141 rf_10_14 kd_88 eX11_text_75).run ?_
  refine (go_istore_n 1 (L' := [some (.ref 88), some (.int (σ.1 88 14)), none, none, none]) eX11_text_78 rfl (Nat.le_of_ble_eq_true rfl) rfl).run ?_
  refine (go_aload_n 0 eX11_text_79 rfl rfl).run ?_
  exact Run.callV (d := (d + 2)) (As := []) mX11_next lkX11_148 kd_88 (by decide) rfl rfl rfl rfl rfl (Nat.le_of_ble_eq_true rfl) eX11_text_80 k1

set_option maxRecDepth 20000 in
theorem bX11_text_105 {d : Nat} {Q : Option Value → St → Prop} (x1 : Int32) (σ : St) 
    (k1 : Run MX11_text (d + 3) 107 [some (.ref 88), some (.int x1), some (.int 0), none, none] [] σ Q)
    : Run MX11_text (d + 3) 105 [some (.ref 88), some (.int x1), none, none, none] [] σ Q := by
  refine (go_iconst (v := 0) eX11_text_105 rfl).run ?_
  refine (go_istore_n 2 (L' := [some (.ref 88), some (.int x1), some (.int 0), none, none]) eX11_text_106 rfl (Nat.le_of_ble_eq_true rfl) rfl).run ?_
  exact k1

set_option maxRecDepth 20000 in
theorem bX11_text_101 {d : Nat} {Q : Option Value → St → Prop} (x1 : Int32) (σ : St) 
    (k1 : Ct yX11_next MX11_next (d + 2) [.ref 88] σ (fun v σ1 => Run MX11_text (d + 3) 105 [some (.ref 88), some (.int x1), none, none, none] (v.toList ++ []) σ1 Q))
    : Run MX11_text (d + 3) 101 [some (.ref 88), some (.int x1), none, none, none] [] σ Q := by
  refine (go_aload_n 0 eX11_text_101 rfl rfl).run ?_
  exact Run.callV (d := (d + 2)) (As := []) mX11_next lkX11_148 kd_88 (by decide) rfl rfl rfl rfl rfl (Nat.le_of_ble_eq_true rfl) eX11_text_102 k1

set_option maxRecDepth 20000 in
theorem bX11_text_107 {d : Nat} {Q : Option Value → St → Prop} (x1 : Int32) (x2 : Int32) (σ : St) 
    (g1 : ¬ (σ.1 88 15) = 0 → (σ.1 88 15) ≤ 0 → vp_in (σ.1 88 0) 8)
    (g2 : (σ.1 88 15) = 0 → (σ.1 88 13) = 0 → (σ.1 88 15) ≤ 0 → vp_in (σ.1 88 0) 8)
    (k1 : ¬ (σ.1 88 15) = 0 → (σ.1 88 15) ≤ 0 → Q (some (.int ((((σ.1 88 0) + 1)) - 1))) (sA (sA (sA (sA σ 88 (upd (σ.1 88) 10 0)) 89 (upd (σ.1 89) (σ.1 88 0).toNatClampNeg x1)) 90 (upd (σ.1 90) (σ.1 88 0).toNatClampNeg x2)) 88 (upd (upd (σ.1 88) 10 0) 0 ((σ.1 88 0) + 1))))
    (k2 : ¬ (σ.1 88 15) = 0 → (0 : Int32) < (σ.1 88 15) → Q (some (.int ((-10 : Int32) - (σ.1 88 16)))) (sA σ 88 (upd (σ.1 88) 10 0)))
    (k3 : (σ.1 88 15) = 0 → (σ.1 88 13) = 0 → (σ.1 88 15) ≤ 0 → Q (some (.int ((((σ.1 88 0) + 1)) - 1))) (sA (sA (sA (sA σ 88 (upd (σ.1 88) 10 0)) 89 (upd (σ.1 89) (σ.1 88 0).toNatClampNeg x1)) 90 (upd (σ.1 90) (σ.1 88 0).toNatClampNeg x2)) 88 (upd (upd (σ.1 88) 10 0) 0 ((σ.1 88 0) + 1))))
    (k4 : (σ.1 88 15) = 0 → (σ.1 88 13) = 0 → (0 : Int32) < (σ.1 88 15) → Q (some (.int ((-10 : Int32) - (σ.1 88 16)))) (sA σ 88 (upd (σ.1 88) 10 0)))
    (k5 : (σ.1 88 15) = 0 → ¬ (σ.1 88 13) = 0 → Ct yX11_readRow MX11_readRow (d + 2) [.ref 88, .int x1, .int x2] σ (fun v σ1 => Run MX11_text (d + 3) 127 [some (.ref 88), some (.int x1), some (.int x2), none, none] (v.toList ++ []) σ1 Q))
    : Run MX11_text (d + 3) 107 [some (.ref 88), some (.int x1), some (.int x2), none, none] [] σ Q := by
  refine (go_aload_n 0 eX11_text_107 rfl rfl).run ?_
  refine (go_geti flX11_118 rf_10_15 kd_88 eX11_text_108).run ?_
  refine (bz_ne 161 eX11_text_111 rfl).run (fun h1 => ?_) (fun h1 => ?_)
  · refine (go_aload_n 0 eX11_text_161 rfl rfl).run ?_
    refine (go_iconst (v := 0) eX11_text_162 rfl).run ?_
    refine (go_puti flX11_113 rf_10_10 rfl pf_10_10 rfl rfl kd_88 eX11_text_163).run ?_
    refine (go_aload_n 0 eX11_text_166 rfl rfl).run ?_
    refine (go_geti flX11_118 rf_10_15 kd_88 eX11_text_167).run ?_
    refine (bz_le 181 eX11_text_170 rfl).run (fun h2 => ?_) (fun h2 => ?_)
    · refine (go_aload_n 0 eX11_text_181 rfl rfl).run ?_
      refine (go_getr flX11_7 rf_10_1 kd_88 gr_88_1 eX11_text_182).run ?_
      refine (go_aload_n 0 eX11_text_185 rfl rfl).run ?_
      refine (go_geti flX11_106 rf_10_0 kd_88 eX11_text_186).run ?_
      refine (go_iload_n 1 eX11_text_189 rfl rfl).run ?_
      refine (go_iast kd_89 ln_89 (g1 h1 h2) eX11_text_190).run ?_
      refine (go_aload_n 0 eX11_text_191 rfl rfl).run ?_
      refine (go_getr flX11_13 rf_10_2 kd_88 gr_88_2 eX11_text_192).run ?_
      refine (go_aload_n 0 eX11_text_195 rfl rfl).run ?_
      refine (go_geti flX11_106 rf_10_0 kd_88 eX11_text_196).run ?_
      refine (go_iload_n 2 eX11_text_199 rfl rfl).run ?_
      refine (go_iast kd_90 ln_90 (g1 h1 h2) eX11_text_200).run ?_
      refine (go_aload_n 0 eX11_text_201 rfl rfl).run ?_
      refine (go_dup eX11_text_202 rfl).run ?_
      refine (go_geti flX11_106 rf_10_0 kd_88 eX11_text_203).run ?_
      refine (go_iconst (v := 1) eX11_text_206 rfl).run ?_
      refine (go_iadd eX11_text_207).run ?_
      refine (go_puti flX11_106 rf_10_0 rfl pf_10_0 rfl rfl kd_88 eX11_text_208).run ?_
      refine (go_aload_n 0 eX11_text_211 rfl rfl).run ?_
      refine (go_geti flX11_106 rf_10_0 kd_88 eX11_text_212).run ?_
      refine (go_iconst (v := 1) eX11_text_215 rfl).run ?_
      refine (go_isub eX11_text_216).run ?_
      exact Run.ret (v := some (.int ((((σ.1 88 0) + 1)) - 1))) (k1 h1 h2) ⟨Or.inl rfl, eX11_text_217⟩ rfl
    · refine (go_bipush (v := -10) eX11_text_173 rfl).run ?_
      refine (go_aload_n 0 eX11_text_175 rfl rfl).run ?_
      refine (go_geti flX11_124 rf_10_16 kd_88 eX11_text_176).run ?_
      refine (go_isub eX11_text_179).run ?_
      exact Run.ret (v := some (.int ((-10 : Int32) - (σ.1 88 16)))) (k2 h1 h2) ⟨Or.inl rfl, eX11_text_180⟩ rfl
  · refine (go_aload_n 0 eX11_text_114 rfl rfl).run ?_
    refine (go_geti flX11_134 rf_10_13 kd_88 eX11_text_115).run ?_
    refine (bz_eq 161 eX11_text_118 rfl).run (fun h3 => ?_) (fun h3 => ?_)
    · refine (go_aload_n 0 eX11_text_161 rfl rfl).run ?_
      refine (go_iconst (v := 0) eX11_text_162 rfl).run ?_
      refine (go_puti flX11_113 rf_10_10 rfl pf_10_10 rfl rfl kd_88 eX11_text_163).run ?_
      refine (go_aload_n 0 eX11_text_166 rfl rfl).run ?_
      refine (go_geti flX11_118 rf_10_15 kd_88 eX11_text_167).run ?_
      refine (bz_le 181 eX11_text_170 rfl).run (fun h4 => ?_) (fun h4 => ?_)
      · refine (go_aload_n 0 eX11_text_181 rfl rfl).run ?_
        refine (go_getr flX11_7 rf_10_1 kd_88 gr_88_1 eX11_text_182).run ?_
        refine (go_aload_n 0 eX11_text_185 rfl rfl).run ?_
        refine (go_geti flX11_106 rf_10_0 kd_88 eX11_text_186).run ?_
        refine (go_iload_n 1 eX11_text_189 rfl rfl).run ?_
        refine (go_iast kd_89 ln_89 (g2 h1 h3 h4) eX11_text_190).run ?_
        refine (go_aload_n 0 eX11_text_191 rfl rfl).run ?_
        refine (go_getr flX11_13 rf_10_2 kd_88 gr_88_2 eX11_text_192).run ?_
        refine (go_aload_n 0 eX11_text_195 rfl rfl).run ?_
        refine (go_geti flX11_106 rf_10_0 kd_88 eX11_text_196).run ?_
        refine (go_iload_n 2 eX11_text_199 rfl rfl).run ?_
        refine (go_iast kd_90 ln_90 (g2 h1 h3 h4) eX11_text_200).run ?_
        refine (go_aload_n 0 eX11_text_201 rfl rfl).run ?_
        refine (go_dup eX11_text_202 rfl).run ?_
        refine (go_geti flX11_106 rf_10_0 kd_88 eX11_text_203).run ?_
        refine (go_iconst (v := 1) eX11_text_206 rfl).run ?_
        refine (go_iadd eX11_text_207).run ?_
        refine (go_puti flX11_106 rf_10_0 rfl pf_10_0 rfl rfl kd_88 eX11_text_208).run ?_
        refine (go_aload_n 0 eX11_text_211 rfl rfl).run ?_
        refine (go_geti flX11_106 rf_10_0 kd_88 eX11_text_212).run ?_
        refine (go_iconst (v := 1) eX11_text_215 rfl).run ?_
        refine (go_isub eX11_text_216).run ?_
        exact Run.ret (v := some (.int ((((σ.1 88 0) + 1)) - 1))) (k3 h1 h3 h4) ⟨Or.inl rfl, eX11_text_217⟩ rfl
      · refine (go_bipush (v := -10) eX11_text_173 rfl).run ?_
        refine (go_aload_n 0 eX11_text_175 rfl rfl).run ?_
        refine (go_geti flX11_124 rf_10_16 kd_88 eX11_text_176).run ?_
        refine (go_isub eX11_text_179).run ?_
        exact Run.ret (v := some (.int ((-10 : Int32) - (σ.1 88 16)))) (k4 h1 h3 h4) ⟨Or.inl rfl, eX11_text_180⟩ rfl
    · refine (go_aload_n 0 eX11_text_121 rfl rfl).run ?_
      refine (go_iload_n 1 eX11_text_122 rfl rfl).run ?_
      refine (go_iload_n 2 eX11_text_123 rfl rfl).run ?_
      exact Run.callV (d := (d + 2)) (As := [.int x1, .int x2]) mX11_readRow lkX11_159 kd_88 (by decide) rfl rfl rfl rfl rfl (Nat.le_of_ble_eq_true rfl) eX11_text_124 (k5 h1 h3)

set_option maxRecDepth 20000 in
theorem bX11_text_127 {d : Nat} {Q : Option Value → St → Prop} (x1 : Int32) (x2 : Int32) (s0 : Int64) (σ : St) 
    (g1 : (σ.1 88 15) = 0 → vp_in (((32 : Int32) * (σ.1 88 0)) + x2) 256)
    (k1 : ¬ (σ.1 88 15) = 0 → Run MX11_text (d + 3) 107 [some (.ref 88), some (.int x1), some (.int x2), none, none] [] σ Q)
    (k2 : (σ.1 88 15) = 0 → Ct yX11_joins MX11_joins (d + 2) [.ref 88, .long s0] (sJ σ 91 (vp_updL (σ.2 91) (((32 : Int32) * (σ.1 88 0)) + x2).toNatClampNeg s0)) (fun v σ1 => Run MX11_text (d + 3) 155 [some (.ref 88), some (.int x1), some (.int x2), none, none] (v.toList ++ []) σ1 Q))
    : Run MX11_text (d + 3) 127 [some (.ref 88), some (.int x1), some (.int x2), none, none] [.long s0] σ Q := by
  refine (go_lstore_n 3 (L' := [some (.ref 88), some (.int x1), some (.int x2), some (.long s0), none]) eX11_text_127 rfl (Nat.le_of_ble_eq_true rfl) rfl).run ?_
  refine (go_aload_n 0 eX11_text_128 rfl rfl).run ?_
  refine (go_geti flX11_118 rf_10_15 kd_88 eX11_text_129).run ?_
  refine (bz_ne 158 eX11_text_132 rfl).run (fun h1 => ?_) (fun h1 => ?_)
  · refine (go_goto 107 eX11_text_158 rfl).run ?_
    refine (go_sub (L' := [some (.ref 88), some (.int x1), some (.int x2), none, none]) (lsub_keep (lsub_keep (lsub_keep (lsub_drop (lsub_keep lsub_nil)))))).run ?_
    exact (k1 h1)
  · refine (go_aload_n 0 eX11_text_135 rfl rfl).run ?_
    refine (go_getr flX11_16 rf_10_3 kd_88 gr_88_3 eX11_text_136).run ?_
    refine (go_bipush (v := 32) eX11_text_139 rfl).run ?_
    refine (go_aload_n 0 eX11_text_141 rfl rfl).run ?_
    refine (go_geti flX11_106 rf_10_0 kd_88 eX11_text_142).run ?_
    refine (go_imul eX11_text_145).run ?_
    refine (go_iload_n 2 eX11_text_146 rfl rfl).run ?_
    refine (go_iadd eX11_text_147).run ?_
    refine (go_lload_n 3 eX11_text_148 rfl rfl).run ?_
    refine (go_last kd_91 ln_91 (g1 h1) eX11_text_149).run ?_
    refine (go_aload_n 0 eX11_text_150 rfl rfl).run ?_
    refine (go_lload_n 3 eX11_text_151 rfl rfl).run ?_
    refine (go_sub (L' := [some (.ref 88), some (.int x1), some (.int x2), none, none]) (lsub_keep (lsub_keep (lsub_keep (lsub_drop (lsub_keep lsub_nil)))))).run ?_
    exact Run.callV (d := (d + 2)) (As := [.long s0]) mX11_joins lkX11_98 kd_88 (by decide) rfl rfl rfl rfl rfl (Nat.le_of_ble_eq_true rfl) eX11_text_152 (k2 h1)

set_option maxRecDepth 20000 in
theorem bX11_text_155 {d : Nat} {Q : Option Value → St → Prop} (x1 : Int32) (x2 : Int32) (σ : St) 
    (k1 : Run MX11_text (d + 3) 107 [some (.ref 88), some (.int x1), some (.int (x2 + 1)), none, none] [] σ Q)
    : Run MX11_text (d + 3) 155 [some (.ref 88), some (.int x1), some (.int x2), none, none] [] σ Q := by
  refine (go_iinc 2 (v := (x2 + 1)) (L' := [some (.ref 88), some (.int x1), some (.int (x2 + 1)), none, none]) eX11_text_155 rfl rfl (Nat.le_of_ble_eq_true rfl) rfl).run ?_
  refine (go_goto 107 eX11_text_158 rfl).run ?_
  exact k1

/-! CarryNetsModel.fault -/
theorem eX11_fault_0 : decode MX11_fault.2.1 0 = .ok (.aload_n 0, 1) := by decide +kernel
theorem eX11_fault_1 : decode MX11_fault.2.1 1 = .ok (.getfield 118, 3) := by decide +kernel
theorem eX11_fault_4 : decode MX11_fault.2.1 4 = .ok (.ireturn, 1) := by decide +kernel
set_option maxRecDepth 20000 in
theorem bX11_fault_0 {d : Nat} {Q : Option Value → St → Prop} (σ : St) 
    (k1 : Q (some (.int (σ.1 88 15))) σ)
    : Run MX11_fault d 0 [some (.ref 88)] [] σ Q := by
  refine (go_aload_n 0 eX11_fault_0 rfl rfl).run ?_
  refine (go_geti flX11_118 rf_10_15 kd_88 eX11_fault_1).run ?_
  exact Run.ret (v := some (.int (σ.1 88 15))) k1 ⟨Or.inl rfl, eX11_fault_4⟩ rfl

theorem qX11_fault (d : Nat) (σ : St) : Ct yX11_fault MX11_fault d [.ref 88] σ (fun v σ1 => v = some (.int (σ.1 88 15)) ∧ σ1 = σ) :=
  Ct.of mX11_fault.1 (Nat.le_of_ble_eq_true rfl) (bX11_fault_0  σ   (⟨by first | rfl | (simp only [true_and, and_true, false_and, and_false, true_or, or_true, false_or, or_false, not_true_eq_false, not_false_eq_true, if_true, if_false]; done) | (simp [bI]; done), by first | rfl | (simp only [true_and, and_true, false_and, and_false, true_or, or_true, false_or, or_false, not_true_eq_false, not_false_eq_true, if_true, if_false]; done) | (simp [bI]; done)⟩))

/-! CarryNetsModel.comes -/
theorem eX11_comes_0 : decode MX11_comes.2.1 0 = .ok (.lconst 0, 1) := by decide +kernel
theorem eX11_comes_1 : decode MX11_comes.2.1 1 = .ok (.lstore_n 3, 1) := by decide +kernel
theorem eX11_comes_2 : decode MX11_comes.2.1 2 = .ok (.iconst 0, 1) := by decide +kernel
theorem eX11_comes_3 : decode MX11_comes.2.1 3 = .ok (.istore 5, 2) := by decide +kernel
theorem eX11_comes_5 : decode MX11_comes.2.1 5 = .ok (.iload 5, 2) := by decide +kernel
theorem eX11_comes_7 : decode MX11_comes.2.1 7 = .ok (.aload_n 0, 1) := by decide +kernel
theorem eX11_comes_8 : decode MX11_comes.2.1 8 = .ok (.getfield 7, 3) := by decide +kernel
theorem eX11_comes_11 : decode MX11_comes.2.1 11 = .ok (.aload_n 0, 1) := by decide +kernel
theorem eX11_comes_12 : decode MX11_comes.2.1 12 = .ok (.getfield 106, 3) := by decide +kernel
theorem eX11_comes_15 : decode MX11_comes.2.1 15 = .ok (.iaload, 1) := by decide +kernel
theorem eX11_comes_16 : decode MX11_comes.2.1 16 = .ok (.if_icmp .ge 41, 3) := by decide +kernel
theorem eX11_comes_19 : decode MX11_comes.2.1 19 = .ok (.lload_n 3, 1) := by decide +kernel
theorem eX11_comes_20 : decode MX11_comes.2.1 20 = .ok (.lload_n 1, 1) := by decide +kernel
theorem eX11_comes_21 : decode MX11_comes.2.1 21 = .ok (.iload 5, 2) := by decide +kernel
theorem eX11_comes_23 : decode MX11_comes.2.1 23 = .ok (.lshr, 1) := by decide +kernel
theorem eX11_comes_24 : decode MX11_comes.2.1 24 = .ok (.lconst 1, 1) := by decide +kernel
theorem eX11_comes_25 : decode MX11_comes.2.1 25 = .ok (.land, 1) := by decide +kernel
theorem eX11_comes_26 : decode MX11_comes.2.1 26 = .ok (.lconst 1, 1) := by decide +kernel
theorem eX11_comes_27 : decode MX11_comes.2.1 27 = .ok (.lcmp, 1) := by decide +kernel
theorem eX11_comes_28 : decode MX11_comes.2.1 28 = .ok (.ifCond .ne 20, 3) := by decide +kernel
theorem eX11_comes_31 : decode MX11_comes.2.1 31 = .ok (.aload_n 0, 1) := by decide +kernel
theorem eX11_comes_32 : decode MX11_comes.2.1 32 = .ok (.getfield 30, 3) := by decide +kernel
theorem eX11_comes_35 : decode MX11_comes.2.1 35 = .ok (.iload 5, 2) := by decide +kernel
theorem eX11_comes_37 : decode MX11_comes.2.1 37 = .ok (.iaload, 1) := by decide +kernel
theorem eX11_comes_38 : decode MX11_comes.2.1 38 = .ok (.ifCond .le 10, 3) := by decide +kernel
theorem eX11_comes_41 : decode MX11_comes.2.1 41 = .ok (.lconst 1, 1) := by decide +kernel
theorem eX11_comes_42 : decode MX11_comes.2.1 42 = .ok (.iload 5, 2) := by decide +kernel
theorem eX11_comes_44 : decode MX11_comes.2.1 44 = .ok (.lshl, 1) := by decide +kernel
theorem eX11_comes_45 : decode MX11_comes.2.1 45 = .ok (.goto 4, 3) := by decide +kernel
theorem eX11_comes_48 : decode MX11_comes.2.1 48 = .ok (.lconst 0, 1) := by decide +kernel
theorem eX11_comes_49 : decode MX11_comes.2.1 49 = .ok (.lor, 1) := by decide +kernel
theorem eX11_comes_50 : decode MX11_comes.2.1 50 = .ok (.lstore_n 3, 1) := by decide +kernel
theorem eX11_comes_51 : decode MX11_comes.2.1 51 = .ok (.iinc 5 1, 3) := by decide +kernel
theorem eX11_comes_54 : decode MX11_comes.2.1 54 = .ok (.goto (-49), 3) := by decide +kernel
theorem eX11_comes_57 : decode MX11_comes.2.1 57 = .ok (.lload_n 3, 1) := by decide +kernel
theorem eX11_comes_58 : decode MX11_comes.2.1 58 = .ok (.lconst 0, 1) := by decide +kernel
theorem eX11_comes_59 : decode MX11_comes.2.1 59 = .ok (.lcmp, 1) := by decide +kernel
theorem eX11_comes_60 : decode MX11_comes.2.1 60 = .ok (.ifCond .eq 44, 3) := by decide +kernel
theorem eX11_comes_63 : decode MX11_comes.2.1 63 = .ok (.aload_n 0, 1) := by decide +kernel
theorem eX11_comes_64 : decode MX11_comes.2.1 64 = .ok (.getfield 16, 3) := by decide +kernel
theorem eX11_comes_67 : decode MX11_comes.2.1 67 = .ok (.bipush 32, 2) := by decide +kernel
theorem eX11_comes_69 : decode MX11_comes.2.1 69 = .ok (.aload_n 0, 1) := by decide +kernel
theorem eX11_comes_70 : decode MX11_comes.2.1 70 = .ok (.getfield 106, 3) := by decide +kernel
theorem eX11_comes_73 : decode MX11_comes.2.1 73 = .ok (.imul, 1) := by decide +kernel
theorem eX11_comes_74 : decode MX11_comes.2.1 74 = .ok (.aload_n 0, 1) := by decide +kernel
theorem eX11_comes_75 : decode MX11_comes.2.1 75 = .ok (.getfield 13, 3) := by decide +kernel
theorem eX11_comes_78 : decode MX11_comes.2.1 78 = .ok (.aload_n 0, 1) := by decide +kernel
theorem eX11_comes_79 : decode MX11_comes.2.1 79 = .ok (.getfield 106, 3) := by decide +kernel
theorem eX11_comes_82 : decode MX11_comes.2.1 82 = .ok (.iaload, 1) := by decide +kernel
theorem eX11_comes_83 : decode MX11_comes.2.1 83 = .ok (.iadd, 1) := by decide +kernel
theorem eX11_comes_84 : decode MX11_comes.2.1 84 = .ok (.lload_n 3, 1) := by decide +kernel
theorem eX11_comes_85 : decode MX11_comes.2.1 85 = .ok (.lastore, 1) := by decide +kernel
theorem eX11_comes_86 : decode MX11_comes.2.1 86 = .ok (.aload_n 0, 1) := by decide +kernel
theorem eX11_comes_87 : decode MX11_comes.2.1 87 = .ok (.getfield 13, 3) := by decide +kernel
theorem eX11_comes_90 : decode MX11_comes.2.1 90 = .ok (.aload_n 0, 1) := by decide +kernel
theorem eX11_comes_91 : decode MX11_comes.2.1 91 = .ok (.getfield 106, 3) := by decide +kernel
theorem eX11_comes_94 : decode MX11_comes.2.1 94 = .ok (.dup2, 1) := by decide +kernel
theorem eX11_comes_95 : decode MX11_comes.2.1 95 = .ok (.iaload, 1) := by decide +kernel
theorem eX11_comes_96 : decode MX11_comes.2.1 96 = .ok (.iconst 1, 1) := by decide +kernel
theorem eX11_comes_97 : decode MX11_comes.2.1 97 = .ok (.iadd, 1) := by decide +kernel
theorem eX11_comes_98 : decode MX11_comes.2.1 98 = .ok (.iastore, 1) := by decide +kernel
theorem eX11_comes_99 : decode MX11_comes.2.1 99 = .ok (.aload_n 0, 1) := by decide +kernel
theorem eX11_comes_100 : decode MX11_comes.2.1 100 = .ok (.lload_n 3, 1) := by decide +kernel
theorem eX11_comes_101 : decode MX11_comes.2.1 101 = .ok (.invokevirtual 98, 3) := by decide +kernel
theorem eX11_comes_104 : decode MX11_comes.2.1 104 = .ok (.return_, 1) := by decide +kernel
set_option maxRecDepth 20000 in
theorem bX11_comes_0 {d : Nat} {Q : Option Value → St → Prop} (x1 : Int64) (σ : St) 
    (k1 : Run MX11_comes (d + 1) 5 [some (.ref 88), some (.long x1), none, some (.long 0), none, some (.int 0)] [] σ Q)
    : Run MX11_comes (d + 1) 0 [some (.ref 88), some (.long x1), none, none, none, none] [] σ Q := by
  refine (go_lconst (v := 0) eX11_comes_0 rfl).run ?_
  refine (go_lstore_n 3 (L' := [some (.ref 88), some (.long x1), none, some (.long 0), none, none]) eX11_comes_1 rfl (Nat.le_of_ble_eq_true rfl) rfl).run ?_
  refine (go_iconst (v := 0) eX11_comes_2 rfl).run ?_
  refine (go_istore 5 (L' := [some (.ref 88), some (.long x1), none, some (.long 0), none, some (.int 0)]) eX11_comes_3 (Nat.le_of_ble_eq_true rfl) rfl).run ?_
  exact k1

set_option maxRecDepth 20000 in
theorem bX11_comes_5 {d : Nat} {Q : Option Value → St → Prop} (x1 : Int64) (x3 : Int64) (x5 : Int32) (σ : St) 
    (g1 : vp_in (σ.1 88 0) 8)
    (g2 : (σ.1 89 (σ.1 88 0).toNatClampNeg) ≤ x5 → ¬ x3 = 0 → vp_in (((32 : Int32) * (σ.1 88 0)) + (σ.1 90 (σ.1 88 0).toNatClampNeg)) 256)
    (g3 : x5 < (σ.1 89 (σ.1 88 0).toNatClampNeg) → ((x1 >>> (x5.toInt64 &&& 63)) &&& 1) = 1 → vp_in x5 32)
    (k1 : (σ.1 89 (σ.1 88 0).toNatClampNeg) ≤ x5 → x3 = 0 → Q (none) σ)
    (k2 : (σ.1 89 (σ.1 88 0).toNatClampNeg) ≤ x5 → ¬ x3 = 0 → Ct yX11_joins MX11_joins d [.ref 88, .long x3] (sA (sJ σ 91 (vp_updL (σ.2 91) (((32 : Int32) * (σ.1 88 0)) + (σ.1 90 (σ.1 88 0).toNatClampNeg)).toNatClampNeg x3)) 90 (upd (σ.1 90) (σ.1 88 0).toNatClampNeg ((σ.1 90 (σ.1 88 0).toNatClampNeg) + 1))) (fun v σ1 => Run MX11_comes (d + 1) 104 [none, none, none, none, none, none] (v.toList ++ []) σ1 Q))
    (k3 : x5 < (σ.1 89 (σ.1 88 0).toNatClampNeg) → Run MX11_comes (d + 1) 5 [some (.ref 88), some (.long x1), none, some (.long (x3 ||| (if ((x1 >>> (x5.toInt64 &&& 63)) &&& 1) = 1 then (if (σ.1 93 x5.toNatClampNeg) ≤ 0 then (0 : Int64) else ((1 : Int64) <<< (x5.toInt64 &&& 63))) else 0))), none, some (.int (x5 + 1))] [] σ Q)
    : Run MX11_comes (d + 1) 5 [some (.ref 88), some (.long x1), none, some (.long x3), none, some (.int x5)] [] σ Q := by
  refine (go_iload 5 eX11_comes_5 rfl).run ?_
  refine (go_aload_n 0 eX11_comes_7 rfl rfl).run ?_
  refine (go_getr flX11_7 rf_10_1 kd_88 gr_88_1 eX11_comes_8).run ?_
  refine (go_aload_n 0 eX11_comes_11 rfl rfl).run ?_
  refine (go_geti flX11_106 rf_10_0 kd_88 eX11_comes_12).run ?_
  refine (go_iald kd_89 ln_89 g1 eX11_comes_15).run ?_
  refine (bi_ge 57 eX11_comes_16 rfl).run (fun h1 => ?_) (fun h1 => ?_)
  · refine (go_lload_n 3 eX11_comes_57 rfl rfl).run ?_
    refine (go_lconst (v := 0) eX11_comes_58 rfl).run ?_
    refine (go_lcmp eX11_comes_59).run ?_
    refine (brl_eq 104 eX11_comes_60 rfl).run (fun h2 => ?_) (fun h2 => ?_)
    · exact Run.ret (v := none) (k1 h1 h2) ⟨rfl, eX11_comes_104⟩ rfl
    · refine (go_aload_n 0 eX11_comes_63 rfl rfl).run ?_
      refine (go_getr flX11_16 rf_10_3 kd_88 gr_88_3 eX11_comes_64).run ?_
      refine (go_bipush (v := 32) eX11_comes_67 rfl).run ?_
      refine (go_aload_n 0 eX11_comes_69 rfl rfl).run ?_
      refine (go_geti flX11_106 rf_10_0 kd_88 eX11_comes_70).run ?_
      refine (go_imul eX11_comes_73).run ?_
      refine (go_aload_n 0 eX11_comes_74 rfl rfl).run ?_
      refine (go_getr flX11_13 rf_10_2 kd_88 gr_88_2 eX11_comes_75).run ?_
      refine (go_aload_n 0 eX11_comes_78 rfl rfl).run ?_
      refine (go_geti flX11_106 rf_10_0 kd_88 eX11_comes_79).run ?_
      refine (go_iald kd_90 ln_90 g1 eX11_comes_82).run ?_
      refine (go_iadd eX11_comes_83).run ?_
      refine (go_lload_n 3 eX11_comes_84 rfl rfl).run ?_
      refine (go_last kd_91 ln_91 (g2 h1 h2) eX11_comes_85).run ?_
      refine (go_aload_n 0 eX11_comes_86 rfl rfl).run ?_
      refine (go_getr flX11_13 rf_10_2 kd_88 gr_88_2 eX11_comes_87).run ?_
      refine (go_aload_n 0 eX11_comes_90 rfl rfl).run ?_
      refine (go_geti flX11_106 rf_10_0 kd_88 eX11_comes_91).run ?_
      refine (go_dup2 eX11_comes_94 rfl rfl).run ?_
      refine (go_iald kd_90 ln_90 g1 eX11_comes_95).run ?_
      refine (go_iconst (v := 1) eX11_comes_96 rfl).run ?_
      refine (go_iadd eX11_comes_97).run ?_
      refine (go_iast kd_90 ln_90 g1 eX11_comes_98).run ?_
      refine (go_aload_n 0 eX11_comes_99 rfl rfl).run ?_
      refine (go_lload_n 3 eX11_comes_100 rfl rfl).run ?_
      refine (go_sub (L' := [none, none, none, none, none, none]) (lsub_drop (lsub_drop (lsub_keep (lsub_drop (lsub_keep (lsub_drop lsub_nil))))))).run ?_
      exact Run.callV (d := d) (As := [.long x3]) mX11_joins lkX11_98 kd_88 (by decide) rfl rfl rfl rfl rfl (Nat.le_of_ble_eq_true rfl) eX11_comes_101 (k2 h1 h2)
  · refine (go_lload_n 3 eX11_comes_19 rfl rfl).run ?_
    refine (go_lload_n 1 eX11_comes_20 rfl rfl).run ?_
    refine (go_iload 5 eX11_comes_21 rfl).run ?_
    refine (go_lshr eX11_comes_23).run ?_
    refine (go_lconst (v := 1) eX11_comes_24 rfl).run ?_
    refine (go_land eX11_comes_25).run ?_
    refine (go_lconst (v := 1) eX11_comes_26 rfl).run ?_
    refine (go_lcmp eX11_comes_27).run ?_
    have hJh3 : Run MX11_comes (d + 1) 49 [some (.ref 88), some (.long x1), none, none, none, some (.int x5)] [.long (if ((x1 >>> (x5.toInt64 &&& 63)) &&& 1) = 1 then (if (σ.1 93 x5.toNatClampNeg) ≤ 0 then (0 : Int64) else ((1 : Int64) <<< (x5.toInt64 &&& 63))) else 0), .long x3] σ Q := by
      refine (go_lor eX11_comes_49).run ?_
      refine (go_lstore_n 3 (L' := [some (.ref 88), some (.long x1), none, some (.long (x3 ||| (if ((x1 >>> (x5.toInt64 &&& 63)) &&& 1) = 1 then (if (σ.1 93 x5.toNatClampNeg) ≤ 0 then (0 : Int64) else ((1 : Int64) <<< (x5.toInt64 &&& 63))) else 0))), none, some (.int x5)]) eX11_comes_50 rfl (Nat.le_of_ble_eq_true rfl) rfl).run ?_
      refine (go_iinc 5 (v := (x5 + 1)) (L' := [some (.ref 88), some (.long x1), none, some (.long (x3 ||| (if ((x1 >>> (x5.toInt64 &&& 63)) &&& 1) = 1 then (if (σ.1 93 x5.toNatClampNeg) ≤ 0 then (0 : Int64) else ((1 : Int64) <<< (x5.toInt64 &&& 63))) else 0))), none, some (.int (x5 + 1))]) eX11_comes_51 rfl rfl (Nat.le_of_ble_eq_true rfl) rfl).run ?_
      refine (go_goto 5 eX11_comes_54 rfl).run ?_
      exact (k3 h1)
    refine (brl_ne 48 eX11_comes_28 rfl).run (fun h3 => ?_) (fun h3 => ?_)
    · refine (go_lconst (v := 0) eX11_comes_48 rfl).run ?_
      refine (go_sub (L' := [some (.ref 88), some (.long x1), none, none, none, some (.int x5)]) (lsub_keep (lsub_keep (lsub_keep (lsub_drop (lsub_keep (lsub_keep lsub_nil))))))).run ?_
      first | exact hJh3 | (simp only [if_neg (h3)] at hJh3; exact hJh3) | (simp only [eq_false h3, not_false_eq_true, true_and, and_true, false_and, and_false, true_or, or_true, false_or, or_false, not_true_eq_false, not_false_eq_true] at hJh3; exact hJh3) | exact Run.eq (by simp [eq_false h3, not_false_eq_true, bI]) (by simp [eq_false h3, not_false_eq_true, bI]) rfl hJh3
    · refine (go_aload_n 0 eX11_comes_31 rfl rfl).run ?_
      refine (go_getr flX11_30 rf_10_7 kd_88 gr_88_7 eX11_comes_32).run ?_
      refine (go_iload 5 eX11_comes_35 rfl).run ?_
      refine (go_iald kd_93 ln_93 (g3 h1 h3) eX11_comes_37).run ?_
      have hJh4 : Run MX11_comes (d + 1) 49 [some (.ref 88), some (.long x1), none, none, none, some (.int x5)] [.long (if (σ.1 93 x5.toNatClampNeg) ≤ 0 then (0 : Int64) else ((1 : Int64) <<< (x5.toInt64 &&& 63))), .long x3] σ Q := by
        first | exact hJh3 | (simp only [if_pos h3] at hJh3; exact hJh3) | (simp only [eq_true h3, not_true_eq_false, true_and, and_true, false_and, and_false, true_or, or_true, false_or, or_false, not_true_eq_false, not_false_eq_true] at hJh3; exact hJh3) | exact Run.eq (by simp [eq_true h3, not_true_eq_false, bI]) (by simp [eq_true h3, not_true_eq_false, bI]) rfl hJh3
      refine (bz_le 48 eX11_comes_38 rfl).run (fun h4 => ?_) (fun h4 => ?_)
      · refine (go_lconst (v := 0) eX11_comes_48 rfl).run ?_
        refine (go_sub (L' := [some (.ref 88), some (.long x1), none, none, none, some (.int x5)]) (lsub_keep (lsub_keep (lsub_keep (lsub_drop (lsub_keep (lsub_keep lsub_nil))))))).run ?_
        first | exact hJh4 | (simp only [if_pos h4] at hJh4; exact hJh4) | (simp only [eq_true h4, eq_false (i32_nlt.mpr h4), true_and, and_true, false_and, and_false, true_or, or_true, false_or, or_false, not_true_eq_false, not_false_eq_true] at hJh4; exact hJh4) | exact Run.eq (by simp [eq_true h4, eq_false (i32_nlt.mpr h4), bI]) (by simp [eq_true h4, eq_false (i32_nlt.mpr h4), bI]) rfl hJh4
      · refine (go_lconst (v := 1) eX11_comes_41 rfl).run ?_
        refine (go_iload 5 eX11_comes_42 rfl).run ?_
        refine (go_lshl eX11_comes_44).run ?_
        refine (go_goto 49 eX11_comes_45 rfl).run ?_
        refine (go_sub (L' := [some (.ref 88), some (.long x1), none, none, none, some (.int x5)]) (lsub_keep (lsub_keep (lsub_keep (lsub_drop (lsub_keep (lsub_keep lsub_nil))))))).run ?_
        first | exact hJh4 | (simp only [if_neg (i32_nle.mpr h4)] at hJh4; exact hJh4) | (simp only [eq_true h4, eq_false (i32_nle.mpr h4), true_and, and_true, false_and, and_false, true_or, or_true, false_or, or_false, not_true_eq_false, not_false_eq_true] at hJh4; exact hJh4) | exact Run.eq (by simp [eq_true h4, eq_false (i32_nle.mpr h4), bI]) (by simp [eq_true h4, eq_false (i32_nle.mpr h4), bI]) rfl hJh4

set_option maxRecDepth 20000 in
theorem bX11_comes_104 {d : Nat} {Q : Option Value → St → Prop} (σ : St) 
    (k1 : Q (none) σ)
    : Run MX11_comes (d + 1) 104 [none, none, none, none, none, none] [] σ Q := by
  exact Run.ret (v := none) k1 ⟨rfl, eX11_comes_104⟩ rfl

/-! CarryNetsModel.placesFrom -/
theorem eX11_placesFrom_0 : decode MX11_placesFrom.2.1 0 = .ok (.lconst 0, 1) := by decide +kernel
theorem eX11_placesFrom_1 : decode MX11_placesFrom.2.1 1 = .ok (.lstore 4, 2) := by decide +kernel
theorem eX11_placesFrom_3 : decode MX11_placesFrom.2.1 3 = .ok (.iload_n 1, 1) := by decide +kernel
theorem eX11_placesFrom_4 : decode MX11_placesFrom.2.1 4 = .ok (.istore 6, 2) := by decide +kernel
theorem eX11_placesFrom_6 : decode MX11_placesFrom.2.1 6 = .ok (.iload 6, 2) := by decide +kernel
theorem eX11_placesFrom_8 : decode MX11_placesFrom.2.1 8 = .ok (.aload_n 0, 1) := by decide +kernel
theorem eX11_placesFrom_9 : decode MX11_placesFrom.2.1 9 = .ok (.getfield 7, 3) := by decide +kernel
theorem eX11_placesFrom_12 : decode MX11_placesFrom.2.1 12 = .ok (.aload_n 0, 1) := by decide +kernel
theorem eX11_placesFrom_13 : decode MX11_placesFrom.2.1 13 = .ok (.getfield 106, 3) := by decide +kernel
theorem eX11_placesFrom_16 : decode MX11_placesFrom.2.1 16 = .ok (.iaload, 1) := by decide +kernel
theorem eX11_placesFrom_17 : decode MX11_placesFrom.2.1 17 = .ok (.if_icmp .ge 78, 3) := by decide +kernel
theorem eX11_placesFrom_20 : decode MX11_placesFrom.2.1 20 = .ok (.iload_n 2, 1) := by decide +kernel
theorem eX11_placesFrom_21 : decode MX11_placesFrom.2.1 21 = .ok (.ifCond .eq 43, 3) := by decide +kernel
theorem eX11_placesFrom_24 : decode MX11_placesFrom.2.1 24 = .ok (.iload_n 2, 1) := by decide +kernel
theorem eX11_placesFrom_25 : decode MX11_placesFrom.2.1 25 = .ok (.iconst 1, 1) := by decide +kernel
theorem eX11_placesFrom_26 : decode MX11_placesFrom.2.1 26 = .ok (.if_icmp .ne 13, 3) := by decide +kernel
theorem eX11_placesFrom_29 : decode MX11_placesFrom.2.1 29 = .ok (.iload 6, 2) := by decide +kernel
theorem eX11_placesFrom_31 : decode MX11_placesFrom.2.1 31 = .ok (.iload_n 3, 1) := by decide +kernel
theorem eX11_placesFrom_32 : decode MX11_placesFrom.2.1 32 = .ok (.ishr, 1) := by decide +kernel
theorem eX11_placesFrom_33 : decode MX11_placesFrom.2.1 33 = .ok (.iconst 1, 1) := by decide +kernel
theorem eX11_placesFrom_34 : decode MX11_placesFrom.2.1 34 = .ok (.iand, 1) := by decide +kernel
theorem eX11_placesFrom_35 : decode MX11_placesFrom.2.1 35 = .ok (.iconst 1, 1) := by decide +kernel
theorem eX11_placesFrom_36 : decode MX11_placesFrom.2.1 36 = .ok (.if_icmp .eq 28, 3) := by decide +kernel
theorem eX11_placesFrom_39 : decode MX11_placesFrom.2.1 39 = .ok (.iload_n 2, 1) := by decide +kernel
theorem eX11_placesFrom_40 : decode MX11_placesFrom.2.1 40 = .ok (.iconst 2, 1) := by decide +kernel
theorem eX11_placesFrom_41 : decode MX11_placesFrom.2.1 41 = .ok (.if_icmp .ne 11, 3) := by decide +kernel
theorem eX11_placesFrom_44 : decode MX11_placesFrom.2.1 44 = .ok (.iload 6, 2) := by decide +kernel
theorem eX11_placesFrom_46 : decode MX11_placesFrom.2.1 46 = .ok (.iconst 2, 1) := by decide +kernel
theorem eX11_placesFrom_47 : decode MX11_placesFrom.2.1 47 = .ok (.irem, 1) := by decide +kernel
theorem eX11_placesFrom_48 : decode MX11_placesFrom.2.1 48 = .ok (.iconst 1, 1) := by decide +kernel
theorem eX11_placesFrom_49 : decode MX11_placesFrom.2.1 49 = .ok (.if_icmp .eq 15, 3) := by decide +kernel
theorem eX11_placesFrom_52 : decode MX11_placesFrom.2.1 52 = .ok (.iload_n 2, 1) := by decide +kernel
theorem eX11_placesFrom_53 : decode MX11_placesFrom.2.1 53 = .ok (.iconst 3, 1) := by decide +kernel
theorem eX11_placesFrom_54 : decode MX11_placesFrom.2.1 54 = .ok (.if_icmp .ne 14, 3) := by decide +kernel
theorem eX11_placesFrom_57 : decode MX11_placesFrom.2.1 57 = .ok (.iload 6, 2) := by decide +kernel
theorem eX11_placesFrom_59 : decode MX11_placesFrom.2.1 59 = .ok (.iconst 2, 1) := by decide +kernel
theorem eX11_placesFrom_60 : decode MX11_placesFrom.2.1 60 = .ok (.irem, 1) := by decide +kernel
theorem eX11_placesFrom_61 : decode MX11_placesFrom.2.1 61 = .ok (.ifCond .ne 7, 3) := by decide +kernel
theorem eX11_placesFrom_64 : decode MX11_placesFrom.2.1 64 = .ok (.iconst 1, 1) := by decide +kernel
theorem eX11_placesFrom_65 : decode MX11_placesFrom.2.1 65 = .ok (.goto 4, 3) := by decide +kernel
theorem eX11_placesFrom_68 : decode MX11_placesFrom.2.1 68 = .ok (.iconst 0, 1) := by decide +kernel
theorem eX11_placesFrom_69 : decode MX11_placesFrom.2.1 69 = .ok (.istore 7, 2) := by decide +kernel
theorem eX11_placesFrom_71 : decode MX11_placesFrom.2.1 71 = .ok (.lload 4, 2) := by decide +kernel
theorem eX11_placesFrom_73 : decode MX11_placesFrom.2.1 73 = .ok (.iload 7, 2) := by decide +kernel
theorem eX11_placesFrom_75 : decode MX11_placesFrom.2.1 75 = .ok (.ifCond .eq 10, 3) := by decide +kernel
theorem eX11_placesFrom_78 : decode MX11_placesFrom.2.1 78 = .ok (.lconst 1, 1) := by decide +kernel
theorem eX11_placesFrom_79 : decode MX11_placesFrom.2.1 79 = .ok (.iload 6, 2) := by decide +kernel
theorem eX11_placesFrom_81 : decode MX11_placesFrom.2.1 81 = .ok (.lshl, 1) := by decide +kernel
theorem eX11_placesFrom_82 : decode MX11_placesFrom.2.1 82 = .ok (.goto 4, 3) := by decide +kernel
theorem eX11_placesFrom_85 : decode MX11_placesFrom.2.1 85 = .ok (.lconst 0, 1) := by decide +kernel
theorem eX11_placesFrom_86 : decode MX11_placesFrom.2.1 86 = .ok (.lor, 1) := by decide +kernel
theorem eX11_placesFrom_87 : decode MX11_placesFrom.2.1 87 = .ok (.lstore 4, 2) := by decide +kernel
theorem eX11_placesFrom_89 : decode MX11_placesFrom.2.1 89 = .ok (.iinc 6 1, 3) := by decide +kernel
theorem eX11_placesFrom_92 : decode MX11_placesFrom.2.1 92 = .ok (.goto (-86), 3) := by decide +kernel
theorem eX11_placesFrom_95 : decode MX11_placesFrom.2.1 95 = .ok (.lload 4, 2) := by decide +kernel
theorem eX11_placesFrom_97 : decode MX11_placesFrom.2.1 97 = .ok (.lreturn, 1) := by decide +kernel
set_option maxRecDepth 20000 in
theorem bX11_placesFrom_0 {d : Nat} {Q : Option Value → St → Prop} (x1 : Int32) (x2 : Int32) (x3 : Int32) (σ : St) 
    (k1 : Run MX11_placesFrom d 6 [some (.ref 88), none, some (.int x2), some (.int x3), some (.long 0), none, some (.int x1), none] [] σ Q)
    : Run MX11_placesFrom d 0 [some (.ref 88), some (.int x1), some (.int x2), some (.int x3), none, none, none, none] [] σ Q := by
  refine (go_lconst (v := 0) eX11_placesFrom_0 rfl).run ?_
  refine (go_lstore 4 (L' := [some (.ref 88), some (.int x1), some (.int x2), some (.int x3), some (.long 0), none, none, none]) eX11_placesFrom_1 (Nat.le_of_ble_eq_true rfl) rfl).run ?_
  refine (go_iload_n 1 eX11_placesFrom_3 rfl rfl).run ?_
  refine (go_istore 6 (L' := [some (.ref 88), some (.int x1), some (.int x2), some (.int x3), some (.long 0), none, some (.int x1), none]) eX11_placesFrom_4 (Nat.le_of_ble_eq_true rfl) rfl).run ?_
  refine (go_sub (L' := [some (.ref 88), none, some (.int x2), some (.int x3), some (.long 0), none, some (.int x1), none]) (lsub_keep (lsub_drop (lsub_keep (lsub_keep (lsub_keep (lsub_keep (lsub_keep (lsub_keep lsub_nil))))))))).run ?_
  exact k1

set_option maxRecDepth 20000 in
theorem bX11_placesFrom_6 {d : Nat} {Q : Option Value → St → Prop} (x2 : Int32) (x3 : Int32) (x4 : Int64) (x6 : Int32) (σ : St) 
    (g1 : vp_in (σ.1 88 0) 8)
    (k1 : (σ.1 89 (σ.1 88 0).toNatClampNeg) ≤ x6 → Q (some (.long x4)) σ)
    (k2 : x6 < (σ.1 89 (σ.1 88 0).toNatClampNeg) → Run MX11_placesFrom d 6 [some (.ref 88), none, some (.int x2), some (.int x3), some (.long (x4 ||| (if x2 = 0 ∨ ((x2 = 1 ∧ (((x6 >>> (x3 &&& 31)) &&& 1) = 1 ∨ ((x2 = 2 ∧ ((x6 - x6 / 2 * 2) = 1 ∨ (x2 = 3 ∧ (x6 - x6 / 2 * 2) = 0))) ∨ ((¬ x2 = 2) ∧ (x2 = 3 ∧ (x6 - x6 / 2 * 2) = 0))))) ∨ ((¬ x2 = 1) ∧ ((x2 = 2 ∧ ((x6 - x6 / 2 * 2) = 1 ∨ (x2 = 3 ∧ (x6 - x6 / 2 * 2) = 0))) ∨ ((¬ x2 = 2) ∧ (x2 = 3 ∧ (x6 - x6 / 2 * 2) = 0))))) then ((1 : Int64) <<< (x6.toInt64 &&& 63)) else 0))), none, some (.int (x6 + 1)), none] [] σ Q)
    : Run MX11_placesFrom d 6 [some (.ref 88), none, some (.int x2), some (.int x3), some (.long x4), none, some (.int x6), none] [] σ Q := by
  refine (go_iload 6 eX11_placesFrom_6 rfl).run ?_
  refine (go_aload_n 0 eX11_placesFrom_8 rfl rfl).run ?_
  refine (go_getr flX11_7 rf_10_1 kd_88 gr_88_1 eX11_placesFrom_9).run ?_
  refine (go_aload_n 0 eX11_placesFrom_12 rfl rfl).run ?_
  refine (go_geti flX11_106 rf_10_0 kd_88 eX11_placesFrom_13).run ?_
  refine (go_iald kd_89 ln_89 g1 eX11_placesFrom_16).run ?_
  refine (bi_ge 95 eX11_placesFrom_17 rfl).run (fun h1 => ?_) (fun h1 => ?_)
  · refine (go_lload 4 eX11_placesFrom_95 rfl).run ?_
    exact Run.ret (v := some (.long x4)) (k1 h1) ⟨rfl, eX11_placesFrom_97⟩ rfl
  · refine (go_iload_n 2 eX11_placesFrom_20 rfl rfl).run ?_
    have hJh2 : Run MX11_placesFrom d 69 [some (.ref 88), none, some (.int x2), some (.int x3), some (.long x4), none, some (.int x6), none] [.int (bI (x2 = 0 ∨ ((x2 = 1 ∧ (((x6 >>> (x3 &&& 31)) &&& 1) = 1 ∨ ((x2 = 2 ∧ ((x6 - x6 / 2 * 2) = 1 ∨ (x2 = 3 ∧ (x6 - x6 / 2 * 2) = 0))) ∨ ((¬ x2 = 2) ∧ (x2 = 3 ∧ (x6 - x6 / 2 * 2) = 0))))) ∨ ((¬ x2 = 1) ∧ ((x2 = 2 ∧ ((x6 - x6 / 2 * 2) = 1 ∨ (x2 = 3 ∧ (x6 - x6 / 2 * 2) = 0))) ∨ ((¬ x2 = 2) ∧ (x2 = 3 ∧ (x6 - x6 / 2 * 2) = 0)))))))] σ Q := by
      refine (go_istore 7 (L' := [some (.ref 88), none, some (.int x2), some (.int x3), some (.long x4), none, some (.int x6), some (.int (bI (x2 = 0 ∨ ((x2 = 1 ∧ (((x6 >>> (x3 &&& 31)) &&& 1) = 1 ∨ ((x2 = 2 ∧ ((x6 - x6 / 2 * 2) = 1 ∨ (x2 = 3 ∧ (x6 - x6 / 2 * 2) = 0))) ∨ ((¬ x2 = 2) ∧ (x2 = 3 ∧ (x6 - x6 / 2 * 2) = 0))))) ∨ ((¬ x2 = 1) ∧ ((x2 = 2 ∧ ((x6 - x6 / 2 * 2) = 1 ∨ (x2 = 3 ∧ (x6 - x6 / 2 * 2) = 0))) ∨ ((¬ x2 = 2) ∧ (x2 = 3 ∧ (x6 - x6 / 2 * 2) = 0))))))))]) eX11_placesFrom_69 (Nat.le_of_ble_eq_true rfl) rfl).run ?_
      refine (go_lload 4 eX11_placesFrom_71 rfl).run ?_
      refine (go_iload 7 eX11_placesFrom_73 rfl).run ?_
      have hJh17 : Run MX11_placesFrom d 86 [some (.ref 88), none, some (.int x2), some (.int x3), none, none, some (.int x6), none] [.long (if x2 = 0 ∨ ((x2 = 1 ∧ (((x6 >>> (x3 &&& 31)) &&& 1) = 1 ∨ ((x2 = 2 ∧ ((x6 - x6 / 2 * 2) = 1 ∨ (x2 = 3 ∧ (x6 - x6 / 2 * 2) = 0))) ∨ ((¬ x2 = 2) ∧ (x2 = 3 ∧ (x6 - x6 / 2 * 2) = 0))))) ∨ ((¬ x2 = 1) ∧ ((x2 = 2 ∧ ((x6 - x6 / 2 * 2) = 1 ∨ (x2 = 3 ∧ (x6 - x6 / 2 * 2) = 0))) ∨ ((¬ x2 = 2) ∧ (x2 = 3 ∧ (x6 - x6 / 2 * 2) = 0))))) then ((1 : Int64) <<< (x6.toInt64 &&& 63)) else 0), .long x4] σ Q := by
        refine (go_lor eX11_placesFrom_86).run ?_
        refine (go_lstore 4 (L' := [some (.ref 88), none, some (.int x2), some (.int x3), some (.long (x4 ||| (if x2 = 0 ∨ ((x2 = 1 ∧ (((x6 >>> (x3 &&& 31)) &&& 1) = 1 ∨ ((x2 = 2 ∧ ((x6 - x6 / 2 * 2) = 1 ∨ (x2 = 3 ∧ (x6 - x6 / 2 * 2) = 0))) ∨ ((¬ x2 = 2) ∧ (x2 = 3 ∧ (x6 - x6 / 2 * 2) = 0))))) ∨ ((¬ x2 = 1) ∧ ((x2 = 2 ∧ ((x6 - x6 / 2 * 2) = 1 ∨ (x2 = 3 ∧ (x6 - x6 / 2 * 2) = 0))) ∨ ((¬ x2 = 2) ∧ (x2 = 3 ∧ (x6 - x6 / 2 * 2) = 0))))) then ((1 : Int64) <<< (x6.toInt64 &&& 63)) else 0))), none, some (.int x6), none]) eX11_placesFrom_87 (Nat.le_of_ble_eq_true rfl) rfl).run ?_
        refine (go_iinc 6 (v := (x6 + 1)) (L' := [some (.ref 88), none, some (.int x2), some (.int x3), some (.long (x4 ||| (if x2 = 0 ∨ ((x2 = 1 ∧ (((x6 >>> (x3 &&& 31)) &&& 1) = 1 ∨ ((x2 = 2 ∧ ((x6 - x6 / 2 * 2) = 1 ∨ (x2 = 3 ∧ (x6 - x6 / 2 * 2) = 0))) ∨ ((¬ x2 = 2) ∧ (x2 = 3 ∧ (x6 - x6 / 2 * 2) = 0))))) ∨ ((¬ x2 = 1) ∧ ((x2 = 2 ∧ ((x6 - x6 / 2 * 2) = 1 ∨ (x2 = 3 ∧ (x6 - x6 / 2 * 2) = 0))) ∨ ((¬ x2 = 2) ∧ (x2 = 3 ∧ (x6 - x6 / 2 * 2) = 0))))) then ((1 : Int64) <<< (x6.toInt64 &&& 63)) else 0))), none, some (.int (x6 + 1)), none]) eX11_placesFrom_89 rfl rfl (Nat.le_of_ble_eq_true rfl) rfl).run ?_
        refine (go_goto 6 eX11_placesFrom_92 rfl).run ?_
        exact (k2 h1)
      refine (br_ifeq_b 85 eX11_placesFrom_75 rfl).run (fun h17 => ?_) (fun h17 => ?_)
      · refine (go_lconst (v := 0) eX11_placesFrom_85 rfl).run ?_
        refine (go_sub (L' := [some (.ref 88), none, some (.int x2), some (.int x3), none, none, some (.int x6), none]) (lsub_keep (lsub_keep (lsub_keep (lsub_keep (lsub_drop (lsub_keep (lsub_keep (lsub_drop lsub_nil))))))))).run ?_
        first | exact hJh17 | (simp only [if_neg (h17)] at hJh17; exact hJh17) | (simp only [eq_false h17, not_false_eq_true, true_and, and_true, false_and, and_false, true_or, or_true, false_or, or_false, not_true_eq_false, not_false_eq_true] at hJh17; exact hJh17) | exact Run.eq (by simp [eq_false h17, not_false_eq_true, bI]) (by simp [eq_false h17, not_false_eq_true, bI]) rfl hJh17
      · refine (go_lconst (v := 1) eX11_placesFrom_78 rfl).run ?_
        refine (go_iload 6 eX11_placesFrom_79 rfl).run ?_
        refine (go_lshl eX11_placesFrom_81).run ?_
        refine (go_goto 86 eX11_placesFrom_82 rfl).run ?_
        refine (go_sub (L' := [some (.ref 88), none, some (.int x2), some (.int x3), none, none, some (.int x6), none]) (lsub_keep (lsub_keep (lsub_keep (lsub_keep (lsub_drop (lsub_keep (lsub_keep (lsub_drop lsub_nil))))))))).run ?_
        first | exact hJh17 | (simp only [if_pos h17] at hJh17; exact hJh17) | (simp only [eq_true h17, not_true_eq_false, true_and, and_true, false_and, and_false, true_or, or_true, false_or, or_false, not_true_eq_false, not_false_eq_true] at hJh17; exact hJh17) | exact Run.eq (by simp [eq_true h17, not_true_eq_false, bI]) (by simp [eq_true h17, not_true_eq_false, bI]) rfl hJh17
    refine (bz_eq 64 eX11_placesFrom_21 rfl).run (fun h2 => ?_) (fun h2 => ?_)
    · refine (go_iconst (v := 1) eX11_placesFrom_64 rfl).run ?_
      refine (go_goto 69 eX11_placesFrom_65 rfl).run ?_
      first | exact hJh2 | (simp only [if_pos h2] at hJh2; exact hJh2) | (simp only [eq_true h2, not_true_eq_false, true_and, and_true, false_and, and_false, true_or, or_true, false_or, or_false, not_true_eq_false, not_false_eq_true] at hJh2; exact hJh2) | exact Run.eq (by simp [eq_true h2, not_true_eq_false, bI]) (by simp [eq_true h2, not_true_eq_false, bI]) rfl hJh2
    · refine (go_iload_n 2 eX11_placesFrom_24 rfl rfl).run ?_
      refine (go_iconst (v := 1) eX11_placesFrom_25 rfl).run ?_
      have hJh3 : Run MX11_placesFrom d 69 [some (.ref 88), none, some (.int x2), some (.int x3), some (.long x4), none, some (.int x6), none] [.int (bI ((x2 = 1 ∧ (((x6 >>> (x3 &&& 31)) &&& 1) = 1 ∨ ((x2 = 2 ∧ ((x6 - x6 / 2 * 2) = 1 ∨ (x2 = 3 ∧ (x6 - x6 / 2 * 2) = 0))) ∨ ((¬ x2 = 2) ∧ (x2 = 3 ∧ (x6 - x6 / 2 * 2) = 0))))) ∨ ((¬ x2 = 1) ∧ ((x2 = 2 ∧ ((x6 - x6 / 2 * 2) = 1 ∨ (x2 = 3 ∧ (x6 - x6 / 2 * 2) = 0))) ∨ ((¬ x2 = 2) ∧ (x2 = 3 ∧ (x6 - x6 / 2 * 2) = 0))))))] σ Q := by
        first | exact hJh2 | (simp only [if_neg (h2)] at hJh2; exact hJh2) | (simp only [eq_false h2, not_false_eq_true, true_and, and_true, false_and, and_false, true_or, or_true, false_or, or_false, not_true_eq_false, not_false_eq_true] at hJh2; exact hJh2) | exact Run.eq (by simp [eq_false h2, not_false_eq_true, bI]) (by simp [eq_false h2, not_false_eq_true, bI]) rfl hJh2
      refine (bi_ne 39 eX11_placesFrom_26 rfl).run (fun h3 => ?_) (fun h3 => ?_)
      · refine (go_iload_n 2 eX11_placesFrom_39 rfl rfl).run ?_
        refine (go_iconst (v := 2) eX11_placesFrom_40 rfl).run ?_
        have hJh4 : Run MX11_placesFrom d 69 [some (.ref 88), none, some (.int x2), some (.int x3), some (.long x4), none, some (.int x6), none] [.int (bI ((x2 = 2 ∧ ((x6 - x6 / 2 * 2) = 1 ∨ (x2 = 3 ∧ (x6 - x6 / 2 * 2) = 0))) ∨ ((¬ x2 = 2) ∧ (x2 = 3 ∧ (x6 - x6 / 2 * 2) = 0))))] σ Q := by
          first | exact hJh3 | (simp only [if_neg (h3)] at hJh3; exact hJh3) | (simp only [eq_false h3, not_false_eq_true, true_and, and_true, false_and, and_false, true_or, or_true, false_or, or_false, not_true_eq_false, not_false_eq_true] at hJh3; exact hJh3) | exact Run.eq (by simp [eq_false h3, not_false_eq_true, bI]) (by simp [eq_false h3, not_false_eq_true, bI]) rfl hJh3
        refine (bi_ne 52 eX11_placesFrom_41 rfl).run (fun h4 => ?_) (fun h4 => ?_)
        · refine (go_iload_n 2 eX11_placesFrom_52 rfl rfl).run ?_
          refine (go_iconst (v := 3) eX11_placesFrom_53 rfl).run ?_
          have hJh5 : Run MX11_placesFrom d 69 [some (.ref 88), none, some (.int x2), some (.int x3), some (.long x4), none, some (.int x6), none] [.int (bI (x2 = 3 ∧ (x6 - x6 / 2 * 2) = 0))] σ Q := by
            first | exact hJh4 | (simp only [if_neg (h4)] at hJh4; exact hJh4) | (simp only [eq_false h4, not_false_eq_true, true_and, and_true, false_and, and_false, true_or, or_true, false_or, or_false, not_true_eq_false, not_false_eq_true] at hJh4; exact hJh4) | exact Run.eq (by simp [eq_false h4, not_false_eq_true, bI]) (by simp [eq_false h4, not_false_eq_true, bI]) rfl hJh4
          refine (bi_ne 68 eX11_placesFrom_54 rfl).run (fun h5 => ?_) (fun h5 => ?_)
          · refine (go_iconst (v := 0) eX11_placesFrom_68 rfl).run ?_
            first | exact hJh5 | (simp only [if_neg (h5)] at hJh5; exact hJh5) | (simp only [eq_false h5, not_false_eq_true, true_and, and_true, false_and, and_false, true_or, or_true, false_or, or_false, not_true_eq_false, not_false_eq_true] at hJh5; exact hJh5) | exact Run.eq (by simp [eq_false h5, not_false_eq_true, bI]) (by simp [eq_false h5, not_false_eq_true, bI]) rfl hJh5
          · refine (go_iload 6 eX11_placesFrom_57 rfl).run ?_
            refine (go_iconst (v := 2) eX11_placesFrom_59 rfl).run ?_
            refine (go_irem eX11_placesFrom_60 (by decide)).run ?_
            have hJh6 : Run MX11_placesFrom d 69 [some (.ref 88), none, some (.int x2), some (.int x3), some (.long x4), none, some (.int x6), none] [.int (bI ((x6 - x6 / 2 * 2) = 0))] σ Q := by
              first | exact hJh5 | (simp only [if_pos h5] at hJh5; exact hJh5) | (simp only [eq_true h5, not_true_eq_false, true_and, and_true, false_and, and_false, true_or, or_true, false_or, or_false, not_true_eq_false, not_false_eq_true] at hJh5; exact hJh5) | exact Run.eq (by simp [eq_true h5, not_true_eq_false, bI]) (by simp [eq_true h5, not_true_eq_false, bI]) rfl hJh5
            refine (bz_ne 68 eX11_placesFrom_61 rfl).run (fun h6 => ?_) (fun h6 => ?_)
            · refine (go_iconst (v := 0) eX11_placesFrom_68 rfl).run ?_
              first | exact hJh6 | (simp only [if_neg (h6)] at hJh6; exact hJh6) | (simp only [eq_false h6, not_false_eq_true, true_and, and_true, false_and, and_false, true_or, or_true, false_or, or_false, not_true_eq_false, not_false_eq_true] at hJh6; exact hJh6) | exact Run.eq (by simp [eq_false h6, not_false_eq_true, bI]) (by simp [eq_false h6, not_false_eq_true, bI]) rfl hJh6
            · refine (go_iconst (v := 1) eX11_placesFrom_64 rfl).run ?_
              refine (go_goto 69 eX11_placesFrom_65 rfl).run ?_
              first | exact hJh6 | (simp only [if_pos h6] at hJh6; exact hJh6) | (simp only [eq_true h6, not_true_eq_false, true_and, and_true, false_and, and_false, true_or, or_true, false_or, or_false, not_true_eq_false, not_false_eq_true] at hJh6; exact hJh6) | exact Run.eq (by simp [eq_true h6, not_true_eq_false, bI]) (by simp [eq_true h6, not_true_eq_false, bI]) rfl hJh6
        · refine (go_iload 6 eX11_placesFrom_44 rfl).run ?_
          refine (go_iconst (v := 2) eX11_placesFrom_46 rfl).run ?_
          refine (go_irem eX11_placesFrom_47 (by decide)).run ?_
          refine (go_iconst (v := 1) eX11_placesFrom_48 rfl).run ?_
          have hJh7 : Run MX11_placesFrom d 69 [some (.ref 88), none, some (.int x2), some (.int x3), some (.long x4), none, some (.int x6), none] [.int (bI ((x6 - x6 / 2 * 2) = 1 ∨ (x2 = 3 ∧ (x6 - x6 / 2 * 2) = 0)))] σ Q := by
            first | exact hJh4 | (simp only [if_pos h4] at hJh4; exact hJh4) | (simp only [eq_true h4, not_true_eq_false, true_and, and_true, false_and, and_false, true_or, or_true, false_or, or_false, not_true_eq_false, not_false_eq_true] at hJh4; exact hJh4) | exact Run.eq (by simp [eq_true h4, not_true_eq_false, bI]) (by simp [eq_true h4, not_true_eq_false, bI]) rfl hJh4
          refine (bi_eq 64 eX11_placesFrom_49 rfl).run (fun h7 => ?_) (fun h7 => ?_)
          · refine (go_iconst (v := 1) eX11_placesFrom_64 rfl).run ?_
            refine (go_goto 69 eX11_placesFrom_65 rfl).run ?_
            first | exact hJh7 | (simp only [if_pos h7] at hJh7; exact hJh7) | (simp only [eq_true h7, not_true_eq_false, true_and, and_true, false_and, and_false, true_or, or_true, false_or, or_false, not_true_eq_false, not_false_eq_true] at hJh7; exact hJh7) | exact Run.eq (by simp [eq_true h7, not_true_eq_false, bI]) (by simp [eq_true h7, not_true_eq_false, bI]) rfl hJh7
          · refine (go_iload_n 2 eX11_placesFrom_52 rfl rfl).run ?_
            refine (go_iconst (v := 3) eX11_placesFrom_53 rfl).run ?_
            have hJh8 : Run MX11_placesFrom d 69 [some (.ref 88), none, some (.int x2), some (.int x3), some (.long x4), none, some (.int x6), none] [.int (bI (x2 = 3 ∧ (x6 - x6 / 2 * 2) = 0))] σ Q := by
              first | exact hJh7 | (simp only [if_neg (h7)] at hJh7; exact hJh7) | (simp only [eq_false h7, not_false_eq_true, true_and, and_true, false_and, and_false, true_or, or_true, false_or, or_false, not_true_eq_false, not_false_eq_true] at hJh7; exact hJh7) | exact Run.eq (by simp [eq_false h7, not_false_eq_true, bI]) (by simp [eq_false h7, not_false_eq_true, bI]) rfl hJh7
            refine (bi_ne 68 eX11_placesFrom_54 rfl).run (fun h8 => ?_) (fun h8 => ?_)
            · refine (go_iconst (v := 0) eX11_placesFrom_68 rfl).run ?_
              first | exact hJh8 | (simp only [if_neg (h8)] at hJh8; exact hJh8) | (simp only [eq_false h8, not_false_eq_true, true_and, and_true, false_and, and_false, true_or, or_true, false_or, or_false, not_true_eq_false, not_false_eq_true] at hJh8; exact hJh8) | exact Run.eq (by simp [eq_false h8, not_false_eq_true, bI]) (by simp [eq_false h8, not_false_eq_true, bI]) rfl hJh8
            · refine (go_iload 6 eX11_placesFrom_57 rfl).run ?_
              refine (go_iconst (v := 2) eX11_placesFrom_59 rfl).run ?_
              refine (go_irem eX11_placesFrom_60 (by decide)).run ?_
              have hJh9 : Run MX11_placesFrom d 69 [some (.ref 88), none, some (.int x2), some (.int x3), some (.long x4), none, some (.int x6), none] [.int (bI ((x6 - x6 / 2 * 2) = 0))] σ Q := by
                first | exact hJh8 | (simp only [if_pos h8] at hJh8; exact hJh8) | (simp only [eq_true h8, not_true_eq_false, true_and, and_true, false_and, and_false, true_or, or_true, false_or, or_false, not_true_eq_false, not_false_eq_true] at hJh8; exact hJh8) | exact Run.eq (by simp [eq_true h8, not_true_eq_false, bI]) (by simp [eq_true h8, not_true_eq_false, bI]) rfl hJh8
              refine (bz_ne 68 eX11_placesFrom_61 rfl).run (fun h9 => ?_) (fun h9 => ?_)
              · refine (go_iconst (v := 0) eX11_placesFrom_68 rfl).run ?_
                first | exact hJh9 | (simp only [if_neg (h9)] at hJh9; exact hJh9) | (simp only [eq_false h9, not_false_eq_true, true_and, and_true, false_and, and_false, true_or, or_true, false_or, or_false, not_true_eq_false, not_false_eq_true] at hJh9; exact hJh9) | exact Run.eq (by simp [eq_false h9, not_false_eq_true, bI]) (by simp [eq_false h9, not_false_eq_true, bI]) rfl hJh9
              · refine (go_iconst (v := 1) eX11_placesFrom_64 rfl).run ?_
                refine (go_goto 69 eX11_placesFrom_65 rfl).run ?_
                first | exact hJh9 | (simp only [if_pos h9] at hJh9; exact hJh9) | (simp only [eq_true h9, not_true_eq_false, true_and, and_true, false_and, and_false, true_or, or_true, false_or, or_false, not_true_eq_false, not_false_eq_true] at hJh9; exact hJh9) | exact Run.eq (by simp [eq_true h9, not_true_eq_false, bI]) (by simp [eq_true h9, not_true_eq_false, bI]) rfl hJh9
      · refine (go_iload 6 eX11_placesFrom_29 rfl).run ?_
        refine (go_iload_n 3 eX11_placesFrom_31 rfl rfl).run ?_
        refine (go_ishr eX11_placesFrom_32).run ?_
        refine (go_iconst (v := 1) eX11_placesFrom_33 rfl).run ?_
        refine (go_iand eX11_placesFrom_34).run ?_
        refine (go_iconst (v := 1) eX11_placesFrom_35 rfl).run ?_
        have hJh10 : Run MX11_placesFrom d 69 [some (.ref 88), none, some (.int x2), some (.int x3), some (.long x4), none, some (.int x6), none] [.int (bI (((x6 >>> (x3 &&& 31)) &&& 1) = 1 ∨ ((x2 = 2 ∧ ((x6 - x6 / 2 * 2) = 1 ∨ (x2 = 3 ∧ (x6 - x6 / 2 * 2) = 0))) ∨ ((¬ x2 = 2) ∧ (x2 = 3 ∧ (x6 - x6 / 2 * 2) = 0)))))] σ Q := by
          first | exact hJh3 | (simp only [if_pos h3] at hJh3; exact hJh3) | (simp only [eq_true h3, not_true_eq_false, true_and, and_true, false_and, and_false, true_or, or_true, false_or, or_false, not_true_eq_false, not_false_eq_true] at hJh3; exact hJh3) | exact Run.eq (by simp [eq_true h3, not_true_eq_false, bI]) (by simp [eq_true h3, not_true_eq_false, bI]) rfl hJh3
        refine (bi_eq 64 eX11_placesFrom_36 rfl).run (fun h10 => ?_) (fun h10 => ?_)
        · refine (go_iconst (v := 1) eX11_placesFrom_64 rfl).run ?_
          refine (go_goto 69 eX11_placesFrom_65 rfl).run ?_
          first | exact hJh10 | (simp only [if_pos h10] at hJh10; exact hJh10) | (simp only [eq_true h10, not_true_eq_false, true_and, and_true, false_and, and_false, true_or, or_true, false_or, or_false, not_true_eq_false, not_false_eq_true] at hJh10; exact hJh10) | exact Run.eq (by simp [eq_true h10, not_true_eq_false, bI]) (by simp [eq_true h10, not_true_eq_false, bI]) rfl hJh10
        · refine (go_iload_n 2 eX11_placesFrom_39 rfl rfl).run ?_
          refine (go_iconst (v := 2) eX11_placesFrom_40 rfl).run ?_
          have hJh11 : Run MX11_placesFrom d 69 [some (.ref 88), none, some (.int x2), some (.int x3), some (.long x4), none, some (.int x6), none] [.int (bI ((x2 = 2 ∧ ((x6 - x6 / 2 * 2) = 1 ∨ (x2 = 3 ∧ (x6 - x6 / 2 * 2) = 0))) ∨ ((¬ x2 = 2) ∧ (x2 = 3 ∧ (x6 - x6 / 2 * 2) = 0))))] σ Q := by
            first | exact hJh10 | (simp only [if_neg (h10)] at hJh10; exact hJh10) | (simp only [eq_false h10, not_false_eq_true, true_and, and_true, false_and, and_false, true_or, or_true, false_or, or_false, not_true_eq_false, not_false_eq_true] at hJh10; exact hJh10) | exact Run.eq (by simp [eq_false h10, not_false_eq_true, bI]) (by simp [eq_false h10, not_false_eq_true, bI]) rfl hJh10
          refine (bi_ne 52 eX11_placesFrom_41 rfl).run (fun h11 => ?_) (fun h11 => ?_)
          · refine (go_iload_n 2 eX11_placesFrom_52 rfl rfl).run ?_
            refine (go_iconst (v := 3) eX11_placesFrom_53 rfl).run ?_
            have hJh12 : Run MX11_placesFrom d 69 [some (.ref 88), none, some (.int x2), some (.int x3), some (.long x4), none, some (.int x6), none] [.int (bI (x2 = 3 ∧ (x6 - x6 / 2 * 2) = 0))] σ Q := by
              first | exact hJh11 | (simp only [if_neg (h11)] at hJh11; exact hJh11) | (simp only [eq_false h11, not_false_eq_true, true_and, and_true, false_and, and_false, true_or, or_true, false_or, or_false, not_true_eq_false, not_false_eq_true] at hJh11; exact hJh11) | exact Run.eq (by simp [eq_false h11, not_false_eq_true, bI]) (by simp [eq_false h11, not_false_eq_true, bI]) rfl hJh11
            refine (bi_ne 68 eX11_placesFrom_54 rfl).run (fun h12 => ?_) (fun h12 => ?_)
            · refine (go_iconst (v := 0) eX11_placesFrom_68 rfl).run ?_
              first | exact hJh12 | (simp only [if_neg (h12)] at hJh12; exact hJh12) | (simp only [eq_false h12, not_false_eq_true, true_and, and_true, false_and, and_false, true_or, or_true, false_or, or_false, not_true_eq_false, not_false_eq_true] at hJh12; exact hJh12) | exact Run.eq (by simp [eq_false h12, not_false_eq_true, bI]) (by simp [eq_false h12, not_false_eq_true, bI]) rfl hJh12
            · refine (go_iload 6 eX11_placesFrom_57 rfl).run ?_
              refine (go_iconst (v := 2) eX11_placesFrom_59 rfl).run ?_
              refine (go_irem eX11_placesFrom_60 (by decide)).run ?_
              have hJh13 : Run MX11_placesFrom d 69 [some (.ref 88), none, some (.int x2), some (.int x3), some (.long x4), none, some (.int x6), none] [.int (bI ((x6 - x6 / 2 * 2) = 0))] σ Q := by
                first | exact hJh12 | (simp only [if_pos h12] at hJh12; exact hJh12) | (simp only [eq_true h12, not_true_eq_false, true_and, and_true, false_and, and_false, true_or, or_true, false_or, or_false, not_true_eq_false, not_false_eq_true] at hJh12; exact hJh12) | exact Run.eq (by simp [eq_true h12, not_true_eq_false, bI]) (by simp [eq_true h12, not_true_eq_false, bI]) rfl hJh12
              refine (bz_ne 68 eX11_placesFrom_61 rfl).run (fun h13 => ?_) (fun h13 => ?_)
              · refine (go_iconst (v := 0) eX11_placesFrom_68 rfl).run ?_
                first | exact hJh13 | (simp only [if_neg (h13)] at hJh13; exact hJh13) | (simp only [eq_false h13, not_false_eq_true, true_and, and_true, false_and, and_false, true_or, or_true, false_or, or_false, not_true_eq_false, not_false_eq_true] at hJh13; exact hJh13) | exact Run.eq (by simp [eq_false h13, not_false_eq_true, bI]) (by simp [eq_false h13, not_false_eq_true, bI]) rfl hJh13
              · refine (go_iconst (v := 1) eX11_placesFrom_64 rfl).run ?_
                refine (go_goto 69 eX11_placesFrom_65 rfl).run ?_
                first | exact hJh13 | (simp only [if_pos h13] at hJh13; exact hJh13) | (simp only [eq_true h13, not_true_eq_false, true_and, and_true, false_and, and_false, true_or, or_true, false_or, or_false, not_true_eq_false, not_false_eq_true] at hJh13; exact hJh13) | exact Run.eq (by simp [eq_true h13, not_true_eq_false, bI]) (by simp [eq_true h13, not_true_eq_false, bI]) rfl hJh13
          · refine (go_iload 6 eX11_placesFrom_44 rfl).run ?_
            refine (go_iconst (v := 2) eX11_placesFrom_46 rfl).run ?_
            refine (go_irem eX11_placesFrom_47 (by decide)).run ?_
            refine (go_iconst (v := 1) eX11_placesFrom_48 rfl).run ?_
            have hJh14 : Run MX11_placesFrom d 69 [some (.ref 88), none, some (.int x2), some (.int x3), some (.long x4), none, some (.int x6), none] [.int (bI ((x6 - x6 / 2 * 2) = 1 ∨ (x2 = 3 ∧ (x6 - x6 / 2 * 2) = 0)))] σ Q := by
              first | exact hJh11 | (simp only [if_pos h11] at hJh11; exact hJh11) | (simp only [eq_true h11, not_true_eq_false, true_and, and_true, false_and, and_false, true_or, or_true, false_or, or_false, not_true_eq_false, not_false_eq_true] at hJh11; exact hJh11) | exact Run.eq (by simp [eq_true h11, not_true_eq_false, bI]) (by simp [eq_true h11, not_true_eq_false, bI]) rfl hJh11
            refine (bi_eq 64 eX11_placesFrom_49 rfl).run (fun h14 => ?_) (fun h14 => ?_)
            · refine (go_iconst (v := 1) eX11_placesFrom_64 rfl).run ?_
              refine (go_goto 69 eX11_placesFrom_65 rfl).run ?_
              first | exact hJh14 | (simp only [if_pos h14] at hJh14; exact hJh14) | (simp only [eq_true h14, not_true_eq_false, true_and, and_true, false_and, and_false, true_or, or_true, false_or, or_false, not_true_eq_false, not_false_eq_true] at hJh14; exact hJh14) | exact Run.eq (by simp [eq_true h14, not_true_eq_false, bI]) (by simp [eq_true h14, not_true_eq_false, bI]) rfl hJh14
            · refine (go_iload_n 2 eX11_placesFrom_52 rfl rfl).run ?_
              refine (go_iconst (v := 3) eX11_placesFrom_53 rfl).run ?_
              have hJh15 : Run MX11_placesFrom d 69 [some (.ref 88), none, some (.int x2), some (.int x3), some (.long x4), none, some (.int x6), none] [.int (bI (x2 = 3 ∧ (x6 - x6 / 2 * 2) = 0))] σ Q := by
                first | exact hJh14 | (simp only [if_neg (h14)] at hJh14; exact hJh14) | (simp only [eq_false h14, not_false_eq_true, true_and, and_true, false_and, and_false, true_or, or_true, false_or, or_false, not_true_eq_false, not_false_eq_true] at hJh14; exact hJh14) | exact Run.eq (by simp [eq_false h14, not_false_eq_true, bI]) (by simp [eq_false h14, not_false_eq_true, bI]) rfl hJh14
              refine (bi_ne 68 eX11_placesFrom_54 rfl).run (fun h15 => ?_) (fun h15 => ?_)
              · refine (go_iconst (v := 0) eX11_placesFrom_68 rfl).run ?_
                first | exact hJh15 | (simp only [if_neg (h15)] at hJh15; exact hJh15) | (simp only [eq_false h15, not_false_eq_true, true_and, and_true, false_and, and_false, true_or, or_true, false_or, or_false, not_true_eq_false, not_false_eq_true] at hJh15; exact hJh15) | exact Run.eq (by simp [eq_false h15, not_false_eq_true, bI]) (by simp [eq_false h15, not_false_eq_true, bI]) rfl hJh15
              · refine (go_iload 6 eX11_placesFrom_57 rfl).run ?_
                refine (go_iconst (v := 2) eX11_placesFrom_59 rfl).run ?_
                refine (go_irem eX11_placesFrom_60 (by decide)).run ?_
                have hJh16 : Run MX11_placesFrom d 69 [some (.ref 88), none, some (.int x2), some (.int x3), some (.long x4), none, some (.int x6), none] [.int (bI ((x6 - x6 / 2 * 2) = 0))] σ Q := by
                  first | exact hJh15 | (simp only [if_pos h15] at hJh15; exact hJh15) | (simp only [eq_true h15, not_true_eq_false, true_and, and_true, false_and, and_false, true_or, or_true, false_or, or_false, not_true_eq_false, not_false_eq_true] at hJh15; exact hJh15) | exact Run.eq (by simp [eq_true h15, not_true_eq_false, bI]) (by simp [eq_true h15, not_true_eq_false, bI]) rfl hJh15
                refine (bz_ne 68 eX11_placesFrom_61 rfl).run (fun h16 => ?_) (fun h16 => ?_)
                · refine (go_iconst (v := 0) eX11_placesFrom_68 rfl).run ?_
                  first | exact hJh16 | (simp only [if_neg (h16)] at hJh16; exact hJh16) | (simp only [eq_false h16, not_false_eq_true, true_and, and_true, false_and, and_false, true_or, or_true, false_or, or_false, not_true_eq_false, not_false_eq_true] at hJh16; exact hJh16) | exact Run.eq (by simp [eq_false h16, not_false_eq_true, bI]) (by simp [eq_false h16, not_false_eq_true, bI]) rfl hJh16
                · refine (go_iconst (v := 1) eX11_placesFrom_64 rfl).run ?_
                  refine (go_goto 69 eX11_placesFrom_65 rfl).run ?_
                  first | exact hJh16 | (simp only [if_pos h16] at hJh16; exact hJh16) | (simp only [eq_true h16, not_true_eq_false, true_and, and_true, false_and, and_false, true_or, or_true, false_or, or_false, not_true_eq_false, not_false_eq_true] at hJh16; exact hJh16) | exact Run.eq (by simp [eq_true h16, not_true_eq_false, bI]) (by simp [eq_true h16, not_true_eq_false, bI]) rfl hJh16

/-! CarryNetsModel.upAndDown -/
theorem eX11_upAndDown_0 : decode MX11_upAndDown.2.1 0 = .ok (.iconst (-1), 1) := by decide +kernel
theorem eX11_upAndDown_1 : decode MX11_upAndDown.2.1 1 = .ok (.istore_n 2, 1) := by decide +kernel
theorem eX11_upAndDown_2 : decode MX11_upAndDown.2.1 2 = .ok (.iconst 0, 1) := by decide +kernel
theorem eX11_upAndDown_3 : decode MX11_upAndDown.2.1 3 = .ok (.istore_n 3, 1) := by decide +kernel
theorem eX11_upAndDown_4 : decode MX11_upAndDown.2.1 4 = .ok (.iconst 1, 1) := by decide +kernel
theorem eX11_upAndDown_5 : decode MX11_upAndDown.2.1 5 = .ok (.iload_n 3, 1) := by decide +kernel
theorem eX11_upAndDown_6 : decode MX11_upAndDown.2.1 6 = .ok (.iconst 1, 1) := by decide +kernel
theorem eX11_upAndDown_7 : decode MX11_upAndDown.2.1 7 = .ok (.iadd, 1) := by decide +kernel
theorem eX11_upAndDown_8 : decode MX11_upAndDown.2.1 8 = .ok (.ishl, 1) := by decide +kernel
theorem eX11_upAndDown_9 : decode MX11_upAndDown.2.1 9 = .ok (.iload_n 1, 1) := by decide +kernel
theorem eX11_upAndDown_10 : decode MX11_upAndDown.2.1 10 = .ok (.if_icmp .gt 61, 3) := by decide +kernel
theorem eX11_upAndDown_13 : decode MX11_upAndDown.2.1 13 = .ok (.lconst 0, 1) := by decide +kernel
theorem eX11_upAndDown_14 : decode MX11_upAndDown.2.1 14 = .ok (.lstore 4, 2) := by decide +kernel
theorem eX11_upAndDown_16 : decode MX11_upAndDown.2.1 16 = .ok (.iconst 0, 1) := by decide +kernel
theorem eX11_upAndDown_17 : decode MX11_upAndDown.2.1 17 = .ok (.istore 6, 2) := by decide +kernel
theorem eX11_upAndDown_19 : decode MX11_upAndDown.2.1 19 = .ok (.iload 6, 2) := by decide +kernel
theorem eX11_upAndDown_21 : decode MX11_upAndDown.2.1 21 = .ok (.iload_n 1, 1) := by decide +kernel
theorem eX11_upAndDown_22 : decode MX11_upAndDown.2.1 22 = .ok (.if_icmp .ge 35, 3) := by decide +kernel
theorem eX11_upAndDown_25 : decode MX11_upAndDown.2.1 25 = .ok (.lload 4, 2) := by decide +kernel
theorem eX11_upAndDown_27 : decode MX11_upAndDown.2.1 27 = .ok (.iload 6, 2) := by decide +kernel
theorem eX11_upAndDown_29 : decode MX11_upAndDown.2.1 29 = .ok (.iconst 1, 1) := by decide +kernel
theorem eX11_upAndDown_30 : decode MX11_upAndDown.2.1 30 = .ok (.iadd, 1) := by decide +kernel
theorem eX11_upAndDown_31 : decode MX11_upAndDown.2.1 31 = .ok (.iconst 1, 1) := by decide +kernel
theorem eX11_upAndDown_32 : decode MX11_upAndDown.2.1 32 = .ok (.iload_n 3, 1) := by decide +kernel
theorem eX11_upAndDown_33 : decode MX11_upAndDown.2.1 33 = .ok (.iconst 1, 1) := by decide +kernel
theorem eX11_upAndDown_34 : decode MX11_upAndDown.2.1 34 = .ok (.iadd, 1) := by decide +kernel
theorem eX11_upAndDown_35 : decode MX11_upAndDown.2.1 35 = .ok (.ishl, 1) := by decide +kernel
theorem eX11_upAndDown_36 : decode MX11_upAndDown.2.1 36 = .ok (.irem, 1) := by decide +kernel
theorem eX11_upAndDown_37 : decode MX11_upAndDown.2.1 37 = .ok (.ifCond .ne 10, 3) := by decide +kernel
theorem eX11_upAndDown_40 : decode MX11_upAndDown.2.1 40 = .ok (.lconst 1, 1) := by decide +kernel
theorem eX11_upAndDown_41 : decode MX11_upAndDown.2.1 41 = .ok (.iload 6, 2) := by decide +kernel
theorem eX11_upAndDown_43 : decode MX11_upAndDown.2.1 43 = .ok (.lshl, 1) := by decide +kernel
theorem eX11_upAndDown_44 : decode MX11_upAndDown.2.1 44 = .ok (.goto 4, 3) := by decide +kernel
theorem eX11_upAndDown_47 : decode MX11_upAndDown.2.1 47 = .ok (.lconst 0, 1) := by decide +kernel
theorem eX11_upAndDown_48 : decode MX11_upAndDown.2.1 48 = .ok (.lor, 1) := by decide +kernel
theorem eX11_upAndDown_49 : decode MX11_upAndDown.2.1 49 = .ok (.lstore 4, 2) := by decide +kernel
theorem eX11_upAndDown_51 : decode MX11_upAndDown.2.1 51 = .ok (.iinc 6 1, 3) := by decide +kernel
theorem eX11_upAndDown_54 : decode MX11_upAndDown.2.1 54 = .ok (.goto (-35), 3) := by decide +kernel
theorem eX11_upAndDown_57 : decode MX11_upAndDown.2.1 57 = .ok (.aload_n 0, 1) := by decide +kernel
theorem eX11_upAndDown_58 : decode MX11_upAndDown.2.1 58 = .ok (.lload 4, 2) := by decide +kernel
theorem eX11_upAndDown_60 : decode MX11_upAndDown.2.1 60 = .ok (.invokevirtual 162, 3) := by decide +kernel
theorem eX11_upAndDown_63 : decode MX11_upAndDown.2.1 63 = .ok (.iload_n 3, 1) := by decide +kernel
theorem eX11_upAndDown_64 : decode MX11_upAndDown.2.1 64 = .ok (.istore_n 2, 1) := by decide +kernel
theorem eX11_upAndDown_65 : decode MX11_upAndDown.2.1 65 = .ok (.iinc 3 1, 3) := by decide +kernel
theorem eX11_upAndDown_68 : decode MX11_upAndDown.2.1 68 = .ok (.goto (-64), 3) := by decide +kernel
theorem eX11_upAndDown_71 : decode MX11_upAndDown.2.1 71 = .ok (.iload_n 2, 1) := by decide +kernel
theorem eX11_upAndDown_72 : decode MX11_upAndDown.2.1 72 = .ok (.istore_n 3, 1) := by decide +kernel
theorem eX11_upAndDown_73 : decode MX11_upAndDown.2.1 73 = .ok (.iload_n 3, 1) := by decide +kernel
theorem eX11_upAndDown_74 : decode MX11_upAndDown.2.1 74 = .ok (.ifCond .lt 73, 3) := by decide +kernel
theorem eX11_upAndDown_77 : decode MX11_upAndDown.2.1 77 = .ok (.lconst 0, 1) := by decide +kernel
theorem eX11_upAndDown_78 : decode MX11_upAndDown.2.1 78 = .ok (.lstore 4, 2) := by decide +kernel
theorem eX11_upAndDown_80 : decode MX11_upAndDown.2.1 80 = .ok (.iconst 1, 1) := by decide +kernel
theorem eX11_upAndDown_81 : decode MX11_upAndDown.2.1 81 = .ok (.iload_n 3, 1) := by decide +kernel
theorem eX11_upAndDown_82 : decode MX11_upAndDown.2.1 82 = .ok (.iconst 1, 1) := by decide +kernel
theorem eX11_upAndDown_83 : decode MX11_upAndDown.2.1 83 = .ok (.iadd, 1) := by decide +kernel
theorem eX11_upAndDown_84 : decode MX11_upAndDown.2.1 84 = .ok (.ishl, 1) := by decide +kernel
theorem eX11_upAndDown_85 : decode MX11_upAndDown.2.1 85 = .ok (.istore 6, 2) := by decide +kernel
theorem eX11_upAndDown_87 : decode MX11_upAndDown.2.1 87 = .ok (.iload 6, 2) := by decide +kernel
theorem eX11_upAndDown_89 : decode MX11_upAndDown.2.1 89 = .ok (.iload_n 1, 1) := by decide +kernel
theorem eX11_upAndDown_90 : decode MX11_upAndDown.2.1 90 = .ok (.if_icmp .ge 45, 3) := by decide +kernel
theorem eX11_upAndDown_93 : decode MX11_upAndDown.2.1 93 = .ok (.lload 4, 2) := by decide +kernel
theorem eX11_upAndDown_95 : decode MX11_upAndDown.2.1 95 = .ok (.iload 6, 2) := by decide +kernel
theorem eX11_upAndDown_97 : decode MX11_upAndDown.2.1 97 = .ok (.iconst 1, 1) := by decide +kernel
theorem eX11_upAndDown_98 : decode MX11_upAndDown.2.1 98 = .ok (.iadd, 1) := by decide +kernel
theorem eX11_upAndDown_99 : decode MX11_upAndDown.2.1 99 = .ok (.iconst 1, 1) := by decide +kernel
theorem eX11_upAndDown_100 : decode MX11_upAndDown.2.1 100 = .ok (.iload_n 3, 1) := by decide +kernel
theorem eX11_upAndDown_101 : decode MX11_upAndDown.2.1 101 = .ok (.ishl, 1) := by decide +kernel
theorem eX11_upAndDown_102 : decode MX11_upAndDown.2.1 102 = .ok (.irem, 1) := by decide +kernel
theorem eX11_upAndDown_103 : decode MX11_upAndDown.2.1 103 = .ok (.ifCond .ne 22, 3) := by decide +kernel
theorem eX11_upAndDown_106 : decode MX11_upAndDown.2.1 106 = .ok (.iload 6, 2) := by decide +kernel
theorem eX11_upAndDown_108 : decode MX11_upAndDown.2.1 108 = .ok (.iconst 1, 1) := by decide +kernel
theorem eX11_upAndDown_109 : decode MX11_upAndDown.2.1 109 = .ok (.iadd, 1) := by decide +kernel
theorem eX11_upAndDown_110 : decode MX11_upAndDown.2.1 110 = .ok (.iload_n 3, 1) := by decide +kernel
theorem eX11_upAndDown_111 : decode MX11_upAndDown.2.1 111 = .ok (.ishr, 1) := by decide +kernel
theorem eX11_upAndDown_112 : decode MX11_upAndDown.2.1 112 = .ok (.iconst 2, 1) := by decide +kernel
theorem eX11_upAndDown_113 : decode MX11_upAndDown.2.1 113 = .ok (.irem, 1) := by decide +kernel
theorem eX11_upAndDown_114 : decode MX11_upAndDown.2.1 114 = .ok (.iconst 1, 1) := by decide +kernel
theorem eX11_upAndDown_115 : decode MX11_upAndDown.2.1 115 = .ok (.if_icmp .ne 10, 3) := by decide +kernel
theorem eX11_upAndDown_118 : decode MX11_upAndDown.2.1 118 = .ok (.lconst 1, 1) := by decide +kernel
theorem eX11_upAndDown_119 : decode MX11_upAndDown.2.1 119 = .ok (.iload 6, 2) := by decide +kernel
theorem eX11_upAndDown_121 : decode MX11_upAndDown.2.1 121 = .ok (.lshl, 1) := by decide +kernel
theorem eX11_upAndDown_122 : decode MX11_upAndDown.2.1 122 = .ok (.goto 4, 3) := by decide +kernel
theorem eX11_upAndDown_125 : decode MX11_upAndDown.2.1 125 = .ok (.lconst 0, 1) := by decide +kernel
theorem eX11_upAndDown_126 : decode MX11_upAndDown.2.1 126 = .ok (.lor, 1) := by decide +kernel
theorem eX11_upAndDown_127 : decode MX11_upAndDown.2.1 127 = .ok (.lstore 4, 2) := by decide +kernel
theorem eX11_upAndDown_129 : decode MX11_upAndDown.2.1 129 = .ok (.iinc 6 1, 3) := by decide +kernel
theorem eX11_upAndDown_132 : decode MX11_upAndDown.2.1 132 = .ok (.goto (-45), 3) := by decide +kernel
theorem eX11_upAndDown_135 : decode MX11_upAndDown.2.1 135 = .ok (.aload_n 0, 1) := by decide +kernel
theorem eX11_upAndDown_136 : decode MX11_upAndDown.2.1 136 = .ok (.lload 4, 2) := by decide +kernel
theorem eX11_upAndDown_138 : decode MX11_upAndDown.2.1 138 = .ok (.invokevirtual 162, 3) := by decide +kernel
theorem eX11_upAndDown_141 : decode MX11_upAndDown.2.1 141 = .ok (.iinc 3 (-1), 3) := by decide +kernel
theorem eX11_upAndDown_144 : decode MX11_upAndDown.2.1 144 = .ok (.goto (-71), 3) := by decide +kernel
theorem eX11_upAndDown_147 : decode MX11_upAndDown.2.1 147 = .ok (.return_, 1) := by decide +kernel
set_option maxRecDepth 20000 in
theorem bX11_upAndDown_0 {d : Nat} {Q : Option Value → St → Prop} (x1 : Int32) (σ : St) 
    (k1 : Run MX11_upAndDown (d + 2) 4 [some (.ref 88), some (.int x1), some (.int (-1)), some (.int 0), none, none, none] [] σ Q)
    : Run MX11_upAndDown (d + 2) 0 [some (.ref 88), some (.int x1), none, none, none, none, none] [] σ Q := by
  refine (go_iconst (v := -1) eX11_upAndDown_0 rfl).run ?_
  refine (go_istore_n 2 (L' := [some (.ref 88), some (.int x1), some (.int (-1)), none, none, none, none]) eX11_upAndDown_1 rfl (Nat.le_of_ble_eq_true rfl) rfl).run ?_
  refine (go_iconst (v := 0) eX11_upAndDown_2 rfl).run ?_
  refine (go_istore_n 3 (L' := [some (.ref 88), some (.int x1), some (.int (-1)), some (.int 0), none, none, none]) eX11_upAndDown_3 rfl (Nat.le_of_ble_eq_true rfl) rfl).run ?_
  exact k1

set_option maxRecDepth 20000 in
theorem bX11_upAndDown_4 {d : Nat} {Q : Option Value → St → Prop} (x1 : Int32) (x2 : Int32) (x3 : Int32) (σ : St) 
    (k1 : x1 < ((1 : Int32) <<< ((x3 + 1) &&& 31)) → Run MX11_upAndDown (d + 2) 73 [some (.ref 88), some (.int x1), none, some (.int x2), none, none, none] [] σ Q)
    (k2 : ((1 : Int32) <<< ((x3 + 1) &&& 31)) ≤ x1 → Run MX11_upAndDown (d + 2) 19 [some (.ref 88), some (.int x1), none, some (.int x3), some (.long 0), none, some (.int 0)] [] σ Q)
    : Run MX11_upAndDown (d + 2) 4 [some (.ref 88), some (.int x1), some (.int x2), some (.int x3), none, none, none] [] σ Q := by
  refine (go_iconst (v := 1) eX11_upAndDown_4 rfl).run ?_
  refine (go_iload_n 3 eX11_upAndDown_5 rfl rfl).run ?_
  refine (go_iconst (v := 1) eX11_upAndDown_6 rfl).run ?_
  refine (go_iadd eX11_upAndDown_7).run ?_
  refine (go_ishl eX11_upAndDown_8).run ?_
  refine (go_iload_n 1 eX11_upAndDown_9 rfl rfl).run ?_
  refine (bi_gt 71 eX11_upAndDown_10 rfl).run (fun h1 => ?_) (fun h1 => ?_)
  · refine (go_iload_n 2 eX11_upAndDown_71 rfl rfl).run ?_
    refine (go_istore_n 3 (L' := [some (.ref 88), some (.int x1), some (.int x2), some (.int x2), none, none, none]) eX11_upAndDown_72 rfl (Nat.le_of_ble_eq_true rfl) rfl).run ?_
    refine (go_sub (L' := [some (.ref 88), some (.int x1), none, some (.int x2), none, none, none]) (lsub_keep (lsub_keep (lsub_drop (lsub_keep (lsub_keep (lsub_keep (lsub_keep lsub_nil)))))))).run ?_
    exact (k1 h1)
  · refine (go_lconst (v := 0) eX11_upAndDown_13 rfl).run ?_
    refine (go_lstore 4 (L' := [some (.ref 88), some (.int x1), some (.int x2), some (.int x3), some (.long 0), none, none]) eX11_upAndDown_14 (Nat.le_of_ble_eq_true rfl) rfl).run ?_
    refine (go_iconst (v := 0) eX11_upAndDown_16 rfl).run ?_
    refine (go_istore 6 (L' := [some (.ref 88), some (.int x1), some (.int x2), some (.int x3), some (.long 0), none, some (.int 0)]) eX11_upAndDown_17 (Nat.le_of_ble_eq_true rfl) rfl).run ?_
    refine (go_sub (L' := [some (.ref 88), some (.int x1), none, some (.int x3), some (.long 0), none, some (.int 0)]) (lsub_keep (lsub_keep (lsub_drop (lsub_keep (lsub_keep (lsub_keep (lsub_keep lsub_nil)))))))).run ?_
    exact (k2 h1)

set_option maxRecDepth 20000 in
theorem bX11_upAndDown_73 {d : Nat} {Q : Option Value → St → Prop} (x1 : Int32) (x3 : Int32) (σ : St) 
    (k1 : x3 < 0 → Q (none) σ)
    (k2 : (0 : Int32) ≤ x3 → Run MX11_upAndDown (d + 2) 87 [some (.ref 88), some (.int x1), none, some (.int x3), some (.long 0), none, some (.int ((1 : Int32) <<< ((x3 + 1) &&& 31)))] [] σ Q)
    : Run MX11_upAndDown (d + 2) 73 [some (.ref 88), some (.int x1), none, some (.int x3), none, none, none] [] σ Q := by
  refine (go_iload_n 3 eX11_upAndDown_73 rfl rfl).run ?_
  refine (bz_lt 147 eX11_upAndDown_74 rfl).run (fun h1 => ?_) (fun h1 => ?_)
  · exact Run.ret (v := none) (k1 h1) ⟨rfl, eX11_upAndDown_147⟩ rfl
  · refine (go_lconst (v := 0) eX11_upAndDown_77 rfl).run ?_
    refine (go_lstore 4 (L' := [some (.ref 88), some (.int x1), none, some (.int x3), some (.long 0), none, none]) eX11_upAndDown_78 (Nat.le_of_ble_eq_true rfl) rfl).run ?_
    refine (go_iconst (v := 1) eX11_upAndDown_80 rfl).run ?_
    refine (go_iload_n 3 eX11_upAndDown_81 rfl rfl).run ?_
    refine (go_iconst (v := 1) eX11_upAndDown_82 rfl).run ?_
    refine (go_iadd eX11_upAndDown_83).run ?_
    refine (go_ishl eX11_upAndDown_84).run ?_
    refine (go_istore 6 (L' := [some (.ref 88), some (.int x1), none, some (.int x3), some (.long 0), none, some (.int ((1 : Int32) <<< ((x3 + 1) &&& 31)))]) eX11_upAndDown_85 (Nat.le_of_ble_eq_true rfl) rfl).run ?_
    exact (k2 h1)

set_option maxRecDepth 20000 in
theorem bX11_upAndDown_19 {d : Nat} {Q : Option Value → St → Prop} (x1 : Int32) (x3 : Int32) (x4 : Int64) (x6 : Int32) (σ : St) 
    (g1 : x6 < x1 → ¬ ((1 : Int32) <<< ((x3 + 1) &&& 31)) = 0)
    (k1 : x1 ≤ x6 → Ct yX11_comes MX11_comes (d + 1) [.ref 88, .long x4] σ (fun v σ1 => Run MX11_upAndDown (d + 2) 63 [some (.ref 88), some (.int x1), none, some (.int x3), none, none, none] (v.toList ++ []) σ1 Q))
    (k2 : x6 < x1 → Run MX11_upAndDown (d + 2) 19 [some (.ref 88), some (.int x1), none, some (.int x3), some (.long (x4 ||| (if ((x6 + 1) - (x6 + 1) / ((1 : Int32) <<< ((x3 + 1) &&& 31)) * ((1 : Int32) <<< ((x3 + 1) &&& 31))) = 0 then ((1 : Int64) <<< (x6.toInt64 &&& 63)) else 0))), none, some (.int (x6 + 1))] [] σ Q)
    : Run MX11_upAndDown (d + 2) 19 [some (.ref 88), some (.int x1), none, some (.int x3), some (.long x4), none, some (.int x6)] [] σ Q := by
  refine (go_iload 6 eX11_upAndDown_19 rfl).run ?_
  refine (go_iload_n 1 eX11_upAndDown_21 rfl rfl).run ?_
  refine (bi_ge 57 eX11_upAndDown_22 rfl).run (fun h1 => ?_) (fun h1 => ?_)
  · refine (go_aload_n 0 eX11_upAndDown_57 rfl rfl).run ?_
    refine (go_lload 4 eX11_upAndDown_58 rfl).run ?_
    refine (go_sub (L' := [some (.ref 88), some (.int x1), none, some (.int x3), none, none, none]) (lsub_keep (lsub_keep (lsub_keep (lsub_keep (lsub_drop (lsub_keep (lsub_drop lsub_nil)))))))).run ?_
    exact Run.callV (d := (d + 1)) (As := [.long x4]) mX11_comes lkX11_162 kd_88 (by decide) rfl rfl rfl rfl rfl (Nat.le_of_ble_eq_true rfl) eX11_upAndDown_60 (k1 h1)
  · refine (go_lload 4 eX11_upAndDown_25 rfl).run ?_
    refine (go_iload 6 eX11_upAndDown_27 rfl).run ?_
    refine (go_iconst (v := 1) eX11_upAndDown_29 rfl).run ?_
    refine (go_iadd eX11_upAndDown_30).run ?_
    refine (go_iconst (v := 1) eX11_upAndDown_31 rfl).run ?_
    refine (go_iload_n 3 eX11_upAndDown_32 rfl rfl).run ?_
    refine (go_iconst (v := 1) eX11_upAndDown_33 rfl).run ?_
    refine (go_iadd eX11_upAndDown_34).run ?_
    refine (go_ishl eX11_upAndDown_35).run ?_
    refine (go_irem eX11_upAndDown_36 (g1 h1)).run ?_
    have hJh2 : Run MX11_upAndDown (d + 2) 48 [some (.ref 88), some (.int x1), none, some (.int x3), none, none, some (.int x6)] [.long (if ((x6 + 1) - (x6 + 1) / ((1 : Int32) <<< ((x3 + 1) &&& 31)) * ((1 : Int32) <<< ((x3 + 1) &&& 31))) = 0 then ((1 : Int64) <<< (x6.toInt64 &&& 63)) else 0), .long x4] σ Q := by
      refine (go_lor eX11_upAndDown_48).run ?_
      refine (go_lstore 4 (L' := [some (.ref 88), some (.int x1), none, some (.int x3), some (.long (x4 ||| (if ((x6 + 1) - (x6 + 1) / ((1 : Int32) <<< ((x3 + 1) &&& 31)) * ((1 : Int32) <<< ((x3 + 1) &&& 31))) = 0 then ((1 : Int64) <<< (x6.toInt64 &&& 63)) else 0))), none, some (.int x6)]) eX11_upAndDown_49 (Nat.le_of_ble_eq_true rfl) rfl).run ?_
      refine (go_iinc 6 (v := (x6 + 1)) (L' := [some (.ref 88), some (.int x1), none, some (.int x3), some (.long (x4 ||| (if ((x6 + 1) - (x6 + 1) / ((1 : Int32) <<< ((x3 + 1) &&& 31)) * ((1 : Int32) <<< ((x3 + 1) &&& 31))) = 0 then ((1 : Int64) <<< (x6.toInt64 &&& 63)) else 0))), none, some (.int (x6 + 1))]) eX11_upAndDown_51 rfl rfl (Nat.le_of_ble_eq_true rfl) rfl).run ?_
      refine (go_goto 19 eX11_upAndDown_54 rfl).run ?_
      exact (k2 h1)
    refine (bz_ne 47 eX11_upAndDown_37 rfl).run (fun h2 => ?_) (fun h2 => ?_)
    · refine (go_lconst (v := 0) eX11_upAndDown_47 rfl).run ?_
      refine (go_sub (L' := [some (.ref 88), some (.int x1), none, some (.int x3), none, none, some (.int x6)]) (lsub_keep (lsub_keep (lsub_keep (lsub_keep (lsub_drop (lsub_keep (lsub_keep lsub_nil)))))))).run ?_
      first | exact hJh2 | (simp only [if_neg (h2)] at hJh2; exact hJh2) | (simp only [eq_false h2, not_false_eq_true, true_and, and_true, false_and, and_false, true_or, or_true, false_or, or_false, not_true_eq_false, not_false_eq_true] at hJh2; exact hJh2) | exact Run.eq (by simp [eq_false h2, not_false_eq_true, bI]) (by simp [eq_false h2, not_false_eq_true, bI]) rfl hJh2
    · refine (go_lconst (v := 1) eX11_upAndDown_40 rfl).run ?_
      refine (go_iload 6 eX11_upAndDown_41 rfl).run ?_
      refine (go_lshl eX11_upAndDown_43).run ?_
      refine (go_goto 48 eX11_upAndDown_44 rfl).run ?_
      refine (go_sub (L' := [some (.ref 88), some (.int x1), none, some (.int x3), none, none, some (.int x6)]) (lsub_keep (lsub_keep (lsub_keep (lsub_keep (lsub_drop (lsub_keep (lsub_keep lsub_nil)))))))).run ?_
      first | exact hJh2 | (simp only [if_pos h2] at hJh2; exact hJh2) | (simp only [eq_true h2, not_true_eq_false, true_and, and_true, false_and, and_false, true_or, or_true, false_or, or_false, not_true_eq_false, not_false_eq_true] at hJh2; exact hJh2) | exact Run.eq (by simp [eq_true h2, not_true_eq_false, bI]) (by simp [eq_true h2, not_true_eq_false, bI]) rfl hJh2

set_option maxRecDepth 20000 in
theorem bX11_upAndDown_87 {d : Nat} {Q : Option Value → St → Prop} (x1 : Int32) (x3 : Int32) (x4 : Int64) (x6 : Int32) (σ : St) 
    (g1 : x6 < x1 → ¬ ((1 : Int32) <<< (x3 &&& 31)) = 0)
    (k1 : x1 ≤ x6 → Ct yX11_comes MX11_comes (d + 1) [.ref 88, .long x4] σ (fun v σ1 => Run MX11_upAndDown (d + 2) 141 [some (.ref 88), some (.int x1), none, some (.int x3), none, none, none] (v.toList ++ []) σ1 Q))
    (k2 : x6 < x1 → Run MX11_upAndDown (d + 2) 87 [some (.ref 88), some (.int x1), none, some (.int x3), some (.long (x4 ||| (if ((x6 + 1) - (x6 + 1) / ((1 : Int32) <<< (x3 &&& 31)) * ((1 : Int32) <<< (x3 &&& 31))) = 0 then (if (((x6 + 1) >>> (x3 &&& 31)) - ((x6 + 1) >>> (x3 &&& 31)) / 2 * 2) = 1 then ((1 : Int64) <<< (x6.toInt64 &&& 63)) else 0) else 0))), none, some (.int (x6 + 1))] [] σ Q)
    : Run MX11_upAndDown (d + 2) 87 [some (.ref 88), some (.int x1), none, some (.int x3), some (.long x4), none, some (.int x6)] [] σ Q := by
  refine (go_iload 6 eX11_upAndDown_87 rfl).run ?_
  refine (go_iload_n 1 eX11_upAndDown_89 rfl rfl).run ?_
  refine (bi_ge 135 eX11_upAndDown_90 rfl).run (fun h1 => ?_) (fun h1 => ?_)
  · refine (go_aload_n 0 eX11_upAndDown_135 rfl rfl).run ?_
    refine (go_lload 4 eX11_upAndDown_136 rfl).run ?_
    refine (go_sub (L' := [some (.ref 88), some (.int x1), none, some (.int x3), none, none, none]) (lsub_keep (lsub_keep (lsub_keep (lsub_keep (lsub_drop (lsub_keep (lsub_drop lsub_nil)))))))).run ?_
    exact Run.callV (d := (d + 1)) (As := [.long x4]) mX11_comes lkX11_162 kd_88 (by decide) rfl rfl rfl rfl rfl (Nat.le_of_ble_eq_true rfl) eX11_upAndDown_138 (k1 h1)
  · refine (go_lload 4 eX11_upAndDown_93 rfl).run ?_
    refine (go_iload 6 eX11_upAndDown_95 rfl).run ?_
    refine (go_iconst (v := 1) eX11_upAndDown_97 rfl).run ?_
    refine (go_iadd eX11_upAndDown_98).run ?_
    refine (go_iconst (v := 1) eX11_upAndDown_99 rfl).run ?_
    refine (go_iload_n 3 eX11_upAndDown_100 rfl rfl).run ?_
    refine (go_ishl eX11_upAndDown_101).run ?_
    refine (go_irem eX11_upAndDown_102 (g1 h1)).run ?_
    have hJh2 : Run MX11_upAndDown (d + 2) 126 [some (.ref 88), some (.int x1), none, some (.int x3), none, none, some (.int x6)] [.long (if ((x6 + 1) - (x6 + 1) / ((1 : Int32) <<< (x3 &&& 31)) * ((1 : Int32) <<< (x3 &&& 31))) = 0 then (if (((x6 + 1) >>> (x3 &&& 31)) - ((x6 + 1) >>> (x3 &&& 31)) / 2 * 2) = 1 then ((1 : Int64) <<< (x6.toInt64 &&& 63)) else 0) else 0), .long x4] σ Q := by
      refine (go_lor eX11_upAndDown_126).run ?_
      refine (go_lstore 4 (L' := [some (.ref 88), some (.int x1), none, some (.int x3), some (.long (x4 ||| (if ((x6 + 1) - (x6 + 1) / ((1 : Int32) <<< (x3 &&& 31)) * ((1 : Int32) <<< (x3 &&& 31))) = 0 then (if (((x6 + 1) >>> (x3 &&& 31)) - ((x6 + 1) >>> (x3 &&& 31)) / 2 * 2) = 1 then ((1 : Int64) <<< (x6.toInt64 &&& 63)) else 0) else 0))), none, some (.int x6)]) eX11_upAndDown_127 (Nat.le_of_ble_eq_true rfl) rfl).run ?_
      refine (go_iinc 6 (v := (x6 + 1)) (L' := [some (.ref 88), some (.int x1), none, some (.int x3), some (.long (x4 ||| (if ((x6 + 1) - (x6 + 1) / ((1 : Int32) <<< (x3 &&& 31)) * ((1 : Int32) <<< (x3 &&& 31))) = 0 then (if (((x6 + 1) >>> (x3 &&& 31)) - ((x6 + 1) >>> (x3 &&& 31)) / 2 * 2) = 1 then ((1 : Int64) <<< (x6.toInt64 &&& 63)) else 0) else 0))), none, some (.int (x6 + 1))]) eX11_upAndDown_129 rfl rfl (Nat.le_of_ble_eq_true rfl) rfl).run ?_
      refine (go_goto 87 eX11_upAndDown_132 rfl).run ?_
      exact (k2 h1)
    refine (bz_ne 125 eX11_upAndDown_103 rfl).run (fun h2 => ?_) (fun h2 => ?_)
    · refine (go_lconst (v := 0) eX11_upAndDown_125 rfl).run ?_
      refine (go_sub (L' := [some (.ref 88), some (.int x1), none, some (.int x3), none, none, some (.int x6)]) (lsub_keep (lsub_keep (lsub_keep (lsub_keep (lsub_drop (lsub_keep (lsub_keep lsub_nil)))))))).run ?_
      first | exact hJh2 | (simp only [if_neg (h2)] at hJh2; exact hJh2) | (simp only [eq_false h2, not_false_eq_true, true_and, and_true, false_and, and_false, true_or, or_true, false_or, or_false, not_true_eq_false, not_false_eq_true] at hJh2; exact hJh2) | exact Run.eq (by simp [eq_false h2, not_false_eq_true, bI]) (by simp [eq_false h2, not_false_eq_true, bI]) rfl hJh2
    · refine (go_iload 6 eX11_upAndDown_106 rfl).run ?_
      refine (go_iconst (v := 1) eX11_upAndDown_108 rfl).run ?_
      refine (go_iadd eX11_upAndDown_109).run ?_
      refine (go_iload_n 3 eX11_upAndDown_110 rfl rfl).run ?_
      refine (go_ishr eX11_upAndDown_111).run ?_
      refine (go_iconst (v := 2) eX11_upAndDown_112 rfl).run ?_
      refine (go_irem eX11_upAndDown_113 (by decide)).run ?_
      refine (go_iconst (v := 1) eX11_upAndDown_114 rfl).run ?_
      have hJh3 : Run MX11_upAndDown (d + 2) 126 [some (.ref 88), some (.int x1), none, some (.int x3), none, none, some (.int x6)] [.long (if (((x6 + 1) >>> (x3 &&& 31)) - ((x6 + 1) >>> (x3 &&& 31)) / 2 * 2) = 1 then ((1 : Int64) <<< (x6.toInt64 &&& 63)) else 0), .long x4] σ Q := by
        first | exact hJh2 | (simp only [if_pos h2] at hJh2; exact hJh2) | (simp only [eq_true h2, not_true_eq_false, true_and, and_true, false_and, and_false, true_or, or_true, false_or, or_false, not_true_eq_false, not_false_eq_true] at hJh2; exact hJh2) | exact Run.eq (by simp [eq_true h2, not_true_eq_false, bI]) (by simp [eq_true h2, not_true_eq_false, bI]) rfl hJh2
      refine (bi_ne 125 eX11_upAndDown_115 rfl).run (fun h3 => ?_) (fun h3 => ?_)
      · refine (go_lconst (v := 0) eX11_upAndDown_125 rfl).run ?_
        refine (go_sub (L' := [some (.ref 88), some (.int x1), none, some (.int x3), none, none, some (.int x6)]) (lsub_keep (lsub_keep (lsub_keep (lsub_keep (lsub_drop (lsub_keep (lsub_keep lsub_nil)))))))).run ?_
        first | exact hJh3 | (simp only [if_neg (h3)] at hJh3; exact hJh3) | (simp only [eq_false h3, not_false_eq_true, true_and, and_true, false_and, and_false, true_or, or_true, false_or, or_false, not_true_eq_false, not_false_eq_true] at hJh3; exact hJh3) | exact Run.eq (by simp [eq_false h3, not_false_eq_true, bI]) (by simp [eq_false h3, not_false_eq_true, bI]) rfl hJh3
      · refine (go_lconst (v := 1) eX11_upAndDown_118 rfl).run ?_
        refine (go_iload 6 eX11_upAndDown_119 rfl).run ?_
        refine (go_lshl eX11_upAndDown_121).run ?_
        refine (go_goto 126 eX11_upAndDown_122 rfl).run ?_
        refine (go_sub (L' := [some (.ref 88), some (.int x1), none, some (.int x3), none, none, some (.int x6)]) (lsub_keep (lsub_keep (lsub_keep (lsub_keep (lsub_drop (lsub_keep (lsub_keep lsub_nil)))))))).run ?_
        first | exact hJh3 | (simp only [if_pos h3] at hJh3; exact hJh3) | (simp only [eq_true h3, not_true_eq_false, true_and, and_true, false_and, and_false, true_or, or_true, false_or, or_false, not_true_eq_false, not_false_eq_true] at hJh3; exact hJh3) | exact Run.eq (by simp [eq_true h3, not_true_eq_false, bI]) (by simp [eq_true h3, not_true_eq_false, bI]) rfl hJh3

set_option maxRecDepth 20000 in
theorem bX11_upAndDown_63 {d : Nat} {Q : Option Value → St → Prop} (x1 : Int32) (x3 : Int32) (σ : St) 
    (k1 : Run MX11_upAndDown (d + 2) 4 [some (.ref 88), some (.int x1), some (.int x3), some (.int (x3 + 1)), none, none, none] [] σ Q)
    : Run MX11_upAndDown (d + 2) 63 [some (.ref 88), some (.int x1), none, some (.int x3), none, none, none] [] σ Q := by
  refine (go_iload_n 3 eX11_upAndDown_63 rfl rfl).run ?_
  refine (go_istore_n 2 (L' := [some (.ref 88), some (.int x1), some (.int x3), some (.int x3), none, none, none]) eX11_upAndDown_64 rfl (Nat.le_of_ble_eq_true rfl) rfl).run ?_
  refine (go_iinc 3 (v := (x3 + 1)) (L' := [some (.ref 88), some (.int x1), some (.int x3), some (.int (x3 + 1)), none, none, none]) eX11_upAndDown_65 rfl rfl (Nat.le_of_ble_eq_true rfl) rfl).run ?_
  refine (go_goto 4 eX11_upAndDown_68 rfl).run ?_
  exact k1

set_option maxRecDepth 20000 in
theorem bX11_upAndDown_141 {d : Nat} {Q : Option Value → St → Prop} (x1 : Int32) (x3 : Int32) (σ : St) 
    (k1 : Run MX11_upAndDown (d + 2) 73 [some (.ref 88), some (.int x1), none, some (.int (x3 + (-1))), none, none, none] [] σ Q)
    : Run MX11_upAndDown (d + 2) 141 [some (.ref 88), some (.int x1), none, some (.int x3), none, none, none] [] σ Q := by
  refine (go_iinc 3 (v := (x3 + (-1))) (L' := [some (.ref 88), some (.int x1), none, some (.int (x3 + (-1))), none, none, none]) eX11_upAndDown_141 rfl rfl (Nat.le_of_ble_eq_true rfl) rfl).run ?_
  refine (go_goto 73 eX11_upAndDown_144 rfl).run ?_
  exact k1

/-! CarryNetsModel.net -/
theorem eX11_net_0 : decode MX11_net.2.1 0 = .ok (.iload_n 1, 1) := by decide +kernel
theorem eX11_net_1 : decode MX11_net.2.1 1 = .ok (.i2l, 1) := by decide +kernel
theorem eX11_net_2 : decode MX11_net.2.1 2 = .ok (.ldc2_w 155, 3) := by decide +kernel
theorem eX11_net_5 : decode MX11_net.2.1 5 = .ok (.ldc2_w 157, 3) := by decide +kernel
theorem eX11_net_8 : decode MX11_net.2.1 8 = .ok (.invokestatic 109, 3) := by decide +kernel
theorem eX11_net_11 : decode MX11_net.2.1 11 = .ok (.ifCond .eq 15, 3) := by decide +kernel
theorem eX11_net_14 : decode MX11_net.2.1 14 = .ok (.iload_n 2, 1) := by decide +kernel
theorem eX11_net_15 : decode MX11_net.2.1 15 = .ok (.i2l, 1) := by decide +kernel
theorem eX11_net_16 : decode MX11_net.2.1 16 = .ok (.lconst 0, 1) := by decide +kernel
theorem eX11_net_17 : decode MX11_net.2.1 17 = .ok (.ldc2_w 165, 3) := by decide +kernel
theorem eX11_net_20 : decode MX11_net.2.1 20 = .ok (.invokestatic 109, 3) := by decide +kernel
theorem eX11_net_23 : decode MX11_net.2.1 23 = .ok (.ifCond .ne 5, 3) := by decide +kernel
theorem eX11_net_26 : decode MX11_net.2.1 26 = .ok (.iconst (-1), 1) := by decide +kernel
theorem eX11_net_27 : decode MX11_net.2.1 27 = .ok (.ireturn, 1) := by decide +kernel
theorem eX11_net_28 : decode MX11_net.2.1 28 = .ok (.aload_n 0, 1) := by decide +kernel
theorem eX11_net_29 : decode MX11_net.2.1 29 = .ok (.getfield 106, 3) := by decide +kernel
theorem eX11_net_32 : decode MX11_net.2.1 32 = .ok (.bipush 8, 2) := by decide +kernel
theorem eX11_net_34 : decode MX11_net.2.1 34 = .ok (.if_icmp .ne 6, 3) := by decide +kernel
theorem eX11_net_37 : decode MX11_net.2.1 37 = .ok (.bipush (-3), 2) := by decide +kernel
theorem eX11_net_39 : decode MX11_net.2.1 39 = .ok (.ireturn, 1) := by decide +kernel
theorem eX11_net_40 : decode MX11_net.2.1 40 = .ok (.aload_n 0, 1) := by decide +kernel
theorem eX11_net_41 : decode MX11_net.2.1 41 = .ok (.getfield 7, 3) := by decide +kernel
theorem eX11_net_44 : decode MX11_net.2.1 44 = .ok (.aload_n 0, 1) := by decide +kernel
theorem eX11_net_45 : decode MX11_net.2.1 45 = .ok (.getfield 106, 3) := by decide +kernel
theorem eX11_net_48 : decode MX11_net.2.1 48 = .ok (.iload_n 1, 1) := by decide +kernel
theorem eX11_net_49 : decode MX11_net.2.1 49 = .ok (.iastore, 1) := by decide +kernel
theorem eX11_net_50 : decode MX11_net.2.1 50 = .ok (.aload_n 0, 1) := by decide +kernel
theorem eX11_net_51 : decode MX11_net.2.1 51 = .ok (.getfield 13, 3) := by decide +kernel
theorem eX11_net_54 : decode MX11_net.2.1 54 = .ok (.aload_n 0, 1) := by decide +kernel
theorem eX11_net_55 : decode MX11_net.2.1 55 = .ok (.getfield 106, 3) := by decide +kernel
theorem eX11_net_58 : decode MX11_net.2.1 58 = .ok (.iconst 0, 1) := by decide +kernel
theorem eX11_net_59 : decode MX11_net.2.1 59 = .ok (.iastore, 1) := by decide +kernel
theorem eX11_net_60 : decode MX11_net.2.1 60 = .ok (.aload_n 0, 1) := by decide +kernel
theorem eX11_net_61 : decode MX11_net.2.1 61 = .ok (.invokevirtual 91, 3) := by decide +kernel
theorem eX11_net_64 : decode MX11_net.2.1 64 = .ok (.iload_n 2, 1) := by decide +kernel
theorem eX11_net_65 : decode MX11_net.2.1 65 = .ok (.ifCond .ne 30, 3) := by decide +kernel
theorem eX11_net_68 : decode MX11_net.2.1 68 = .ok (.iconst 0, 1) := by decide +kernel
theorem eX11_net_69 : decode MX11_net.2.1 69 = .ok (.istore_n 3, 1) := by decide +kernel
theorem eX11_net_70 : decode MX11_net.2.1 70 = .ok (.iload_n 3, 1) := by decide +kernel
theorem eX11_net_71 : decode MX11_net.2.1 71 = .ok (.iconst 1, 1) := by decide +kernel
theorem eX11_net_72 : decode MX11_net.2.1 72 = .ok (.iadd, 1) := by decide +kernel
theorem eX11_net_73 : decode MX11_net.2.1 73 = .ok (.iload_n 1, 1) := by decide +kernel
theorem eX11_net_74 : decode MX11_net.2.1 74 = .ok (.if_icmp .ge 18, 3) := by decide +kernel
theorem eX11_net_77 : decode MX11_net.2.1 77 = .ok (.aload_n 0, 1) := by decide +kernel
theorem eX11_net_78 : decode MX11_net.2.1 78 = .ok (.lconst 1, 1) := by decide +kernel
theorem eX11_net_79 : decode MX11_net.2.1 79 = .ok (.iload_n 3, 1) := by decide +kernel
theorem eX11_net_80 : decode MX11_net.2.1 80 = .ok (.iconst 1, 1) := by decide +kernel
theorem eX11_net_81 : decode MX11_net.2.1 81 = .ok (.iadd, 1) := by decide +kernel
theorem eX11_net_82 : decode MX11_net.2.1 82 = .ok (.lshl, 1) := by decide +kernel
theorem eX11_net_83 : decode MX11_net.2.1 83 = .ok (.invokevirtual 162, 3) := by decide +kernel
theorem eX11_net_86 : decode MX11_net.2.1 86 = .ok (.iinc 3 1, 3) := by decide +kernel
theorem eX11_net_89 : decode MX11_net.2.1 89 = .ok (.goto (-19), 3) := by decide +kernel
theorem eX11_net_92 : decode MX11_net.2.1 92 = .ok (.goto 109, 3) := by decide +kernel
theorem eX11_net_95 : decode MX11_net.2.1 95 = .ok (.iload_n 2, 1) := by decide +kernel
theorem eX11_net_96 : decode MX11_net.2.1 96 = .ok (.iconst 3, 1) := by decide +kernel
theorem eX11_net_97 : decode MX11_net.2.1 97 = .ok (.if_icmp .ne 11, 3) := by decide +kernel
theorem eX11_net_100 : decode MX11_net.2.1 100 = .ok (.aload_n 0, 1) := by decide +kernel
theorem eX11_net_101 : decode MX11_net.2.1 101 = .ok (.iload_n 1, 1) := by decide +kernel
theorem eX11_net_102 : decode MX11_net.2.1 102 = .ok (.invokevirtual 167, 3) := by decide +kernel
theorem eX11_net_105 : decode MX11_net.2.1 105 = .ok (.goto 96, 3) := by decide +kernel
theorem eX11_net_108 : decode MX11_net.2.1 108 = .ok (.iload_n 2, 1) := by decide +kernel
theorem eX11_net_109 : decode MX11_net.2.1 109 = .ok (.iconst 4, 1) := by decide +kernel
theorem eX11_net_110 : decode MX11_net.2.1 110 = .ok (.if_icmp .ne 14, 3) := by decide +kernel
theorem eX11_net_113 : decode MX11_net.2.1 113 = .ok (.aload_n 0, 1) := by decide +kernel
theorem eX11_net_114 : decode MX11_net.2.1 114 = .ok (.aload_n 0, 1) := by decide +kernel
theorem eX11_net_115 : decode MX11_net.2.1 115 = .ok (.iconst 0, 1) := by decide +kernel
theorem eX11_net_116 : decode MX11_net.2.1 116 = .ok (.iconst 2, 1) := by decide +kernel
theorem eX11_net_117 : decode MX11_net.2.1 117 = .ok (.iconst 0, 1) := by decide +kernel
theorem eX11_net_118 : decode MX11_net.2.1 118 = .ok (.invokevirtual 171, 3) := by decide +kernel
theorem eX11_net_121 : decode MX11_net.2.1 121 = .ok (.invokevirtual 162, 3) := by decide +kernel
theorem eX11_net_124 : decode MX11_net.2.1 124 = .ok (.iload_n 2, 1) := by decide +kernel
theorem eX11_net_125 : decode MX11_net.2.1 125 = .ok (.iconst 4, 1) := by decide +kernel
theorem eX11_net_126 : decode MX11_net.2.1 126 = .ok (.if_icmp .ne 7, 3) := by decide +kernel
theorem eX11_net_129 : decode MX11_net.2.1 129 = .ok (.iconst 1, 1) := by decide +kernel
theorem eX11_net_130 : decode MX11_net.2.1 130 = .ok (.goto 4, 3) := by decide +kernel
theorem eX11_net_133 : decode MX11_net.2.1 133 = .ok (.iconst 0, 1) := by decide +kernel
theorem eX11_net_134 : decode MX11_net.2.1 134 = .ok (.istore_n 3, 1) := by decide +kernel
theorem eX11_net_135 : decode MX11_net.2.1 135 = .ok (.iconst 1, 1) := by decide +kernel
theorem eX11_net_136 : decode MX11_net.2.1 136 = .ok (.iload_n 3, 1) := by decide +kernel
theorem eX11_net_137 : decode MX11_net.2.1 137 = .ok (.ishl, 1) := by decide +kernel
theorem eX11_net_138 : decode MX11_net.2.1 138 = .ok (.iload_n 1, 1) := by decide +kernel
theorem eX11_net_139 : decode MX11_net.2.1 139 = .ok (.if_icmp .ge 46, 3) := by decide +kernel
theorem eX11_net_142 : decode MX11_net.2.1 142 = .ok (.aload_n 0, 1) := by decide +kernel
theorem eX11_net_143 : decode MX11_net.2.1 143 = .ok (.iload_n 2, 1) := by decide +kernel
theorem eX11_net_144 : decode MX11_net.2.1 144 = .ok (.iconst 1, 1) := by decide +kernel
theorem eX11_net_145 : decode MX11_net.2.1 145 = .ok (.if_icmp .ne 13, 3) := by decide +kernel
theorem eX11_net_148 : decode MX11_net.2.1 148 = .ok (.aload_n 0, 1) := by decide +kernel
theorem eX11_net_149 : decode MX11_net.2.1 149 = .ok (.iconst 0, 1) := by decide +kernel
theorem eX11_net_150 : decode MX11_net.2.1 150 = .ok (.iconst 1, 1) := by decide +kernel
theorem eX11_net_151 : decode MX11_net.2.1 151 = .ok (.iload_n 3, 1) := by decide +kernel
theorem eX11_net_152 : decode MX11_net.2.1 152 = .ok (.invokevirtual 171, 3) := by decide +kernel
theorem eX11_net_155 : decode MX11_net.2.1 155 = .ok (.goto 21, 3) := by decide +kernel
theorem eX11_net_158 : decode MX11_net.2.1 158 = .ok (.aload_n 0, 1) := by decide +kernel
theorem eX11_net_159 : decode MX11_net.2.1 159 = .ok (.iconst 1, 1) := by decide +kernel
theorem eX11_net_160 : decode MX11_net.2.1 160 = .ok (.iload_n 3, 1) := by decide +kernel
theorem eX11_net_161 : decode MX11_net.2.1 161 = .ok (.ishl, 1) := by decide +kernel
theorem eX11_net_162 : decode MX11_net.2.1 162 = .ok (.iload_n 2, 1) := by decide +kernel
theorem eX11_net_163 : decode MX11_net.2.1 163 = .ok (.iconst 2, 1) := by decide +kernel
theorem eX11_net_164 : decode MX11_net.2.1 164 = .ok (.if_icmp .ne 7, 3) := by decide +kernel
theorem eX11_net_167 : decode MX11_net.2.1 167 = .ok (.iconst 0, 1) := by decide +kernel
theorem eX11_net_168 : decode MX11_net.2.1 168 = .ok (.goto 4, 3) := by decide +kernel
theorem eX11_net_171 : decode MX11_net.2.1 171 = .ok (.iconst 2, 1) := by decide +kernel
theorem eX11_net_172 : decode MX11_net.2.1 172 = .ok (.iload_n 3, 1) := by decide +kernel
theorem eX11_net_173 : decode MX11_net.2.1 173 = .ok (.invokevirtual 171, 3) := by decide +kernel
theorem eX11_net_176 : decode MX11_net.2.1 176 = .ok (.invokevirtual 162, 3) := by decide +kernel
theorem eX11_net_179 : decode MX11_net.2.1 179 = .ok (.iinc 3 1, 3) := by decide +kernel
theorem eX11_net_182 : decode MX11_net.2.1 182 = .ok (.goto (-47), 3) := by decide +kernel
theorem eX11_net_185 : decode MX11_net.2.1 185 = .ok (.iload_n 2, 1) := by decide +kernel
theorem eX11_net_186 : decode MX11_net.2.1 186 = .ok (.iconst 4, 1) := by decide +kernel
theorem eX11_net_187 : decode MX11_net.2.1 187 = .ok (.if_icmp .ne 14, 3) := by decide +kernel
theorem eX11_net_190 : decode MX11_net.2.1 190 = .ok (.aload_n 0, 1) := by decide +kernel
theorem eX11_net_191 : decode MX11_net.2.1 191 = .ok (.aload_n 0, 1) := by decide +kernel
theorem eX11_net_192 : decode MX11_net.2.1 192 = .ok (.iconst 2, 1) := by decide +kernel
theorem eX11_net_193 : decode MX11_net.2.1 193 = .ok (.iconst 3, 1) := by decide +kernel
theorem eX11_net_194 : decode MX11_net.2.1 194 = .ok (.iconst 0, 1) := by decide +kernel
theorem eX11_net_195 : decode MX11_net.2.1 195 = .ok (.invokevirtual 171, 3) := by decide +kernel
theorem eX11_net_198 : decode MX11_net.2.1 198 = .ok (.invokevirtual 162, 3) := by decide +kernel
theorem eX11_net_201 : decode MX11_net.2.1 201 = .ok (.aload_n 0, 1) := by decide +kernel
theorem eX11_net_202 : decode MX11_net.2.1 202 = .ok (.dup, 1) := by decide +kernel
theorem eX11_net_203 : decode MX11_net.2.1 203 = .ok (.getfield 106, 3) := by decide +kernel
theorem eX11_net_206 : decode MX11_net.2.1 206 = .ok (.iconst 1, 1) := by decide +kernel
theorem eX11_net_207 : decode MX11_net.2.1 207 = .ok (.iadd, 1) := by decide +kernel
theorem eX11_net_208 : decode MX11_net.2.1 208 = .ok (.putfield 106, 3) := by decide +kernel
theorem eX11_net_211 : decode MX11_net.2.1 211 = .ok (.aload_n 0, 1) := by decide +kernel
theorem eX11_net_212 : decode MX11_net.2.1 212 = .ok (.getfield 106, 3) := by decide +kernel
theorem eX11_net_215 : decode MX11_net.2.1 215 = .ok (.iconst 1, 1) := by decide +kernel
theorem eX11_net_216 : decode MX11_net.2.1 216 = .ok (.isub, 1) := by decide +kernel
theorem eX11_net_217 : decode MX11_net.2.1 217 = .ok (.ireturn, 1) := by decide +kernel
set_option maxRecDepth 20000 in
theorem bX11_net_0 {d : Nat} {Q : Option Value → St → Prop} (x1 : Int32) (x2 : Int32) (σ : St) 
    (g1 : ((2 : Int64) ≤ x1.toInt64 ∧ x1.toInt64 ≤ (32 : Int64)) → ((0 : Int64) ≤ x2.toInt64 ∧ x2.toInt64 ≤ (4 : Int64)) → ¬ (σ.1 88 0) = 8 → vp_in (σ.1 88 0) 8)
    (k1 : (¬ ((2 : Int64) ≤ x1.toInt64 ∧ x1.toInt64 ≤ (32 : Int64))) → Q (some (.int (-1))) σ)
    (k2 : ((2 : Int64) ≤ x1.toInt64 ∧ x1.toInt64 ≤ (32 : Int64)) → ((0 : Int64) ≤ x2.toInt64 ∧ x2.toInt64 ≤ (4 : Int64)) → ¬ (σ.1 88 0) = 8 → Ct yX11_begins MX11_begins (d + 2) [.ref 88] (sA (sA σ 89 (upd (σ.1 89) (σ.1 88 0).toNatClampNeg x1)) 90 (upd (σ.1 90) (σ.1 88 0).toNatClampNeg 0)) (fun v σ1 => Run MX11_net (d + 3) 64 [some (.ref 88), some (.int x1), some (.int x2), none] (v.toList ++ []) σ1 Q))
    (k3 : ((2 : Int64) ≤ x1.toInt64 ∧ x1.toInt64 ≤ (32 : Int64)) → ((0 : Int64) ≤ x2.toInt64 ∧ x2.toInt64 ≤ (4 : Int64)) → (σ.1 88 0) = 8 → Q (some (.int (-3))) σ)
    (k4 : ((2 : Int64) ≤ x1.toInt64 ∧ x1.toInt64 ≤ (32 : Int64)) → (¬ ((0 : Int64) ≤ x2.toInt64 ∧ x2.toInt64 ≤ (4 : Int64))) → Q (some (.int (-1))) σ)
    : Run MX11_net (d + 3) 0 [some (.ref 88), some (.int x1), some (.int x2), none] [] σ Q := by
  refine (go_iload_n 1 eX11_net_0 rfl rfl).run ?_
  refine (go_i2l eX11_net_1).run ?_
  refine (go_ldc2 csX11_155 eX11_net_2).run ?_
  refine (go_ldc2 csX11_157 eX11_net_5).run ?_
  refine Run.callS1 (d := (d + 2)) (As := [.long x1.toInt64, .long (2), .long (32)]) (r := .int (bI ((2 : Int64) ≤ x1.toInt64 ∧ x1.toInt64 ≤ (32 : Int64)))) mX11_in lkX11_109 rfl rfl rfl (Nat.le_of_ble_eq_true rfl) eX11_net_8 (qX11_in (d + 2) x1.toInt64 (2 : Int64) (32 : Int64) σ  ) ?_
  refine (br_ifeq_b 26 eX11_net_11 rfl).run (fun h1 => ?_) (fun h1 => ?_)
  · refine (go_iconst (v := -1) eX11_net_26 rfl).run ?_
    exact Run.ret (v := some (.int (-1))) (k1 h1) ⟨Or.inl rfl, eX11_net_27⟩ rfl
  · refine (go_iload_n 2 eX11_net_14 rfl rfl).run ?_
    refine (go_i2l eX11_net_15).run ?_
    refine (go_lconst (v := 0) eX11_net_16 rfl).run ?_
    refine (go_ldc2 csX11_165 eX11_net_17).run ?_
    refine Run.callS1 (d := (d + 2)) (As := [.long x2.toInt64, .long 0, .long (4)]) (r := .int (bI ((0 : Int64) ≤ x2.toInt64 ∧ x2.toInt64 ≤ (4 : Int64)))) mX11_in lkX11_109 rfl rfl rfl (Nat.le_of_ble_eq_true rfl) eX11_net_20 (qX11_in (d + 2) x2.toInt64 (0 : Int64) (4 : Int64) σ  ) ?_
    refine (br_ifne_b 28 eX11_net_23 rfl).run (fun h2 => ?_) (fun h2 => ?_)
    · refine (go_aload_n 0 eX11_net_28 rfl rfl).run ?_
      refine (go_geti flX11_106 rf_10_0 kd_88 eX11_net_29).run ?_
      refine (go_bipush (v := 8) eX11_net_32 rfl).run ?_
      refine (bi_ne 40 eX11_net_34 rfl).run (fun h3 => ?_) (fun h3 => ?_)
      · refine (go_aload_n 0 eX11_net_40 rfl rfl).run ?_
        refine (go_getr flX11_7 rf_10_1 kd_88 gr_88_1 eX11_net_41).run ?_
        refine (go_aload_n 0 eX11_net_44 rfl rfl).run ?_
        refine (go_geti flX11_106 rf_10_0 kd_88 eX11_net_45).run ?_
        refine (go_iload_n 1 eX11_net_48 rfl rfl).run ?_
        refine (go_iast kd_89 ln_89 (g1 h1 h2 h3) eX11_net_49).run ?_
        refine (go_aload_n 0 eX11_net_50 rfl rfl).run ?_
        refine (go_getr flX11_13 rf_10_2 kd_88 gr_88_2 eX11_net_51).run ?_
        refine (go_aload_n 0 eX11_net_54 rfl rfl).run ?_
        refine (go_geti flX11_106 rf_10_0 kd_88 eX11_net_55).run ?_
        refine (go_iconst (v := 0) eX11_net_58 rfl).run ?_
        refine (go_iast kd_90 ln_90 (g1 h1 h2 h3) eX11_net_59).run ?_
        refine (go_aload_n 0 eX11_net_60 rfl rfl).run ?_
        exact Run.callV (d := (d + 2)) (As := []) mX11_begins lkX11_91 kd_88 (by decide) rfl rfl rfl rfl rfl (Nat.le_of_ble_eq_true rfl) eX11_net_61 (k2 h1 h2 h3)
      · refine (go_bipush (v := -3) eX11_net_37 rfl).run ?_
        exact Run.ret (v := some (.int (-3))) (k3 h1 h2 h3) ⟨Or.inl rfl, eX11_net_39⟩ rfl
    · refine (go_iconst (v := -1) eX11_net_26 rfl).run ?_
      exact Run.ret (v := some (.int (-1))) (k4 h1 h2) ⟨Or.inl rfl, eX11_net_27⟩ rfl

set_option maxRecDepth 20000 in
theorem bX11_net_64 {d : Nat} {Q : Option Value → St → Prop} (x1 : Int32) (x2 : Int32) (σ : St) 
    (k1 : ¬ x2 = 0 → ¬ x2 = 3 → ¬ x2 = 4 → Run MX11_net (d + 3) 135 [some (.ref 88), some (.int x1), some (.int x2), some (.int (bI (x2 = 4)))] [] σ Q)
    (k2 : ¬ x2 = 0 → ¬ x2 = 3 → x2 = 4 → Ct yX11_placesFrom MX11_placesFrom (d + 2) [.ref 88, .int 0, .int 2, .int 0] σ (fun v σ1 => Run MX11_net (d + 3) 121 [some (.ref 88), some (.int x1), some (.int x2), none] (v.toList ++ [.ref 88]) σ1 Q))
    (k3 : ¬ x2 = 0 → x2 = 3 → Ct yX11_upAndDown MX11_upAndDown (d + 2) [.ref 88, .int x1] σ (fun v σ1 => Run MX11_net (d + 3) 105 [some (.ref 88), none, none, none] (v.toList ++ []) σ1 Q))
    (k4 : x2 = 0 → Run MX11_net (d + 3) 70 [some (.ref 88), some (.int x1), none, some (.int 0)] [] σ Q)
    : Run MX11_net (d + 3) 64 [some (.ref 88), some (.int x1), some (.int x2), none] [] σ Q := by
  refine (go_iload_n 2 eX11_net_64 rfl rfl).run ?_
  refine (bz_ne 95 eX11_net_65 rfl).run (fun h1 => ?_) (fun h1 => ?_)
  · refine (go_iload_n 2 eX11_net_95 rfl rfl).run ?_
    refine (go_iconst (v := 3) eX11_net_96 rfl).run ?_
    refine (bi_ne 108 eX11_net_97 rfl).run (fun h2 => ?_) (fun h2 => ?_)
    · refine (go_iload_n 2 eX11_net_108 rfl rfl).run ?_
      refine (go_iconst (v := 4) eX11_net_109 rfl).run ?_
      refine (bi_ne 124 eX11_net_110 rfl).run (fun h3 => ?_) (fun h3 => ?_)
      · refine (go_iload_n 2 eX11_net_124 rfl rfl).run ?_
        refine (go_iconst (v := 4) eX11_net_125 rfl).run ?_
        have hJh4 : Run MX11_net (d + 3) 134 [some (.ref 88), some (.int x1), some (.int x2), none] [.int (bI (x2 = 4))] σ Q := by
          refine (go_istore_n 3 (L' := [some (.ref 88), some (.int x1), some (.int x2), some (.int (bI (x2 = 4)))]) eX11_net_134 rfl (Nat.le_of_ble_eq_true rfl) rfl).run ?_
          exact (k1 h1 h2 h3)
        refine (bi_ne 133 eX11_net_126 rfl).run (fun h4 => ?_) (fun h4 => ?_)
        · refine (go_iconst (v := 0) eX11_net_133 rfl).run ?_
          first | exact hJh4 | (simp only [if_neg (h4)] at hJh4; exact hJh4) | (simp only [eq_false h4, not_false_eq_true, true_and, and_true, false_and, and_false, true_or, or_true, false_or, or_false, not_true_eq_false, not_false_eq_true] at hJh4; exact hJh4) | exact Run.eq (by simp [eq_false h4, not_false_eq_true, bI]) (by simp [eq_false h4, not_false_eq_true, bI]) rfl hJh4
        · refine (go_iconst (v := 1) eX11_net_129 rfl).run ?_
          refine (go_goto 134 eX11_net_130 rfl).run ?_
          first | exact hJh4 | (simp only [if_pos h4] at hJh4; exact hJh4) | (simp only [eq_true h4, not_true_eq_false, true_and, and_true, false_and, and_false, true_or, or_true, false_or, or_false, not_true_eq_false, not_false_eq_true] at hJh4; exact hJh4) | exact Run.eq (by simp [eq_true h4, not_true_eq_false, bI]) (by simp [eq_true h4, not_true_eq_false, bI]) rfl hJh4
      · refine (go_aload_n 0 eX11_net_113 rfl rfl).run ?_
        refine (go_aload_n 0 eX11_net_114 rfl rfl).run ?_
        refine (go_iconst (v := 0) eX11_net_115 rfl).run ?_
        refine (go_iconst (v := 2) eX11_net_116 rfl).run ?_
        refine (go_iconst (v := 0) eX11_net_117 rfl).run ?_
        exact Run.callV (d := (d + 2)) (As := [.int 0, .int 2, .int 0]) mX11_placesFrom lkX11_171 kd_88 (by decide) rfl rfl rfl rfl rfl (Nat.le_of_ble_eq_true rfl) eX11_net_118 (k2 h1 h2 h3)
    · refine (go_aload_n 0 eX11_net_100 rfl rfl).run ?_
      refine (go_iload_n 1 eX11_net_101 rfl rfl).run ?_
      refine (go_sub (L' := [some (.ref 88), none, none, none]) (lsub_keep (lsub_drop (lsub_drop (lsub_keep lsub_nil))))).run ?_
      exact Run.callV (d := (d + 2)) (As := [.int x1]) mX11_upAndDown lkX11_167 kd_88 (by decide) rfl rfl rfl rfl rfl (Nat.le_of_ble_eq_true rfl) eX11_net_102 (k3 h1 h2)
  · refine (go_iconst (v := 0) eX11_net_68 rfl).run ?_
    refine (go_istore_n 3 (L' := [some (.ref 88), some (.int x1), some (.int x2), some (.int 0)]) eX11_net_69 rfl (Nat.le_of_ble_eq_true rfl) rfl).run ?_
    refine (go_sub (L' := [some (.ref 88), some (.int x1), none, some (.int 0)]) (lsub_keep (lsub_keep (lsub_drop (lsub_keep lsub_nil))))).run ?_
    exact (k4 h1)

set_option maxRecDepth 20000 in
theorem bX11_net_135 {d : Nat} {Q : Option Value → St → Prop} (x1 : Int32) (x2 : Int32) (x3 : Int32) (σ : St) 
    (k1 : x1 ≤ ((1 : Int32) <<< (x3 &&& 31)) → ¬ x2 = 4 → Q (some (.int ((((σ.1 88 0) + 1)) - 1))) (sA σ 88 (upd (σ.1 88) 0 ((σ.1 88 0) + 1))))
    (k2 : x1 ≤ ((1 : Int32) <<< (x3 &&& 31)) → x2 = 4 → Ct yX11_placesFrom MX11_placesFrom (d + 2) [.ref 88, .int 2, .int 3, .int 0] σ (fun v σ1 => Run MX11_net (d + 3) 198 [some (.ref 88), none, none, none] (v.toList ++ [.ref 88]) σ1 Q))
    (k3 : ((1 : Int32) <<< (x3 &&& 31)) < x1 → ¬ x2 = 1 → Ct yX11_placesFrom MX11_placesFrom (d + 2) [.ref 88, .int ((1 : Int32) <<< (x3 &&& 31)), .int (if x2 = 2 then (0 : Int32) else 2), .int x3] σ (fun v σ1 => Run MX11_net (d + 3) 176 [some (.ref 88), some (.int x1), some (.int x2), some (.int x3)] (v.toList ++ [.ref 88]) σ1 Q))
    (k4 : ((1 : Int32) <<< (x3 &&& 31)) < x1 → x2 = 1 → Ct yX11_placesFrom MX11_placesFrom (d + 2) [.ref 88, .int 0, .int 1, .int x3] σ (fun v σ1 => Run MX11_net (d + 3) 155 [some (.ref 88), some (.int x1), some (.int x2), some (.int x3)] (v.toList ++ [.ref 88]) σ1 Q))
    : Run MX11_net (d + 3) 135 [some (.ref 88), some (.int x1), some (.int x2), some (.int x3)] [] σ Q := by
  refine (go_iconst (v := 1) eX11_net_135 rfl).run ?_
  refine (go_iload_n 3 eX11_net_136 rfl rfl).run ?_
  refine (go_ishl eX11_net_137).run ?_
  refine (go_iload_n 1 eX11_net_138 rfl rfl).run ?_
  refine (bi_ge 185 eX11_net_139 rfl).run (fun h1 => ?_) (fun h1 => ?_)
  · refine (go_iload_n 2 eX11_net_185 rfl rfl).run ?_
    refine (go_iconst (v := 4) eX11_net_186 rfl).run ?_
    refine (bi_ne 201 eX11_net_187 rfl).run (fun h2 => ?_) (fun h2 => ?_)
    · refine (go_aload_n 0 eX11_net_201 rfl rfl).run ?_
      refine (go_dup eX11_net_202 rfl).run ?_
      refine (go_geti flX11_106 rf_10_0 kd_88 eX11_net_203).run ?_
      refine (go_iconst (v := 1) eX11_net_206 rfl).run ?_
      refine (go_iadd eX11_net_207).run ?_
      refine (go_puti flX11_106 rf_10_0 rfl pf_10_0 rfl rfl kd_88 eX11_net_208).run ?_
      refine (go_aload_n 0 eX11_net_211 rfl rfl).run ?_
      refine (go_geti flX11_106 rf_10_0 kd_88 eX11_net_212).run ?_
      refine (go_iconst (v := 1) eX11_net_215 rfl).run ?_
      refine (go_isub eX11_net_216).run ?_
      exact Run.ret (v := some (.int ((((σ.1 88 0) + 1)) - 1))) (k1 h1 h2) ⟨Or.inl rfl, eX11_net_217⟩ rfl
    · refine (go_aload_n 0 eX11_net_190 rfl rfl).run ?_
      refine (go_aload_n 0 eX11_net_191 rfl rfl).run ?_
      refine (go_iconst (v := 2) eX11_net_192 rfl).run ?_
      refine (go_iconst (v := 3) eX11_net_193 rfl).run ?_
      refine (go_iconst (v := 0) eX11_net_194 rfl).run ?_
      refine (go_sub (L' := [some (.ref 88), none, none, none]) (lsub_keep (lsub_drop (lsub_drop (lsub_drop lsub_nil))))).run ?_
      exact Run.callV (d := (d + 2)) (As := [.int 2, .int 3, .int 0]) mX11_placesFrom lkX11_171 kd_88 (by decide) rfl rfl rfl rfl rfl (Nat.le_of_ble_eq_true rfl) eX11_net_195 (k2 h1 h2)
  · refine (go_aload_n 0 eX11_net_142 rfl rfl).run ?_
    refine (go_iload_n 2 eX11_net_143 rfl rfl).run ?_
    refine (go_iconst (v := 1) eX11_net_144 rfl).run ?_
    refine (bi_ne 158 eX11_net_145 rfl).run (fun h3 => ?_) (fun h3 => ?_)
    · refine (go_aload_n 0 eX11_net_158 rfl rfl).run ?_
      refine (go_iconst (v := 1) eX11_net_159 rfl).run ?_
      refine (go_iload_n 3 eX11_net_160 rfl rfl).run ?_
      refine (go_ishl eX11_net_161).run ?_
      refine (go_iload_n 2 eX11_net_162 rfl rfl).run ?_
      refine (go_iconst (v := 2) eX11_net_163 rfl).run ?_
      have hJh4 : Run MX11_net (d + 3) 172 [some (.ref 88), some (.int x1), some (.int x2), some (.int x3)] [.int (if x2 = 2 then (0 : Int32) else 2), .int ((1 : Int32) <<< (x3 &&& 31)), .ref 88, .ref 88] σ Q := by
        refine (go_iload_n 3 eX11_net_172 rfl rfl).run ?_
        exact Run.callV (d := (d + 2)) (As := [.int ((1 : Int32) <<< (x3 &&& 31)), .int (if x2 = 2 then (0 : Int32) else 2), .int x3]) mX11_placesFrom lkX11_171 kd_88 (by decide) rfl rfl rfl rfl rfl (Nat.le_of_ble_eq_true rfl) eX11_net_173 (k3 h1 h3)
      refine (bi_ne 171 eX11_net_164 rfl).run (fun h4 => ?_) (fun h4 => ?_)
      · refine (go_iconst (v := 2) eX11_net_171 rfl).run ?_
        first | exact hJh4 | (simp only [if_neg (h4)] at hJh4; exact hJh4) | (simp only [eq_false h4, not_false_eq_true, true_and, and_true, false_and, and_false, true_or, or_true, false_or, or_false, not_true_eq_false, not_false_eq_true] at hJh4; exact hJh4) | exact Run.eq (by simp [eq_false h4, not_false_eq_true, bI]) (by simp [eq_false h4, not_false_eq_true, bI]) rfl hJh4
      · refine (go_iconst (v := 0) eX11_net_167 rfl).run ?_
        refine (go_goto 172 eX11_net_168 rfl).run ?_
        first | exact hJh4 | (simp only [if_pos h4] at hJh4; exact hJh4) | (simp only [eq_true h4, not_true_eq_false, true_and, and_true, false_and, and_false, true_or, or_true, false_or, or_false, not_true_eq_false, not_false_eq_true] at hJh4; exact hJh4) | exact Run.eq (by simp [eq_true h4, not_true_eq_false, bI]) (by simp [eq_true h4, not_true_eq_false, bI]) rfl hJh4
    · refine (go_aload_n 0 eX11_net_148 rfl rfl).run ?_
      refine (go_iconst (v := 0) eX11_net_149 rfl).run ?_
      refine (go_iconst (v := 1) eX11_net_150 rfl).run ?_
      refine (go_iload_n 3 eX11_net_151 rfl rfl).run ?_
      exact Run.callV (d := (d + 2)) (As := [.int 0, .int 1, .int x3]) mX11_placesFrom lkX11_171 kd_88 (by decide) rfl rfl rfl rfl rfl (Nat.le_of_ble_eq_true rfl) eX11_net_152 (k4 h1 h3)

set_option maxRecDepth 20000 in
theorem bX11_net_121 {d : Nat} {Q : Option Value → St → Prop} (x1 : Int32) (x2 : Int32) (s0 : Int64) (σ : St) 
    (k1 : Ct yX11_comes MX11_comes (d + 2) [.ref 88, .long s0] σ (fun v σ1 => Run MX11_net (d + 3) 124 [some (.ref 88), some (.int x1), some (.int x2), none] (v.toList ++ []) σ1 Q))
    : Run MX11_net (d + 3) 121 [some (.ref 88), some (.int x1), some (.int x2), none] [.long s0, .ref 88] σ Q := by
  exact Run.callV (d := (d + 2)) (As := [.long s0]) mX11_comes lkX11_162 kd_88 (by decide) rfl rfl rfl rfl rfl (Nat.le_of_ble_eq_true rfl) eX11_net_121 k1

set_option maxRecDepth 20000 in
theorem bX11_net_105 {d : Nat} {Q : Option Value → St → Prop} (σ : St) 
    (k1 : Q (some (.int ((((σ.1 88 0) + 1)) - 1))) (sA σ 88 (upd (σ.1 88) 0 ((σ.1 88 0) + 1))))
    : Run MX11_net (d + 3) 105 [some (.ref 88), none, none, none] [] σ Q := by
  refine (go_goto 201 eX11_net_105 rfl).run ?_
  refine (go_aload_n 0 eX11_net_201 rfl rfl).run ?_
  refine (go_dup eX11_net_202 rfl).run ?_
  refine (go_geti flX11_106 rf_10_0 kd_88 eX11_net_203).run ?_
  refine (go_iconst (v := 1) eX11_net_206 rfl).run ?_
  refine (go_iadd eX11_net_207).run ?_
  refine (go_puti flX11_106 rf_10_0 rfl pf_10_0 rfl rfl kd_88 eX11_net_208).run ?_
  refine (go_aload_n 0 eX11_net_211 rfl rfl).run ?_
  refine (go_geti flX11_106 rf_10_0 kd_88 eX11_net_212).run ?_
  refine (go_iconst (v := 1) eX11_net_215 rfl).run ?_
  refine (go_isub eX11_net_216).run ?_
  exact Run.ret (v := some (.int ((((σ.1 88 0) + 1)) - 1))) k1 ⟨Or.inl rfl, eX11_net_217⟩ rfl

set_option maxRecDepth 20000 in
theorem bX11_net_70 {d : Nat} {Q : Option Value → St → Prop} (x1 : Int32) (x3 : Int32) (σ : St) 
    (k1 : x1 ≤ (x3 + 1) → Q (some (.int ((((σ.1 88 0) + 1)) - 1))) (sA σ 88 (upd (σ.1 88) 0 ((σ.1 88 0) + 1))))
    (k2 : (x3 + 1) < x1 → Ct yX11_comes MX11_comes (d + 2) [.ref 88, .long ((1 : Int64) <<< ((x3 + 1).toInt64 &&& 63))] σ (fun v σ1 => Run MX11_net (d + 3) 86 [some (.ref 88), some (.int x1), none, some (.int x3)] (v.toList ++ []) σ1 Q))
    : Run MX11_net (d + 3) 70 [some (.ref 88), some (.int x1), none, some (.int x3)] [] σ Q := by
  refine (go_iload_n 3 eX11_net_70 rfl rfl).run ?_
  refine (go_iconst (v := 1) eX11_net_71 rfl).run ?_
  refine (go_iadd eX11_net_72).run ?_
  refine (go_iload_n 1 eX11_net_73 rfl rfl).run ?_
  refine (bi_ge 92 eX11_net_74 rfl).run (fun h1 => ?_) (fun h1 => ?_)
  · refine (go_goto 201 eX11_net_92 rfl).run ?_
    refine (go_aload_n 0 eX11_net_201 rfl rfl).run ?_
    refine (go_dup eX11_net_202 rfl).run ?_
    refine (go_geti flX11_106 rf_10_0 kd_88 eX11_net_203).run ?_
    refine (go_iconst (v := 1) eX11_net_206 rfl).run ?_
    refine (go_iadd eX11_net_207).run ?_
    refine (go_puti flX11_106 rf_10_0 rfl pf_10_0 rfl rfl kd_88 eX11_net_208).run ?_
    refine (go_aload_n 0 eX11_net_211 rfl rfl).run ?_
    refine (go_geti flX11_106 rf_10_0 kd_88 eX11_net_212).run ?_
    refine (go_iconst (v := 1) eX11_net_215 rfl).run ?_
    refine (go_isub eX11_net_216).run ?_
    exact Run.ret (v := some (.int ((((σ.1 88 0) + 1)) - 1))) (k1 h1) ⟨Or.inl rfl, eX11_net_217⟩ rfl
  · refine (go_aload_n 0 eX11_net_77 rfl rfl).run ?_
    refine (go_lconst (v := 1) eX11_net_78 rfl).run ?_
    refine (go_iload_n 3 eX11_net_79 rfl rfl).run ?_
    refine (go_iconst (v := 1) eX11_net_80 rfl).run ?_
    refine (go_iadd eX11_net_81).run ?_
    refine (go_lshl eX11_net_82).run ?_
    exact Run.callV (d := (d + 2)) (As := [.long ((1 : Int64) <<< ((x3 + 1).toInt64 &&& 63))]) mX11_comes lkX11_162 kd_88 (by decide) rfl rfl rfl rfl rfl (Nat.le_of_ble_eq_true rfl) eX11_net_83 (k2 h1)

set_option maxRecDepth 20000 in
theorem bX11_net_198 {d : Nat} {Q : Option Value → St → Prop} (s0 : Int64) (σ : St) 
    (k1 : Ct yX11_comes MX11_comes (d + 2) [.ref 88, .long s0] σ (fun v σ1 => Run MX11_net (d + 3) 201 [some (.ref 88), none, none, none] (v.toList ++ []) σ1 Q))
    : Run MX11_net (d + 3) 198 [some (.ref 88), none, none, none] [.long s0, .ref 88] σ Q := by
  exact Run.callV (d := (d + 2)) (As := [.long s0]) mX11_comes lkX11_162 kd_88 (by decide) rfl rfl rfl rfl rfl (Nat.le_of_ble_eq_true rfl) eX11_net_198 k1

set_option maxRecDepth 20000 in
theorem bX11_net_176 {d : Nat} {Q : Option Value → St → Prop} (x1 : Int32) (x2 : Int32) (x3 : Int32) (s0 : Int64) (σ : St) 
    (k1 : Ct yX11_comes MX11_comes (d + 2) [.ref 88, .long s0] σ (fun v σ1 => Run MX11_net (d + 3) 179 [some (.ref 88), some (.int x1), some (.int x2), some (.int x3)] (v.toList ++ []) σ1 Q))
    : Run MX11_net (d + 3) 176 [some (.ref 88), some (.int x1), some (.int x2), some (.int x3)] [.long s0, .ref 88] σ Q := by
  exact Run.callV (d := (d + 2)) (As := [.long s0]) mX11_comes lkX11_162 kd_88 (by decide) rfl rfl rfl rfl rfl (Nat.le_of_ble_eq_true rfl) eX11_net_176 k1

set_option maxRecDepth 20000 in
theorem bX11_net_155 {d : Nat} {Q : Option Value → St → Prop} (x1 : Int32) (x2 : Int32) (x3 : Int32) (s0 : Int64) (σ : St) 
    (k1 : Ct yX11_comes MX11_comes (d + 2) [.ref 88, .long s0] σ (fun v σ1 => Run MX11_net (d + 3) 179 [some (.ref 88), some (.int x1), some (.int x2), some (.int x3)] (v.toList ++ []) σ1 Q))
    : Run MX11_net (d + 3) 155 [some (.ref 88), some (.int x1), some (.int x2), some (.int x3)] [.long s0, .ref 88] σ Q := by
  refine (go_goto 176 eX11_net_155 rfl).run ?_
  exact Run.callV (d := (d + 2)) (As := [.long s0]) mX11_comes lkX11_162 kd_88 (by decide) rfl rfl rfl rfl rfl (Nat.le_of_ble_eq_true rfl) eX11_net_176 k1

set_option maxRecDepth 20000 in
theorem bX11_net_124 {d : Nat} {Q : Option Value → St → Prop} (x1 : Int32) (x2 : Int32) (σ : St) 
    (k1 : Run MX11_net (d + 3) 135 [some (.ref 88), some (.int x1), some (.int x2), some (.int (bI (x2 = 4)))] [] σ Q)
    : Run MX11_net (d + 3) 124 [some (.ref 88), some (.int x1), some (.int x2), none] [] σ Q := by
  refine (go_iload_n 2 eX11_net_124 rfl rfl).run ?_
  refine (go_iconst (v := 4) eX11_net_125 rfl).run ?_
  have hJh1 : Run MX11_net (d + 3) 134 [some (.ref 88), some (.int x1), some (.int x2), none] [.int (bI (x2 = 4))] σ Q := by
    refine (go_istore_n 3 (L' := [some (.ref 88), some (.int x1), some (.int x2), some (.int (bI (x2 = 4)))]) eX11_net_134 rfl (Nat.le_of_ble_eq_true rfl) rfl).run ?_
    exact k1
  refine (bi_ne 133 eX11_net_126 rfl).run (fun h1 => ?_) (fun h1 => ?_)
  · refine (go_iconst (v := 0) eX11_net_133 rfl).run ?_
    first | exact hJh1 | (simp only [if_neg (h1)] at hJh1; exact hJh1) | (simp only [eq_false h1, not_false_eq_true, true_and, and_true, false_and, and_false, true_or, or_true, false_or, or_false, not_true_eq_false, not_false_eq_true] at hJh1; exact hJh1) | exact Run.eq (by simp [eq_false h1, not_false_eq_true, bI]) (by simp [eq_false h1, not_false_eq_true, bI]) rfl hJh1
  · refine (go_iconst (v := 1) eX11_net_129 rfl).run ?_
    refine (go_goto 134 eX11_net_130 rfl).run ?_
    first | exact hJh1 | (simp only [if_pos h1] at hJh1; exact hJh1) | (simp only [eq_true h1, not_true_eq_false, true_and, and_true, false_and, and_false, true_or, or_true, false_or, or_false, not_true_eq_false, not_false_eq_true] at hJh1; exact hJh1) | exact Run.eq (by simp [eq_true h1, not_true_eq_false, bI]) (by simp [eq_true h1, not_true_eq_false, bI]) rfl hJh1

set_option maxRecDepth 20000 in
theorem bX11_net_86 {d : Nat} {Q : Option Value → St → Prop} (x1 : Int32) (x3 : Int32) (σ : St) 
    (k1 : Run MX11_net (d + 3) 70 [some (.ref 88), some (.int x1), none, some (.int (x3 + 1))] [] σ Q)
    : Run MX11_net (d + 3) 86 [some (.ref 88), some (.int x1), none, some (.int x3)] [] σ Q := by
  refine (go_iinc 3 (v := (x3 + 1)) (L' := [some (.ref 88), some (.int x1), none, some (.int (x3 + 1))]) eX11_net_86 rfl rfl (Nat.le_of_ble_eq_true rfl) rfl).run ?_
  refine (go_goto 70 eX11_net_89 rfl).run ?_
  exact k1

set_option maxRecDepth 20000 in
theorem bX11_net_201 {d : Nat} {Q : Option Value → St → Prop} (σ : St) 
    (k1 : Q (some (.int ((((σ.1 88 0) + 1)) - 1))) (sA σ 88 (upd (σ.1 88) 0 ((σ.1 88 0) + 1))))
    : Run MX11_net (d + 3) 201 [some (.ref 88), none, none, none] [] σ Q := by
  refine (go_aload_n 0 eX11_net_201 rfl rfl).run ?_
  refine (go_dup eX11_net_202 rfl).run ?_
  refine (go_geti flX11_106 rf_10_0 kd_88 eX11_net_203).run ?_
  refine (go_iconst (v := 1) eX11_net_206 rfl).run ?_
  refine (go_iadd eX11_net_207).run ?_
  refine (go_puti flX11_106 rf_10_0 rfl pf_10_0 rfl rfl kd_88 eX11_net_208).run ?_
  refine (go_aload_n 0 eX11_net_211 rfl rfl).run ?_
  refine (go_geti flX11_106 rf_10_0 kd_88 eX11_net_212).run ?_
  refine (go_iconst (v := 1) eX11_net_215 rfl).run ?_
  refine (go_isub eX11_net_216).run ?_
  exact Run.ret (v := some (.int ((((σ.1 88 0) + 1)) - 1))) k1 ⟨Or.inl rfl, eX11_net_217⟩ rfl

set_option maxRecDepth 20000 in
theorem bX11_net_179 {d : Nat} {Q : Option Value → St → Prop} (x1 : Int32) (x2 : Int32) (x3 : Int32) (σ : St) 
    (k1 : Run MX11_net (d + 3) 135 [some (.ref 88), some (.int x1), some (.int x2), some (.int (x3 + 1))] [] σ Q)
    : Run MX11_net (d + 3) 179 [some (.ref 88), some (.int x1), some (.int x2), some (.int x3)] [] σ Q := by
  refine (go_iinc 3 (v := (x3 + 1)) (L' := [some (.ref 88), some (.int x1), some (.int x2), some (.int (x3 + 1))]) eX11_net_179 rfl rfl (Nat.le_of_ble_eq_true rfl) rfl).run ?_
  refine (go_goto 135 eX11_net_182 rfl).run ?_
  exact k1

/-! CarryNetsModel.drop -/
theorem eX11_drop_0 : decode MX11_drop.2.1 0 = .ok (.aload_n 0, 1) := by decide +kernel
theorem eX11_drop_1 : decode MX11_drop.2.1 1 = .ok (.getfield 106, 3) := by decide +kernel
theorem eX11_drop_4 : decode MX11_drop.2.1 4 = .ok (.ifCond .ne 6, 3) := by decide +kernel
theorem eX11_drop_7 : decode MX11_drop.2.1 7 = .ok (.bipush (-4), 2) := by decide +kernel
theorem eX11_drop_9 : decode MX11_drop.2.1 9 = .ok (.ireturn, 1) := by decide +kernel
theorem eX11_drop_10 : decode MX11_drop.2.1 10 = .ok (.aload_n 0, 1) := by decide +kernel
theorem eX11_drop_11 : decode MX11_drop.2.1 11 = .ok (.dup, 1) := by decide +kernel
theorem eX11_drop_12 : decode MX11_drop.2.1 12 = .ok (.getfield 106, 3) := by decide +kernel
theorem eX11_drop_15 : decode MX11_drop.2.1 15 = .ok (.iconst 1, 1) := by decide +kernel
theorem eX11_drop_16 : decode MX11_drop.2.1 16 = .ok (.isub, 1) := by decide +kernel
theorem eX11_drop_17 : decode MX11_drop.2.1 17 = .ok (.putfield 106, 3) := by decide +kernel
theorem eX11_drop_20 : decode MX11_drop.2.1 20 = .ok (.aload_n 0, 1) := by decide +kernel
theorem eX11_drop_21 : decode MX11_drop.2.1 21 = .ok (.getfield 106, 3) := by decide +kernel
theorem eX11_drop_24 : decode MX11_drop.2.1 24 = .ok (.ireturn, 1) := by decide +kernel
set_option maxRecDepth 20000 in
theorem bX11_drop_0 {d : Nat} {Q : Option Value → St → Prop} (σ : St) 
    (k1 : ¬ (σ.1 88 0) = 0 → Q (some (.int (((σ.1 88 0) - 1)))) (sA σ 88 (upd (σ.1 88) 0 ((σ.1 88 0) - 1))))
    (k2 : (σ.1 88 0) = 0 → Q (some (.int (-4))) σ)
    : Run MX11_drop d 0 [some (.ref 88)] [] σ Q := by
  refine (go_aload_n 0 eX11_drop_0 rfl rfl).run ?_
  refine (go_geti flX11_106 rf_10_0 kd_88 eX11_drop_1).run ?_
  refine (bz_ne 10 eX11_drop_4 rfl).run (fun h1 => ?_) (fun h1 => ?_)
  · refine (go_aload_n 0 eX11_drop_10 rfl rfl).run ?_
    refine (go_dup eX11_drop_11 rfl).run ?_
    refine (go_geti flX11_106 rf_10_0 kd_88 eX11_drop_12).run ?_
    refine (go_iconst (v := 1) eX11_drop_15 rfl).run ?_
    refine (go_isub eX11_drop_16).run ?_
    refine (go_puti flX11_106 rf_10_0 rfl pf_10_0 rfl rfl kd_88 eX11_drop_17).run ?_
    refine (go_aload_n 0 eX11_drop_20 rfl rfl).run ?_
    refine (go_geti flX11_106 rf_10_0 kd_88 eX11_drop_21).run ?_
    exact Run.ret (v := some (.int (((σ.1 88 0) - 1)))) (k1 h1) ⟨Or.inl rfl, eX11_drop_24⟩ rfl
  · refine (go_bipush (v := -4) eX11_drop_7 rfl).run ?_
    exact Run.ret (v := some (.int (-4))) (k2 h1) ⟨Or.inl rfl, eX11_drop_9⟩ rfl

def sX11_drop (σ : St) : St := (if (σ.1 88 0) = 0 then σ else sA σ 88 (upd (σ.1 88) 0 ((σ.1 88 0) - 1)))
def rX11_drop (σ : St) : Int32 := (if (σ.1 88 0) = 0 then (-4 : Int32) else (((σ.1 88 0) - 1)))
theorem qX11_drop (d : Nat) (σ : St) : Ct yX11_drop MX11_drop d [.ref 88] σ (fun v σ1 => v = some (.int (rX11_drop  σ)) ∧ σ1 = sX11_drop  σ) :=
  Ct.of mX11_drop.1 (Nat.le_of_ble_eq_true rfl) (bX11_drop_0  σ   (fun h1 => ⟨by first | rfl | (simp only [sX11_drop, rX11_drop, eq_false h1, not_false_eq_true, true_and, and_true, false_and, and_false, true_or, or_true, false_or, or_false, not_true_eq_false, not_false_eq_true, if_true, if_false]; done) | (simp [sX11_drop, rX11_drop, eq_false h1, not_false_eq_true, bI]; done), by first | rfl | (simp only [sX11_drop, rX11_drop, eq_false h1, not_false_eq_true, true_and, and_true, false_and, and_false, true_or, or_true, false_or, or_false, not_true_eq_false, not_false_eq_true, if_true, if_false]; done) | (simp [sX11_drop, rX11_drop, eq_false h1, not_false_eq_true, bI]; done)⟩) (fun h1 => ⟨by first | rfl | (simp only [sX11_drop, rX11_drop, eq_true h1, not_true_eq_false, true_and, and_true, false_and, and_false, true_or, or_true, false_or, or_false, not_true_eq_false, not_false_eq_true, if_true, if_false]; done) | (simp [sX11_drop, rX11_drop, eq_true h1, not_true_eq_false, bI]; done), by first | rfl | (simp only [sX11_drop, rX11_drop, eq_true h1, not_true_eq_false, true_and, and_true, false_and, and_false, true_or, or_true, false_or, or_false, not_true_eq_false, not_false_eq_true, if_true, if_false]; done) | (simp [sX11_drop, rX11_drop, eq_true h1, not_true_eq_false, bI]; done)⟩))

/-! CarryNetsModel.findTakes -/
theorem eX11_findTakes_0 : decode MX11_findTakes.2.1 0 = .ok (.aload_n 0, 1) := by decide +kernel
theorem eX11_findTakes_1 : decode MX11_findTakes.2.1 1 = .ok (.iload_n 1, 1) := by decide +kernel
theorem eX11_findTakes_2 : decode MX11_findTakes.2.1 2 = .ok (.iload_n 2, 1) := by decide +kernel
theorem eX11_findTakes_3 : decode MX11_findTakes.2.1 3 = .ok (.invokevirtual 102, 3) := by decide +kernel
theorem eX11_findTakes_6 : decode MX11_findTakes.2.1 6 = .ok (.iconst 0, 1) := by decide +kernel
theorem eX11_findTakes_7 : decode MX11_findTakes.2.1 7 = .ok (.istore_n 3, 1) := by decide +kernel
theorem eX11_findTakes_8 : decode MX11_findTakes.2.1 8 = .ok (.iload_n 3, 1) := by decide +kernel
theorem eX11_findTakes_9 : decode MX11_findTakes.2.1 9 = .ok (.bipush 32, 2) := by decide +kernel
theorem eX11_findTakes_11 : decode MX11_findTakes.2.1 11 = .ok (.if_icmp .ge 43, 3) := by decide +kernel
theorem eX11_findTakes_14 : decode MX11_findTakes.2.1 14 = .ok (.aload_n 0, 1) := by decide +kernel
theorem eX11_findTakes_15 : decode MX11_findTakes.2.1 15 = .ok (.getfield 39, 3) := by decide +kernel
theorem eX11_findTakes_18 : decode MX11_findTakes.2.1 18 = .ok (.iload_n 3, 1) := by decide +kernel
theorem eX11_findTakes_19 : decode MX11_findTakes.2.1 19 = .ok (.aload_n 0, 1) := by decide +kernel
theorem eX11_findTakes_20 : decode MX11_findTakes.2.1 20 = .ok (.iload_n 1, 1) := by decide +kernel
theorem eX11_findTakes_21 : decode MX11_findTakes.2.1 21 = .ok (.iload_n 2, 1) := by decide +kernel
theorem eX11_findTakes_22 : decode MX11_findTakes.2.1 22 = .ok (.invokevirtual 94, 3) := by decide +kernel
theorem eX11_findTakes_25 : decode MX11_findTakes.2.1 25 = .ok (.iload_n 3, 1) := by decide +kernel
theorem eX11_findTakes_26 : decode MX11_findTakes.2.1 26 = .ok (.lshr, 1) := by decide +kernel
theorem eX11_findTakes_27 : decode MX11_findTakes.2.1 27 = .ok (.lconst 1, 1) := by decide +kernel
theorem eX11_findTakes_28 : decode MX11_findTakes.2.1 28 = .ok (.land, 1) := by decide +kernel
theorem eX11_findTakes_29 : decode MX11_findTakes.2.1 29 = .ok (.lconst 1, 1) := by decide +kernel
theorem eX11_findTakes_30 : decode MX11_findTakes.2.1 30 = .ok (.lcmp, 1) := by decide +kernel
theorem eX11_findTakes_31 : decode MX11_findTakes.2.1 31 = .ok (.ifCond .ne 14, 3) := by decide +kernel
theorem eX11_findTakes_34 : decode MX11_findTakes.2.1 34 = .ok (.aload_n 0, 1) := by decide +kernel
theorem eX11_findTakes_35 : decode MX11_findTakes.2.1 35 = .ok (.getfield 30, 3) := by decide +kernel
theorem eX11_findTakes_38 : decode MX11_findTakes.2.1 38 = .ok (.iload_n 3, 1) := by decide +kernel
theorem eX11_findTakes_39 : decode MX11_findTakes.2.1 39 = .ok (.iaload, 1) := by decide +kernel
theorem eX11_findTakes_40 : decode MX11_findTakes.2.1 40 = .ok (.iconst 1, 1) := by decide +kernel
theorem eX11_findTakes_41 : decode MX11_findTakes.2.1 41 = .ok (.isub, 1) := by decide +kernel
theorem eX11_findTakes_42 : decode MX11_findTakes.2.1 42 = .ok (.goto 5, 3) := by decide +kernel
theorem eX11_findTakes_45 : decode MX11_findTakes.2.1 45 = .ok (.bipush (-4), 2) := by decide +kernel
theorem eX11_findTakes_47 : decode MX11_findTakes.2.1 47 = .ok (.iastore, 1) := by decide +kernel
theorem eX11_findTakes_48 : decode MX11_findTakes.2.1 48 = .ok (.iinc 3 1, 3) := by decide +kernel
theorem eX11_findTakes_51 : decode MX11_findTakes.2.1 51 = .ok (.goto (-43), 3) := by decide +kernel
theorem eX11_findTakes_54 : decode MX11_findTakes.2.1 54 = .ok (.return_, 1) := by decide +kernel
set_option maxRecDepth 20000 in
theorem bX11_findTakes_0 {d : Nat} {Q : Option Value → St → Prop} (x1 : Int32) (x2 : Int32) (σ : St) 
    (k1 : Ct yX11_goesTo MX11_goesTo (d + 1) [.ref 88, .int x1, .int x2] σ (fun v σ1 => Run MX11_findTakes (d + 2) 6 [some (.ref 88), some (.int x1), some (.int x2), none] (v.toList ++ []) σ1 Q))
    : Run MX11_findTakes (d + 2) 0 [some (.ref 88), some (.int x1), some (.int x2), none] [] σ Q := by
  refine (go_aload_n 0 eX11_findTakes_0 rfl rfl).run ?_
  refine (go_iload_n 1 eX11_findTakes_1 rfl rfl).run ?_
  refine (go_iload_n 2 eX11_findTakes_2 rfl rfl).run ?_
  exact Run.callV (d := (d + 1)) (As := [.int x1, .int x2]) mX11_goesTo lkX11_102 kd_88 (by decide) rfl rfl rfl rfl rfl (Nat.le_of_ble_eq_true rfl) eX11_findTakes_3 k1

set_option maxRecDepth 20000 in
theorem bX11_findTakes_6 {d : Nat} {Q : Option Value → St → Prop} (x1 : Int32) (x2 : Int32) (σ : St) 
    (k1 : Run MX11_findTakes (d + 2) 8 [some (.ref 88), some (.int x1), some (.int x2), some (.int 0)] [] σ Q)
    : Run MX11_findTakes (d + 2) 6 [some (.ref 88), some (.int x1), some (.int x2), none] [] σ Q := by
  refine (go_iconst (v := 0) eX11_findTakes_6 rfl).run ?_
  refine (go_istore_n 3 (L' := [some (.ref 88), some (.int x1), some (.int x2), some (.int 0)]) eX11_findTakes_7 rfl (Nat.le_of_ble_eq_true rfl) rfl).run ?_
  exact k1

set_option maxRecDepth 20000 in
theorem bX11_findTakes_8 {d : Nat} {Q : Option Value → St → Prop} (x1 : Int32) (x2 : Int32) (x3 : Int32) (σ : St) 
    (g1 : x3 < 32 → vp_in (((32 : Int32) * x1) + x2) 256)
    (g2 : x3 < 32 → ((((rX11_cellsOf x1 x2 σ)) >>> (x3.toInt64 &&& 63)) &&& 1) = 1 → vp_in x3 32)
    (g3 : x3 < 32 → vp_in x3 32)
    (k1 : (32 : Int32) ≤ x3 → Q (none) σ)
    (k2 : x3 < 32 → Run MX11_findTakes (d + 2) 8 [some (.ref 88), some (.int x1), some (.int x2), some (.int (x3 + 1))] [] (sA σ 96 (upd (σ.1 96) x3.toNatClampNeg (if ((((rX11_cellsOf x1 x2 σ)) >>> (x3.toInt64 &&& 63)) &&& 1) = 1 then ((σ.1 93 x3.toNatClampNeg) - 1) else (-4)))) Q)
    : Run MX11_findTakes (d + 2) 8 [some (.ref 88), some (.int x1), some (.int x2), some (.int x3)] [] σ Q := by
  refine (go_iload_n 3 eX11_findTakes_8 rfl rfl).run ?_
  refine (go_bipush (v := 32) eX11_findTakes_9 rfl).run ?_
  refine (bi_ge 54 eX11_findTakes_11 rfl).run (fun h1 => ?_) (fun h1 => ?_)
  · exact Run.ret (v := none) (k1 h1) ⟨rfl, eX11_findTakes_54⟩ rfl
  · refine (go_aload_n 0 eX11_findTakes_14 rfl rfl).run ?_
    refine (go_getr flX11_39 rf_10_17 kd_88 gr_88_17 eX11_findTakes_15).run ?_
    refine (go_iload_n 3 eX11_findTakes_18 rfl rfl).run ?_
    refine (go_aload_n 0 eX11_findTakes_19 rfl rfl).run ?_
    refine (go_iload_n 1 eX11_findTakes_20 rfl rfl).run ?_
    refine (go_iload_n 2 eX11_findTakes_21 rfl rfl).run ?_
    refine Run.callV1 (d := (d + 1)) (As := [.int x1, .int x2]) (r := .long ((rX11_cellsOf x1 x2 σ))) mX11_cellsOf lkX11_94 kd_88 (by decide) rfl rfl rfl rfl rfl (Nat.le_of_ble_eq_true rfl) eX11_findTakes_22 (qX11_cellsOf (d + 1) x1 x2 σ  (g1 h1)) ?_
    refine (go_iload_n 3 eX11_findTakes_25 rfl rfl).run ?_
    refine (go_lshr eX11_findTakes_26).run ?_
    refine (go_lconst (v := 1) eX11_findTakes_27 rfl).run ?_
    refine (go_land eX11_findTakes_28).run ?_
    refine (go_lconst (v := 1) eX11_findTakes_29 rfl).run ?_
    refine (go_lcmp eX11_findTakes_30).run ?_
    have hJh2 : Run MX11_findTakes (d + 2) 47 [some (.ref 88), some (.int x1), some (.int x2), some (.int x3)] [.int (if ((((rX11_cellsOf x1 x2 σ)) >>> (x3.toInt64 &&& 63)) &&& 1) = 1 then ((σ.1 93 x3.toNatClampNeg) - 1) else (-4)), .int x3, .ref 96] σ Q := by
      refine (go_iast kd_96 ln_96 (g3 h1) eX11_findTakes_47).run ?_
      refine (go_iinc 3 (v := (x3 + 1)) (L' := [some (.ref 88), some (.int x1), some (.int x2), some (.int (x3 + 1))]) eX11_findTakes_48 rfl rfl (Nat.le_of_ble_eq_true rfl) rfl).run ?_
      refine (go_goto 8 eX11_findTakes_51 rfl).run ?_
      exact (k2 h1)
    refine (brl_ne 45 eX11_findTakes_31 rfl).run (fun h2 => ?_) (fun h2 => ?_)
    · refine (go_bipush (v := -4) eX11_findTakes_45 rfl).run ?_
      first | exact hJh2 | (simp only [if_neg (h2)] at hJh2; exact hJh2) | (simp only [eq_false h2, not_false_eq_true, true_and, and_true, false_and, and_false, true_or, or_true, false_or, or_false, not_true_eq_false, not_false_eq_true] at hJh2; exact hJh2) | exact Run.eq (by simp [eq_false h2, not_false_eq_true, bI]) (by simp [eq_false h2, not_false_eq_true, bI]) rfl hJh2
    · refine (go_aload_n 0 eX11_findTakes_34 rfl rfl).run ?_
      refine (go_getr flX11_30 rf_10_7 kd_88 gr_88_7 eX11_findTakes_35).run ?_
      refine (go_iload_n 3 eX11_findTakes_38 rfl rfl).run ?_
      refine (go_iald kd_93 ln_93 (g2 h1 h2) eX11_findTakes_39).run ?_
      refine (go_iconst (v := 1) eX11_findTakes_40 rfl).run ?_
      refine (go_isub eX11_findTakes_41).run ?_
      refine (go_goto 47 eX11_findTakes_42 rfl).run ?_
      first | exact hJh2 | (simp only [if_pos h2] at hJh2; exact hJh2) | (simp only [eq_true h2, not_true_eq_false, true_and, and_true, false_and, and_false, true_or, or_true, false_or, or_false, not_true_eq_false, not_false_eq_true] at hJh2; exact hJh2) | exact Run.eq (by simp [eq_true h2, not_true_eq_false, bI]) (by simp [eq_true h2, not_true_eq_false, bI]) rfl hJh2

/-! CarryNetsModel.loadOf -/
theorem eX11_loadOf_0 : decode MX11_loadOf.2.1 0 = .ok (.iconst 0, 1) := by decide +kernel
theorem eX11_loadOf_1 : decode MX11_loadOf.2.1 1 = .ok (.istore_n 2, 1) := by decide +kernel
theorem eX11_loadOf_2 : decode MX11_loadOf.2.1 2 = .ok (.iconst 0, 1) := by decide +kernel
theorem eX11_loadOf_3 : decode MX11_loadOf.2.1 3 = .ok (.istore_n 3, 1) := by decide +kernel
theorem eX11_loadOf_4 : decode MX11_loadOf.2.1 4 = .ok (.iload_n 3, 1) := by decide +kernel
theorem eX11_loadOf_5 : decode MX11_loadOf.2.1 5 = .ok (.bipush 32, 2) := by decide +kernel
theorem eX11_loadOf_7 : decode MX11_loadOf.2.1 7 = .ok (.if_icmp .ge 27, 3) := by decide +kernel
theorem eX11_loadOf_10 : decode MX11_loadOf.2.1 10 = .ok (.iload_n 2, 1) := by decide +kernel
theorem eX11_loadOf_11 : decode MX11_loadOf.2.1 11 = .ok (.aload_n 0, 1) := by decide +kernel
theorem eX11_loadOf_12 : decode MX11_loadOf.2.1 12 = .ok (.getfield 39, 3) := by decide +kernel
theorem eX11_loadOf_15 : decode MX11_loadOf.2.1 15 = .ok (.iload_n 3, 1) := by decide +kernel
theorem eX11_loadOf_16 : decode MX11_loadOf.2.1 16 = .ok (.iaload, 1) := by decide +kernel
theorem eX11_loadOf_17 : decode MX11_loadOf.2.1 17 = .ok (.iload_n 1, 1) := by decide +kernel
theorem eX11_loadOf_18 : decode MX11_loadOf.2.1 18 = .ok (.if_icmp .ne 7, 3) := by decide +kernel
theorem eX11_loadOf_21 : decode MX11_loadOf.2.1 21 = .ok (.iconst 1, 1) := by decide +kernel
theorem eX11_loadOf_22 : decode MX11_loadOf.2.1 22 = .ok (.goto 4, 3) := by decide +kernel
theorem eX11_loadOf_25 : decode MX11_loadOf.2.1 25 = .ok (.iconst 0, 1) := by decide +kernel
theorem eX11_loadOf_26 : decode MX11_loadOf.2.1 26 = .ok (.iadd, 1) := by decide +kernel
theorem eX11_loadOf_27 : decode MX11_loadOf.2.1 27 = .ok (.istore_n 2, 1) := by decide +kernel
theorem eX11_loadOf_28 : decode MX11_loadOf.2.1 28 = .ok (.iinc 3 1, 3) := by decide +kernel
theorem eX11_loadOf_31 : decode MX11_loadOf.2.1 31 = .ok (.goto (-27), 3) := by decide +kernel
theorem eX11_loadOf_34 : decode MX11_loadOf.2.1 34 = .ok (.iload_n 2, 1) := by decide +kernel
theorem eX11_loadOf_35 : decode MX11_loadOf.2.1 35 = .ok (.ireturn, 1) := by decide +kernel
set_option maxRecDepth 20000 in
theorem bX11_loadOf_0 {d : Nat} {Q : Option Value → St → Prop} (x1 : Int32) (σ : St) 
    (k1 : Run MX11_loadOf d 4 [some (.ref 88), some (.int x1), some (.int 0), some (.int 0)] [] σ Q)
    : Run MX11_loadOf d 0 [some (.ref 88), some (.int x1), none, none] [] σ Q := by
  refine (go_iconst (v := 0) eX11_loadOf_0 rfl).run ?_
  refine (go_istore_n 2 (L' := [some (.ref 88), some (.int x1), some (.int 0), none]) eX11_loadOf_1 rfl (Nat.le_of_ble_eq_true rfl) rfl).run ?_
  refine (go_iconst (v := 0) eX11_loadOf_2 rfl).run ?_
  refine (go_istore_n 3 (L' := [some (.ref 88), some (.int x1), some (.int 0), some (.int 0)]) eX11_loadOf_3 rfl (Nat.le_of_ble_eq_true rfl) rfl).run ?_
  exact k1

set_option maxRecDepth 20000 in
theorem bX11_loadOf_4 {d : Nat} {Q : Option Value → St → Prop} (x1 : Int32) (x2 : Int32) (x3 : Int32) (σ : St) 
    (g1 : x3 < 32 → vp_in x3 32)
    (k1 : (32 : Int32) ≤ x3 → Q (some (.int x2)) σ)
    (k2 : x3 < 32 → Run MX11_loadOf d 4 [some (.ref 88), some (.int x1), some (.int (x2 + (bI ((σ.1 96 x3.toNatClampNeg) = x1)))), some (.int (x3 + 1))] [] σ Q)
    : Run MX11_loadOf d 4 [some (.ref 88), some (.int x1), some (.int x2), some (.int x3)] [] σ Q := by
  refine (go_iload_n 3 eX11_loadOf_4 rfl rfl).run ?_
  refine (go_bipush (v := 32) eX11_loadOf_5 rfl).run ?_
  refine (bi_ge 34 eX11_loadOf_7 rfl).run (fun h1 => ?_) (fun h1 => ?_)
  · refine (go_iload_n 2 eX11_loadOf_34 rfl rfl).run ?_
    exact Run.ret (v := some (.int x2)) (k1 h1) ⟨Or.inl rfl, eX11_loadOf_35⟩ rfl
  · refine (go_iload_n 2 eX11_loadOf_10 rfl rfl).run ?_
    refine (go_aload_n 0 eX11_loadOf_11 rfl rfl).run ?_
    refine (go_getr flX11_39 rf_10_17 kd_88 gr_88_17 eX11_loadOf_12).run ?_
    refine (go_iload_n 3 eX11_loadOf_15 rfl rfl).run ?_
    refine (go_iald kd_96 ln_96 (g1 h1) eX11_loadOf_16).run ?_
    refine (go_iload_n 1 eX11_loadOf_17 rfl rfl).run ?_
    have hJh2 : Run MX11_loadOf d 26 [some (.ref 88), some (.int x1), none, some (.int x3)] [.int (bI ((σ.1 96 x3.toNatClampNeg) = x1)), .int x2] σ Q := by
      refine (go_iadd eX11_loadOf_26).run ?_
      refine (go_istore_n 2 (L' := [some (.ref 88), some (.int x1), some (.int (x2 + (bI ((σ.1 96 x3.toNatClampNeg) = x1)))), some (.int x3)]) eX11_loadOf_27 rfl (Nat.le_of_ble_eq_true rfl) rfl).run ?_
      refine (go_iinc 3 (v := (x3 + 1)) (L' := [some (.ref 88), some (.int x1), some (.int (x2 + (bI ((σ.1 96 x3.toNatClampNeg) = x1)))), some (.int (x3 + 1))]) eX11_loadOf_28 rfl rfl (Nat.le_of_ble_eq_true rfl) rfl).run ?_
      refine (go_goto 4 eX11_loadOf_31 rfl).run ?_
      exact (k2 h1)
    refine (bi_ne 25 eX11_loadOf_18 rfl).run (fun h2 => ?_) (fun h2 => ?_)
    · refine (go_iconst (v := 0) eX11_loadOf_25 rfl).run ?_
      refine (go_sub (L' := [some (.ref 88), some (.int x1), none, some (.int x3)]) (lsub_keep (lsub_keep (lsub_drop (lsub_keep lsub_nil))))).run ?_
      first | exact hJh2 | (simp only [if_neg (h2)] at hJh2; exact hJh2) | (simp only [eq_false h2, not_false_eq_true, true_and, and_true, false_and, and_false, true_or, or_true, false_or, or_false, not_true_eq_false, not_false_eq_true] at hJh2; exact hJh2) | exact Run.eq (by simp [eq_false h2, not_false_eq_true, bI]) (by simp [eq_false h2, not_false_eq_true, bI]) rfl hJh2
    · refine (go_iconst (v := 1) eX11_loadOf_21 rfl).run ?_
      refine (go_goto 26 eX11_loadOf_22 rfl).run ?_
      refine (go_sub (L' := [some (.ref 88), some (.int x1), none, some (.int x3)]) (lsub_keep (lsub_keep (lsub_drop (lsub_keep lsub_nil))))).run ?_
      first | exact hJh2 | (simp only [if_pos h2] at hJh2; exact hJh2) | (simp only [eq_true h2, not_true_eq_false, true_and, and_true, false_and, and_false, true_or, or_true, false_or, or_false, not_true_eq_false, not_false_eq_true] at hJh2; exact hJh2) | exact Run.eq (by simp [eq_true h2, not_true_eq_false, bI]) (by simp [eq_true h2, not_true_eq_false, bI]) rfl hJh2

/-! CarryNetsModel.tracks -/
theorem eX11_tracks_0 : decode MX11_tracks.2.1 0 = .ok (.iconst 0, 1) := by decide +kernel
theorem eX11_tracks_1 : decode MX11_tracks.2.1 1 = .ok (.istore_n 1, 1) := by decide +kernel
theorem eX11_tracks_2 : decode MX11_tracks.2.1 2 = .ok (.iconst 0, 1) := by decide +kernel
theorem eX11_tracks_3 : decode MX11_tracks.2.1 3 = .ok (.istore_n 2, 1) := by decide +kernel
theorem eX11_tracks_4 : decode MX11_tracks.2.1 4 = .ok (.iload_n 2, 1) := by decide +kernel
theorem eX11_tracks_5 : decode MX11_tracks.2.1 5 = .ok (.iconst 1, 1) := by decide +kernel
theorem eX11_tracks_6 : decode MX11_tracks.2.1 6 = .ok (.iadd, 1) := by decide +kernel
theorem eX11_tracks_7 : decode MX11_tracks.2.1 7 = .ok (.bipush 32, 2) := by decide +kernel
theorem eX11_tracks_9 : decode MX11_tracks.2.1 9 = .ok (.if_icmp .ge 71, 3) := by decide +kernel
theorem eX11_tracks_12 : decode MX11_tracks.2.1 12 = .ok (.iconst 0, 1) := by decide +kernel
theorem eX11_tracks_13 : decode MX11_tracks.2.1 13 = .ok (.istore_n 3, 1) := by decide +kernel
theorem eX11_tracks_14 : decode MX11_tracks.2.1 14 = .ok (.iload_n 2, 1) := by decide +kernel
theorem eX11_tracks_15 : decode MX11_tracks.2.1 15 = .ok (.iconst 1, 1) := by decide +kernel
theorem eX11_tracks_16 : decode MX11_tracks.2.1 16 = .ok (.iadd, 1) := by decide +kernel
theorem eX11_tracks_17 : decode MX11_tracks.2.1 17 = .ok (.istore 4, 2) := by decide +kernel
theorem eX11_tracks_19 : decode MX11_tracks.2.1 19 = .ok (.iload 4, 2) := by decide +kernel
theorem eX11_tracks_21 : decode MX11_tracks.2.1 21 = .ok (.bipush 32, 2) := by decide +kernel
theorem eX11_tracks_23 : decode MX11_tracks.2.1 23 = .ok (.if_icmp .ge 40, 3) := by decide +kernel
theorem eX11_tracks_26 : decode MX11_tracks.2.1 26 = .ok (.iload_n 3, 1) := by decide +kernel
theorem eX11_tracks_27 : decode MX11_tracks.2.1 27 = .ok (.aload_n 0, 1) := by decide +kernel
theorem eX11_tracks_28 : decode MX11_tracks.2.1 28 = .ok (.getfield 39, 3) := by decide +kernel
theorem eX11_tracks_31 : decode MX11_tracks.2.1 31 = .ok (.iload 4, 2) := by decide +kernel
theorem eX11_tracks_33 : decode MX11_tracks.2.1 33 = .ok (.iaload, 1) := by decide +kernel
theorem eX11_tracks_34 : decode MX11_tracks.2.1 34 = .ok (.bipush (-4), 2) := by decide +kernel
theorem eX11_tracks_36 : decode MX11_tracks.2.1 36 = .ok (.if_icmp .eq 18, 3) := by decide +kernel
theorem eX11_tracks_39 : decode MX11_tracks.2.1 39 = .ok (.aload_n 0, 1) := by decide +kernel
theorem eX11_tracks_40 : decode MX11_tracks.2.1 40 = .ok (.getfield 39, 3) := by decide +kernel
theorem eX11_tracks_43 : decode MX11_tracks.2.1 43 = .ok (.iload 4, 2) := by decide +kernel
theorem eX11_tracks_45 : decode MX11_tracks.2.1 45 = .ok (.iaload, 1) := by decide +kernel
theorem eX11_tracks_46 : decode MX11_tracks.2.1 46 = .ok (.iload_n 2, 1) := by decide +kernel
theorem eX11_tracks_47 : decode MX11_tracks.2.1 47 = .ok (.if_icmp .gt 7, 3) := by decide +kernel
theorem eX11_tracks_50 : decode MX11_tracks.2.1 50 = .ok (.iconst 1, 1) := by decide +kernel
theorem eX11_tracks_51 : decode MX11_tracks.2.1 51 = .ok (.goto 4, 3) := by decide +kernel
theorem eX11_tracks_54 : decode MX11_tracks.2.1 54 = .ok (.iconst 0, 1) := by decide +kernel
theorem eX11_tracks_55 : decode MX11_tracks.2.1 55 = .ok (.iadd, 1) := by decide +kernel
theorem eX11_tracks_56 : decode MX11_tracks.2.1 56 = .ok (.istore_n 3, 1) := by decide +kernel
theorem eX11_tracks_57 : decode MX11_tracks.2.1 57 = .ok (.iinc 4 1, 3) := by decide +kernel
theorem eX11_tracks_60 : decode MX11_tracks.2.1 60 = .ok (.goto (-41), 3) := by decide +kernel
theorem eX11_tracks_63 : decode MX11_tracks.2.1 63 = .ok (.iload_n 3, 1) := by decide +kernel
theorem eX11_tracks_64 : decode MX11_tracks.2.1 64 = .ok (.iload_n 1, 1) := by decide +kernel
theorem eX11_tracks_65 : decode MX11_tracks.2.1 65 = .ok (.if_icmp .le 7, 3) := by decide +kernel
theorem eX11_tracks_68 : decode MX11_tracks.2.1 68 = .ok (.iload_n 3, 1) := by decide +kernel
theorem eX11_tracks_69 : decode MX11_tracks.2.1 69 = .ok (.goto 4, 3) := by decide +kernel
theorem eX11_tracks_72 : decode MX11_tracks.2.1 72 = .ok (.iload_n 1, 1) := by decide +kernel
theorem eX11_tracks_73 : decode MX11_tracks.2.1 73 = .ok (.istore_n 1, 1) := by decide +kernel
theorem eX11_tracks_74 : decode MX11_tracks.2.1 74 = .ok (.iinc 2 1, 3) := by decide +kernel
theorem eX11_tracks_77 : decode MX11_tracks.2.1 77 = .ok (.goto (-73), 3) := by decide +kernel
theorem eX11_tracks_80 : decode MX11_tracks.2.1 80 = .ok (.iload_n 1, 1) := by decide +kernel
theorem eX11_tracks_81 : decode MX11_tracks.2.1 81 = .ok (.ireturn, 1) := by decide +kernel
set_option maxRecDepth 20000 in
theorem bX11_tracks_0 {d : Nat} {Q : Option Value → St → Prop} (σ : St) 
    (k1 : Run MX11_tracks d 4 [some (.ref 88), some (.int 0), some (.int 0), none, none] [] σ Q)
    : Run MX11_tracks d 0 [some (.ref 88), none, none, none, none] [] σ Q := by
  refine (go_iconst (v := 0) eX11_tracks_0 rfl).run ?_
  refine (go_istore_n 1 (L' := [some (.ref 88), some (.int 0), none, none, none]) eX11_tracks_1 rfl (Nat.le_of_ble_eq_true rfl) rfl).run ?_
  refine (go_iconst (v := 0) eX11_tracks_2 rfl).run ?_
  refine (go_istore_n 2 (L' := [some (.ref 88), some (.int 0), some (.int 0), none, none]) eX11_tracks_3 rfl (Nat.le_of_ble_eq_true rfl) rfl).run ?_
  exact k1

set_option maxRecDepth 20000 in
theorem bX11_tracks_4 {d : Nat} {Q : Option Value → St → Prop} (x1 : Int32) (x2 : Int32) (σ : St) 
    (k1 : (32 : Int32) ≤ (x2 + 1) → Q (some (.int x1)) σ)
    (k2 : (x2 + 1) < 32 → Run MX11_tracks d 19 [some (.ref 88), some (.int x1), some (.int x2), some (.int 0), some (.int (x2 + 1))] [] σ Q)
    : Run MX11_tracks d 4 [some (.ref 88), some (.int x1), some (.int x2), none, none] [] σ Q := by
  refine (go_iload_n 2 eX11_tracks_4 rfl rfl).run ?_
  refine (go_iconst (v := 1) eX11_tracks_5 rfl).run ?_
  refine (go_iadd eX11_tracks_6).run ?_
  refine (go_bipush (v := 32) eX11_tracks_7 rfl).run ?_
  refine (bi_ge 80 eX11_tracks_9 rfl).run (fun h1 => ?_) (fun h1 => ?_)
  · refine (go_iload_n 1 eX11_tracks_80 rfl rfl).run ?_
    exact Run.ret (v := some (.int x1)) (k1 h1) ⟨Or.inl rfl, eX11_tracks_81⟩ rfl
  · refine (go_iconst (v := 0) eX11_tracks_12 rfl).run ?_
    refine (go_istore_n 3 (L' := [some (.ref 88), some (.int x1), some (.int x2), some (.int 0), none]) eX11_tracks_13 rfl (Nat.le_of_ble_eq_true rfl) rfl).run ?_
    refine (go_iload_n 2 eX11_tracks_14 rfl rfl).run ?_
    refine (go_iconst (v := 1) eX11_tracks_15 rfl).run ?_
    refine (go_iadd eX11_tracks_16).run ?_
    refine (go_istore 4 (L' := [some (.ref 88), some (.int x1), some (.int x2), some (.int 0), some (.int (x2 + 1))]) eX11_tracks_17 (Nat.le_of_ble_eq_true rfl) rfl).run ?_
    exact (k2 h1)

set_option maxRecDepth 20000 in
theorem bX11_tracks_19 {d : Nat} {Q : Option Value → St → Prop} (x1 : Int32) (x2 : Int32) (x3 : Int32) (x4 : Int32) (σ : St) 
    (g1 : x4 < 32 → vp_in x4 32)
    (k1 : (32 : Int32) ≤ x4 → Run MX11_tracks d 4 [some (.ref 88), some (.int (if x3 ≤ x1 then x1 else x3)), some (.int (x2 + 1)), none, none] [] σ Q)
    (k2 : x4 < 32 → Run MX11_tracks d 19 [some (.ref 88), some (.int x1), some (.int x2), some (.int (x3 + (bI ((¬ (σ.1 96 x4.toNatClampNeg) = (-4)) ∧ (σ.1 96 x4.toNatClampNeg) ≤ x2)))), some (.int (x4 + 1))] [] σ Q)
    : Run MX11_tracks d 19 [some (.ref 88), some (.int x1), some (.int x2), some (.int x3), some (.int x4)] [] σ Q := by
  refine (go_iload 4 eX11_tracks_19 rfl).run ?_
  refine (go_bipush (v := 32) eX11_tracks_21 rfl).run ?_
  refine (bi_ge 63 eX11_tracks_23 rfl).run (fun h1 => ?_) (fun h1 => ?_)
  · refine (go_iload_n 3 eX11_tracks_63 rfl rfl).run ?_
    refine (go_iload_n 1 eX11_tracks_64 rfl rfl).run ?_
    have hJh2 : Run MX11_tracks d 73 [some (.ref 88), none, some (.int x2), none, none] [.int (if x3 ≤ x1 then x1 else x3)] σ Q := by
      refine (go_istore_n 1 (L' := [some (.ref 88), some (.int (if x3 ≤ x1 then x1 else x3)), some (.int x2), none, none]) eX11_tracks_73 rfl (Nat.le_of_ble_eq_true rfl) rfl).run ?_
      refine (go_iinc 2 (v := (x2 + 1)) (L' := [some (.ref 88), some (.int (if x3 ≤ x1 then x1 else x3)), some (.int (x2 + 1)), none, none]) eX11_tracks_74 rfl rfl (Nat.le_of_ble_eq_true rfl) rfl).run ?_
      refine (go_goto 4 eX11_tracks_77 rfl).run ?_
      exact (k1 h1)
    refine (bi_le 72 eX11_tracks_65 rfl).run (fun h2 => ?_) (fun h2 => ?_)
    · refine (go_iload_n 1 eX11_tracks_72 rfl rfl).run ?_
      refine (go_sub (L' := [some (.ref 88), none, some (.int x2), none, none]) (lsub_keep (lsub_drop (lsub_keep (lsub_drop (lsub_drop lsub_nil)))))).run ?_
      first | exact hJh2 | (simp only [if_pos h2] at hJh2; exact hJh2) | (simp only [eq_true h2, eq_false (i32_nlt.mpr h2), true_and, and_true, false_and, and_false, true_or, or_true, false_or, or_false, not_true_eq_false, not_false_eq_true] at hJh2; exact hJh2) | exact Run.eq (by simp [eq_true h2, eq_false (i32_nlt.mpr h2), bI]) (by simp [eq_true h2, eq_false (i32_nlt.mpr h2), bI]) rfl hJh2
    · refine (go_iload_n 3 eX11_tracks_68 rfl rfl).run ?_
      refine (go_goto 73 eX11_tracks_69 rfl).run ?_
      refine (go_sub (L' := [some (.ref 88), none, some (.int x2), none, none]) (lsub_keep (lsub_drop (lsub_keep (lsub_drop (lsub_drop lsub_nil)))))).run ?_
      first | exact hJh2 | (simp only [if_neg (i32_nle.mpr h2)] at hJh2; exact hJh2) | (simp only [eq_true h2, eq_false (i32_nle.mpr h2), true_and, and_true, false_and, and_false, true_or, or_true, false_or, or_false, not_true_eq_false, not_false_eq_true] at hJh2; exact hJh2) | exact Run.eq (by simp [eq_true h2, eq_false (i32_nle.mpr h2), bI]) (by simp [eq_true h2, eq_false (i32_nle.mpr h2), bI]) rfl hJh2
  · refine (go_iload_n 3 eX11_tracks_26 rfl rfl).run ?_
    refine (go_aload_n 0 eX11_tracks_27 rfl rfl).run ?_
    refine (go_getr flX11_39 rf_10_17 kd_88 gr_88_17 eX11_tracks_28).run ?_
    refine (go_iload 4 eX11_tracks_31 rfl).run ?_
    refine (go_iald kd_96 ln_96 (g1 h1) eX11_tracks_33).run ?_
    refine (go_bipush (v := -4) eX11_tracks_34 rfl).run ?_
    have hJh3 : Run MX11_tracks d 55 [some (.ref 88), some (.int x1), some (.int x2), none, some (.int x4)] [.int (bI ((¬ (σ.1 96 x4.toNatClampNeg) = (-4)) ∧ (σ.1 96 x4.toNatClampNeg) ≤ x2)), .int x3] σ Q := by
      refine (go_iadd eX11_tracks_55).run ?_
      refine (go_istore_n 3 (L' := [some (.ref 88), some (.int x1), some (.int x2), some (.int (x3 + (bI ((¬ (σ.1 96 x4.toNatClampNeg) = (-4)) ∧ (σ.1 96 x4.toNatClampNeg) ≤ x2)))), some (.int x4)]) eX11_tracks_56 rfl (Nat.le_of_ble_eq_true rfl) rfl).run ?_
      refine (go_iinc 4 (v := (x4 + 1)) (L' := [some (.ref 88), some (.int x1), some (.int x2), some (.int (x3 + (bI ((¬ (σ.1 96 x4.toNatClampNeg) = (-4)) ∧ (σ.1 96 x4.toNatClampNeg) ≤ x2)))), some (.int (x4 + 1))]) eX11_tracks_57 rfl rfl (Nat.le_of_ble_eq_true rfl) rfl).run ?_
      refine (go_goto 19 eX11_tracks_60 rfl).run ?_
      exact (k2 h1)
    refine (bi_eq 54 eX11_tracks_36 rfl).run (fun h3 => ?_) (fun h3 => ?_)
    · refine (go_iconst (v := 0) eX11_tracks_54 rfl).run ?_
      refine (go_sub (L' := [some (.ref 88), some (.int x1), some (.int x2), none, some (.int x4)]) (lsub_keep (lsub_keep (lsub_keep (lsub_drop (lsub_keep lsub_nil)))))).run ?_
      first | exact hJh3 | (simp only [if_pos h3] at hJh3; exact hJh3) | (simp only [eq_true h3, not_true_eq_false, true_and, and_true, false_and, and_false, true_or, or_true, false_or, or_false, not_true_eq_false, not_false_eq_true] at hJh3; exact hJh3) | exact Run.eq (by simp [eq_true h3, not_true_eq_false, bI]) (by simp [eq_true h3, not_true_eq_false, bI]) rfl hJh3
    · refine (go_aload_n 0 eX11_tracks_39 rfl rfl).run ?_
      refine (go_getr flX11_39 rf_10_17 kd_88 gr_88_17 eX11_tracks_40).run ?_
      refine (go_iload 4 eX11_tracks_43 rfl).run ?_
      refine (go_iald kd_96 ln_96 (g1 h1) eX11_tracks_45).run ?_
      refine (go_iload_n 2 eX11_tracks_46 rfl rfl).run ?_
      have hJh4 : Run MX11_tracks d 55 [some (.ref 88), some (.int x1), some (.int x2), none, some (.int x4)] [.int (bI ((σ.1 96 x4.toNatClampNeg) ≤ x2)), .int x3] σ Q := by
        first | exact hJh3 | (simp only [if_neg (h3)] at hJh3; exact hJh3) | (simp only [eq_false h3, not_false_eq_true, true_and, and_true, false_and, and_false, true_or, or_true, false_or, or_false, not_true_eq_false, not_false_eq_true] at hJh3; exact hJh3) | exact Run.eq (by simp [eq_false h3, not_false_eq_true, bI]) (by simp [eq_false h3, not_false_eq_true, bI]) rfl hJh3
      refine (bi_gt 54 eX11_tracks_47 rfl).run (fun h4 => ?_) (fun h4 => ?_)
      · refine (go_iconst (v := 0) eX11_tracks_54 rfl).run ?_
        refine (go_sub (L' := [some (.ref 88), some (.int x1), some (.int x2), none, some (.int x4)]) (lsub_keep (lsub_keep (lsub_keep (lsub_drop (lsub_keep lsub_nil)))))).run ?_
        first | exact hJh4 | (simp only [if_pos h4] at hJh4; exact hJh4) | (simp only [eq_true h4, eq_false (i32_nle.mpr h4), true_and, and_true, false_and, and_false, true_or, or_true, false_or, or_false, not_true_eq_false, not_false_eq_true] at hJh4; exact hJh4) | exact Run.eq (by simp [eq_true h4, eq_false (i32_nle.mpr h4), bI]) (by simp [eq_true h4, eq_false (i32_nle.mpr h4), bI]) rfl hJh4
      · refine (go_iconst (v := 1) eX11_tracks_50 rfl).run ?_
        refine (go_goto 55 eX11_tracks_51 rfl).run ?_
        refine (go_sub (L' := [some (.ref 88), some (.int x1), some (.int x2), none, some (.int x4)]) (lsub_keep (lsub_keep (lsub_keep (lsub_drop (lsub_keep lsub_nil)))))).run ?_
        first | exact hJh4 | (simp only [if_neg (i32_nlt.mpr h4)] at hJh4; exact hJh4) | (simp only [eq_true h4, eq_false (i32_nlt.mpr h4), true_and, and_true, false_and, and_false, true_or, or_true, false_or, or_false, not_true_eq_false, not_false_eq_true] at hJh4; exact hJh4) | exact Run.eq (by simp [eq_true h4, eq_false (i32_nlt.mpr h4), bI]) (by simp [eq_true h4, eq_false (i32_nlt.mpr h4), bI]) rfl hJh4

/-! CarryNetsModel.told -/
theorem eX11_told_0 : decode MX11_told.2.1 0 = .ok (.aload_n 0, 1) := by decide +kernel
theorem eX11_told_1 : decode MX11_told.2.1 1 = .ok (.iload_n 1, 1) := by decide +kernel
theorem eX11_told_2 : decode MX11_told.2.1 2 = .ok (.invokevirtual 175, 3) := by decide +kernel
theorem eX11_told_5 : decode MX11_told.2.1 5 = .ok (.ifCond .ne 5, 3) := by decide +kernel
theorem eX11_told_8 : decode MX11_told.2.1 8 = .ok (.iconst (-1), 1) := by decide +kernel
theorem eX11_told_9 : decode MX11_told.2.1 9 = .ok (.ireturn, 1) := by decide +kernel
theorem eX11_told_10 : decode MX11_told.2.1 10 = .ok (.iload_n 2, 1) := by decide +kernel
theorem eX11_told_11 : decode MX11_told.2.1 11 = .ok (.i2l, 1) := by decide +kernel
theorem eX11_told_12 : decode MX11_told.2.1 12 = .ok (.ldc2_w 178, 3) := by decide +kernel
theorem eX11_told_15 : decode MX11_told.2.1 15 = .ok (.bipush 99, 2) := by decide +kernel
theorem eX11_told_17 : decode MX11_told.2.1 17 = .ok (.aload_n 0, 1) := by decide +kernel
theorem eX11_told_18 : decode MX11_told.2.1 18 = .ok (.getfield 13, 3) := by decide +kernel
theorem eX11_told_21 : decode MX11_told.2.1 21 = .ok (.iload_n 1, 1) := by decide +kernel
theorem eX11_told_22 : decode MX11_told.2.1 22 = .ok (.iaload, 1) := by decide +kernel
theorem eX11_told_23 : decode MX11_told.2.1 23 = .ok (.iadd, 1) := by decide +kernel
theorem eX11_told_24 : decode MX11_told.2.1 24 = .ok (.i2l, 1) := by decide +kernel
theorem eX11_told_25 : decode MX11_told.2.1 25 = .ok (.invokestatic 109, 3) := by decide +kernel
theorem eX11_told_28 : decode MX11_told.2.1 28 = .ok (.ifCond .eq 16, 3) := by decide +kernel
theorem eX11_told_31 : decode MX11_told.2.1 31 = .ok (.aload_n 0, 1) := by decide +kernel
theorem eX11_told_32 : decode MX11_told.2.1 32 = .ok (.iload_n 1, 1) := by decide +kernel
theorem eX11_told_33 : decode MX11_told.2.1 33 = .ok (.iload_n 2, 1) := by decide +kernel
theorem eX11_told_34 : decode MX11_told.2.1 34 = .ok (.bipush 100, 2) := by decide +kernel
theorem eX11_told_36 : decode MX11_told.2.1 36 = .ok (.isub, 1) := by decide +kernel
theorem eX11_told_37 : decode MX11_told.2.1 37 = .ok (.invokevirtual 94, 3) := by decide +kernel
theorem eX11_told_40 : decode MX11_told.2.1 40 = .ok (.invokestatic 180, 3) := by decide +kernel
theorem eX11_told_43 : decode MX11_told.2.1 43 = .ok (.ireturn, 1) := by decide +kernel
theorem eX11_told_44 : decode MX11_told.2.1 44 = .ok (.iload_n 2, 1) := by decide +kernel
theorem eX11_told_45 : decode MX11_told.2.1 45 = .ok (.i2l, 1) := by decide +kernel
theorem eX11_told_46 : decode MX11_told.2.1 46 = .ok (.ldc2_w 184, 3) := by decide +kernel
theorem eX11_told_49 : decode MX11_told.2.1 49 = .ok (.sipush 199, 3) := by decide +kernel
theorem eX11_told_52 : decode MX11_told.2.1 52 = .ok (.aload_n 0, 1) := by decide +kernel
theorem eX11_told_53 : decode MX11_told.2.1 53 = .ok (.getfield 7, 3) := by decide +kernel
theorem eX11_told_56 : decode MX11_told.2.1 56 = .ok (.iload_n 1, 1) := by decide +kernel
theorem eX11_told_57 : decode MX11_told.2.1 57 = .ok (.iaload, 1) := by decide +kernel
theorem eX11_told_58 : decode MX11_told.2.1 58 = .ok (.iadd, 1) := by decide +kernel
theorem eX11_told_59 : decode MX11_told.2.1 59 = .ok (.i2l, 1) := by decide +kernel
theorem eX11_told_60 : decode MX11_told.2.1 60 = .ok (.invokestatic 109, 3) := by decide +kernel
theorem eX11_told_63 : decode MX11_told.2.1 63 = .ok (.ifCond .eq 25, 3) := by decide +kernel
theorem eX11_told_66 : decode MX11_told.2.1 66 = .ok (.aload_n 0, 1) := by decide +kernel
theorem eX11_told_67 : decode MX11_told.2.1 67 = .ok (.iload_n 1, 1) := by decide +kernel
theorem eX11_told_68 : decode MX11_told.2.1 68 = .ok (.aload_n 0, 1) := by decide +kernel
theorem eX11_told_69 : decode MX11_told.2.1 69 = .ok (.getfield 13, 3) := by decide +kernel
theorem eX11_told_72 : decode MX11_told.2.1 72 = .ok (.iload_n 1, 1) := by decide +kernel
theorem eX11_told_73 : decode MX11_told.2.1 73 = .ok (.iaload, 1) := by decide +kernel
theorem eX11_told_74 : decode MX11_told.2.1 74 = .ok (.invokevirtual 102, 3) := by decide +kernel
theorem eX11_told_77 : decode MX11_told.2.1 77 = .ok (.aload_n 0, 1) := by decide +kernel
theorem eX11_told_78 : decode MX11_told.2.1 78 = .ok (.getfield 30, 3) := by decide +kernel
theorem eX11_told_81 : decode MX11_told.2.1 81 = .ok (.iload_n 2, 1) := by decide +kernel
theorem eX11_told_82 : decode MX11_told.2.1 82 = .ok (.sipush 200, 3) := by decide +kernel
theorem eX11_told_85 : decode MX11_told.2.1 85 = .ok (.isub, 1) := by decide +kernel
theorem eX11_told_86 : decode MX11_told.2.1 86 = .ok (.iaload, 1) := by decide +kernel
theorem eX11_told_87 : decode MX11_told.2.1 87 = .ok (.ireturn, 1) := by decide +kernel
theorem eX11_told_88 : decode MX11_told.2.1 88 = .ok (.iconst 0, 1) := by decide +kernel
theorem eX11_told_89 : decode MX11_told.2.1 89 = .ok (.istore_n 3, 1) := by decide +kernel
theorem eX11_told_90 : decode MX11_told.2.1 90 = .ok (.iconst 0, 1) := by decide +kernel
theorem eX11_told_91 : decode MX11_told.2.1 91 = .ok (.istore 4, 2) := by decide +kernel
theorem eX11_told_93 : decode MX11_told.2.1 93 = .ok (.iconst 0, 1) := by decide +kernel
theorem eX11_told_94 : decode MX11_told.2.1 94 = .ok (.istore 5, 2) := by decide +kernel
theorem eX11_told_96 : decode MX11_told.2.1 96 = .ok (.iconst 0, 1) := by decide +kernel
theorem eX11_told_97 : decode MX11_told.2.1 97 = .ok (.istore 6, 2) := by decide +kernel
theorem eX11_told_99 : decode MX11_told.2.1 99 = .ok (.iconst 0, 1) := by decide +kernel
theorem eX11_told_100 : decode MX11_told.2.1 100 = .ok (.istore 7, 2) := by decide +kernel
theorem eX11_told_102 : decode MX11_told.2.1 102 = .ok (.iconst 0, 1) := by decide +kernel
theorem eX11_told_103 : decode MX11_told.2.1 103 = .ok (.istore 8, 2) := by decide +kernel
theorem eX11_told_105 : decode MX11_told.2.1 105 = .ok (.iload 8, 2) := by decide +kernel
theorem eX11_told_107 : decode MX11_told.2.1 107 = .ok (.aload_n 0, 1) := by decide +kernel
theorem eX11_told_108 : decode MX11_told.2.1 108 = .ok (.getfield 13, 3) := by decide +kernel
theorem eX11_told_111 : decode MX11_told.2.1 111 = .ok (.iload_n 1, 1) := by decide +kernel
theorem eX11_told_112 : decode MX11_told.2.1 112 = .ok (.iaload, 1) := by decide +kernel
theorem eX11_told_113 : decode MX11_told.2.1 113 = .ok (.if_icmp .ge 144, 3) := by decide +kernel
theorem eX11_told_116 : decode MX11_told.2.1 116 = .ok (.aload_n 0, 1) := by decide +kernel
theorem eX11_told_117 : decode MX11_told.2.1 117 = .ok (.iload_n 1, 1) := by decide +kernel
theorem eX11_told_118 : decode MX11_told.2.1 118 = .ok (.iload 8, 2) := by decide +kernel
theorem eX11_told_120 : decode MX11_told.2.1 120 = .ok (.invokevirtual 186, 3) := by decide +kernel
theorem eX11_told_123 : decode MX11_told.2.1 123 = .ok (.iconst 0, 1) := by decide +kernel
theorem eX11_told_124 : decode MX11_told.2.1 124 = .ok (.istore 9, 2) := by decide +kernel
theorem eX11_told_126 : decode MX11_told.2.1 126 = .ok (.iload 9, 2) := by decide +kernel
theorem eX11_told_128 : decode MX11_told.2.1 128 = .ok (.aload_n 0, 1) := by decide +kernel
theorem eX11_told_129 : decode MX11_told.2.1 129 = .ok (.getfield 7, 3) := by decide +kernel
theorem eX11_told_132 : decode MX11_told.2.1 132 = .ok (.iload_n 1, 1) := by decide +kernel
theorem eX11_told_133 : decode MX11_told.2.1 133 = .ok (.iaload, 1) := by decide +kernel
theorem eX11_told_134 : decode MX11_told.2.1 134 = .ok (.if_icmp .ge 97, 3) := by decide +kernel
theorem eX11_told_137 : decode MX11_told.2.1 137 = .ok (.aload_n 0, 1) := by decide +kernel
theorem eX11_told_138 : decode MX11_told.2.1 138 = .ok (.getfield 39, 3) := by decide +kernel
theorem eX11_told_141 : decode MX11_told.2.1 141 = .ok (.iload 9, 2) := by decide +kernel
theorem eX11_told_143 : decode MX11_told.2.1 143 = .ok (.iaload, 1) := by decide +kernel
theorem eX11_told_144 : decode MX11_told.2.1 144 = .ok (.bipush (-4), 2) := by decide +kernel
theorem eX11_told_146 : decode MX11_told.2.1 146 = .ok (.if_icmp .ne 7, 3) := by decide +kernel
theorem eX11_told_149 : decode MX11_told.2.1 149 = .ok (.iconst 0, 1) := by decide +kernel
theorem eX11_told_150 : decode MX11_told.2.1 150 = .ok (.goto 13, 3) := by decide +kernel
theorem eX11_told_153 : decode MX11_told.2.1 153 = .ok (.iload 9, 2) := by decide +kernel
theorem eX11_told_155 : decode MX11_told.2.1 155 = .ok (.aload_n 0, 1) := by decide +kernel
theorem eX11_told_156 : decode MX11_told.2.1 156 = .ok (.getfield 39, 3) := by decide +kernel
theorem eX11_told_159 : decode MX11_told.2.1 159 = .ok (.iload 9, 2) := by decide +kernel
theorem eX11_told_161 : decode MX11_told.2.1 161 = .ok (.iaload, 1) := by decide +kernel
theorem eX11_told_162 : decode MX11_told.2.1 162 = .ok (.isub, 1) := by decide +kernel
theorem eX11_told_163 : decode MX11_told.2.1 163 = .ok (.istore 10, 2) := by decide +kernel
theorem eX11_told_165 : decode MX11_told.2.1 165 = .ok (.iload_n 3, 1) := by decide +kernel
theorem eX11_told_166 : decode MX11_told.2.1 166 = .ok (.iload 10, 2) := by decide +kernel
theorem eX11_told_168 : decode MX11_told.2.1 168 = .ok (.ifCond .le 7, 3) := by decide +kernel
theorem eX11_told_171 : decode MX11_told.2.1 171 = .ok (.iconst 1, 1) := by decide +kernel
theorem eX11_told_172 : decode MX11_told.2.1 172 = .ok (.goto 4, 3) := by decide +kernel
theorem eX11_told_175 : decode MX11_told.2.1 175 = .ok (.iconst 0, 1) := by decide +kernel
theorem eX11_told_176 : decode MX11_told.2.1 176 = .ok (.iadd, 1) := by decide +kernel
theorem eX11_told_177 : decode MX11_told.2.1 177 = .ok (.istore_n 3, 1) := by decide +kernel
theorem eX11_told_178 : decode MX11_told.2.1 178 = .ok (.iload 5, 2) := by decide +kernel
theorem eX11_told_180 : decode MX11_told.2.1 180 = .ok (.iload 10, 2) := by decide +kernel
theorem eX11_told_182 : decode MX11_told.2.1 182 = .ok (.iadd, 1) := by decide +kernel
theorem eX11_told_183 : decode MX11_told.2.1 183 = .ok (.istore 5, 2) := by decide +kernel
theorem eX11_told_185 : decode MX11_told.2.1 185 = .ok (.iload 10, 2) := by decide +kernel
theorem eX11_told_187 : decode MX11_told.2.1 187 = .ok (.iload 7, 2) := by decide +kernel
theorem eX11_told_189 : decode MX11_told.2.1 189 = .ok (.if_icmp .le 8, 3) := by decide +kernel
theorem eX11_told_192 : decode MX11_told.2.1 192 = .ok (.iload 10, 2) := by decide +kernel
theorem eX11_told_194 : decode MX11_told.2.1 194 = .ok (.goto 5, 3) := by decide +kernel
theorem eX11_told_197 : decode MX11_told.2.1 197 = .ok (.iload 7, 2) := by decide +kernel
theorem eX11_told_199 : decode MX11_told.2.1 199 = .ok (.istore 7, 2) := by decide +kernel
theorem eX11_told_201 : decode MX11_told.2.1 201 = .ok (.aload_n 0, 1) := by decide +kernel
theorem eX11_told_202 : decode MX11_told.2.1 202 = .ok (.iload 9, 2) := by decide +kernel
theorem eX11_told_204 : decode MX11_told.2.1 204 = .ok (.invokevirtual 189, 3) := by decide +kernel
theorem eX11_told_207 : decode MX11_told.2.1 207 = .ok (.iload 4, 2) := by decide +kernel
theorem eX11_told_209 : decode MX11_told.2.1 209 = .ok (.if_icmp .le 12, 3) := by decide +kernel
theorem eX11_told_212 : decode MX11_told.2.1 212 = .ok (.aload_n 0, 1) := by decide +kernel
theorem eX11_told_213 : decode MX11_told.2.1 213 = .ok (.iload 9, 2) := by decide +kernel
theorem eX11_told_215 : decode MX11_told.2.1 215 = .ok (.invokevirtual 189, 3) := by decide +kernel
theorem eX11_told_218 : decode MX11_told.2.1 218 = .ok (.goto 5, 3) := by decide +kernel
theorem eX11_told_221 : decode MX11_told.2.1 221 = .ok (.iload 4, 2) := by decide +kernel
theorem eX11_told_223 : decode MX11_told.2.1 223 = .ok (.istore 4, 2) := by decide +kernel
theorem eX11_told_225 : decode MX11_told.2.1 225 = .ok (.iinc 9 1, 3) := by decide +kernel
theorem eX11_told_228 : decode MX11_told.2.1 228 = .ok (.goto (-102), 3) := by decide +kernel
theorem eX11_told_231 : decode MX11_told.2.1 231 = .ok (.aload_n 0, 1) := by decide +kernel
theorem eX11_told_232 : decode MX11_told.2.1 232 = .ok (.invokevirtual 192, 3) := by decide +kernel
theorem eX11_told_235 : decode MX11_told.2.1 235 = .ok (.iload 6, 2) := by decide +kernel
theorem eX11_told_237 : decode MX11_told.2.1 237 = .ok (.if_icmp .le 10, 3) := by decide +kernel
theorem eX11_told_240 : decode MX11_told.2.1 240 = .ok (.aload_n 0, 1) := by decide +kernel
theorem eX11_told_241 : decode MX11_told.2.1 241 = .ok (.invokevirtual 192, 3) := by decide +kernel
theorem eX11_told_244 : decode MX11_told.2.1 244 = .ok (.goto 5, 3) := by decide +kernel
theorem eX11_told_247 : decode MX11_told.2.1 247 = .ok (.iload 6, 2) := by decide +kernel
theorem eX11_told_249 : decode MX11_told.2.1 249 = .ok (.istore 6, 2) := by decide +kernel
theorem eX11_told_251 : decode MX11_told.2.1 251 = .ok (.iinc 8 1, 3) := by decide +kernel
theorem eX11_told_254 : decode MX11_told.2.1 254 = .ok (.goto (-149), 3) := by decide +kernel
theorem eX11_told_257 : decode MX11_told.2.1 257 = .ok (.iload_n 2, 1) := by decide +kernel
theorem eX11_told_258 : decode MX11_told.2.1 258 = .ok (.tableswitch 88 0 7 #[46, 53, 60, 62, 76, 79, 82, 85], 46) := by decide +kernel
theorem eX11_told_304 : decode MX11_told.2.1 304 = .ok (.aload_n 0, 1) := by decide +kernel
theorem eX11_told_305 : decode MX11_told.2.1 305 = .ok (.getfield 7, 3) := by decide +kernel
theorem eX11_told_308 : decode MX11_told.2.1 308 = .ok (.iload_n 1, 1) := by decide +kernel
theorem eX11_told_309 : decode MX11_told.2.1 309 = .ok (.iaload, 1) := by decide +kernel
theorem eX11_told_310 : decode MX11_told.2.1 310 = .ok (.ireturn, 1) := by decide +kernel
theorem eX11_told_311 : decode MX11_told.2.1 311 = .ok (.aload_n 0, 1) := by decide +kernel
theorem eX11_told_312 : decode MX11_told.2.1 312 = .ok (.getfield 13, 3) := by decide +kernel
theorem eX11_told_315 : decode MX11_told.2.1 315 = .ok (.iload_n 1, 1) := by decide +kernel
theorem eX11_told_316 : decode MX11_told.2.1 316 = .ok (.iaload, 1) := by decide +kernel
theorem eX11_told_317 : decode MX11_told.2.1 317 = .ok (.ireturn, 1) := by decide +kernel
theorem eX11_told_318 : decode MX11_told.2.1 318 = .ok (.iload_n 3, 1) := by decide +kernel
theorem eX11_told_319 : decode MX11_told.2.1 319 = .ok (.ireturn, 1) := by decide +kernel
theorem eX11_told_320 : decode MX11_told.2.1 320 = .ok (.aload_n 0, 1) := by decide +kernel
theorem eX11_told_321 : decode MX11_told.2.1 321 = .ok (.iload_n 1, 1) := by decide +kernel
theorem eX11_told_322 : decode MX11_told.2.1 322 = .ok (.invokevirtual 196, 3) := by decide +kernel
theorem eX11_told_325 : decode MX11_told.2.1 325 = .ok (.ifCond .eq 7, 3) := by decide +kernel
theorem eX11_told_328 : decode MX11_told.2.1 328 = .ok (.iconst 1, 1) := by decide +kernel
theorem eX11_told_329 : decode MX11_told.2.1 329 = .ok (.goto 4, 3) := by decide +kernel
theorem eX11_told_332 : decode MX11_told.2.1 332 = .ok (.iconst 0, 1) := by decide +kernel
theorem eX11_told_333 : decode MX11_told.2.1 333 = .ok (.ireturn, 1) := by decide +kernel
theorem eX11_told_334 : decode MX11_told.2.1 334 = .ok (.iload 4, 2) := by decide +kernel
theorem eX11_told_336 : decode MX11_told.2.1 336 = .ok (.ireturn, 1) := by decide +kernel
theorem eX11_told_337 : decode MX11_told.2.1 337 = .ok (.iload 5, 2) := by decide +kernel
theorem eX11_told_339 : decode MX11_told.2.1 339 = .ok (.ireturn, 1) := by decide +kernel
theorem eX11_told_340 : decode MX11_told.2.1 340 = .ok (.iload 6, 2) := by decide +kernel
theorem eX11_told_342 : decode MX11_told.2.1 342 = .ok (.ireturn, 1) := by decide +kernel
theorem eX11_told_343 : decode MX11_told.2.1 343 = .ok (.iload 7, 2) := by decide +kernel
theorem eX11_told_345 : decode MX11_told.2.1 345 = .ok (.ireturn, 1) := by decide +kernel
theorem eX11_told_346 : decode MX11_told.2.1 346 = .ok (.iconst (-1), 1) := by decide +kernel
theorem eX11_told_347 : decode MX11_told.2.1 347 = .ok (.ireturn, 1) := by decide +kernel
set_option maxRecDepth 20000 in
theorem bX11_told_0 {d : Nat} {Q : Option Value → St → Prop} (x1 : Int32) (x2 : Int32) (σ : St) 
    (g1 : ((0 : Int64) ≤ x1.toInt64 ∧ x1.toInt64 ≤ (((σ.1 88 0) - 1).toInt64)) → vp_in x1 8)
    (g2 : ((0 : Int64) ≤ x1.toInt64 ∧ x1.toInt64 ≤ (((σ.1 88 0) - 1).toInt64)) → ((100 : Int64) ≤ x2.toInt64 ∧ x2.toInt64 ≤ (((99 : Int32) + (σ.1 90 x1.toNatClampNeg)).toInt64)) → vp_in (((32 : Int32) * x1) + (x2 - 100)) 256)
    (k1 : ((0 : Int64) ≤ x1.toInt64 ∧ x1.toInt64 ≤ (((σ.1 88 0) - 1).toInt64)) → (¬ ((100 : Int64) ≤ x2.toInt64 ∧ x2.toInt64 ≤ (((99 : Int32) + (σ.1 90 x1.toNatClampNeg)).toInt64))) → (¬ ((200 : Int64) ≤ x2.toInt64 ∧ x2.toInt64 ≤ (((199 : Int32) + (σ.1 89 x1.toNatClampNeg)).toInt64))) → Run MX11_told (d + 3) 105 [some (.ref 88), some (.int x1), some (.int x2), some (.int 0), some (.int 0), some (.int 0), some (.int 0), some (.int 0), some (.int 0), none, none] [] σ Q)
    (k2 : ((0 : Int64) ≤ x1.toInt64 ∧ x1.toInt64 ≤ (((σ.1 88 0) - 1).toInt64)) → (¬ ((100 : Int64) ≤ x2.toInt64 ∧ x2.toInt64 ≤ (((99 : Int32) + (σ.1 90 x1.toNatClampNeg)).toInt64))) → ((200 : Int64) ≤ x2.toInt64 ∧ x2.toInt64 ≤ (((199 : Int32) + (σ.1 89 x1.toNatClampNeg)).toInt64)) → Ct yX11_goesTo MX11_goesTo (d + 2) [.ref 88, .int x1, .int (σ.1 90 x1.toNatClampNeg)] σ (fun v σ1 => Run MX11_told (d + 3) 77 [some (.ref 88), none, some (.int x2), none, none, none, none, none, none, none, none] (v.toList ++ []) σ1 Q))
    (k3 : ((0 : Int64) ≤ x1.toInt64 ∧ x1.toInt64 ≤ (((σ.1 88 0) - 1).toInt64)) → ((100 : Int64) ≤ x2.toInt64 ∧ x2.toInt64 ≤ (((99 : Int32) + (σ.1 90 x1.toNatClampNeg)).toInt64)) → Ct yX11_bits MX11_bits (d + 2) [.long ((rX11_cellsOf x1 (x2 - 100) σ))] σ (fun v σ1 => Run MX11_told (d + 3) 43 [none, none, none, none, none, none, none, none, none, none, none] (v.toList ++ []) σ1 Q))
    (k4 : (¬ ((0 : Int64) ≤ x1.toInt64 ∧ x1.toInt64 ≤ (((σ.1 88 0) - 1).toInt64))) → Q (some (.int (-1))) σ)
    : Run MX11_told (d + 3) 0 [some (.ref 88), some (.int x1), some (.int x2), none, none, none, none, none, none, none, none] [] σ Q := by
  refine (go_aload_n 0 eX11_told_0 rfl rfl).run ?_
  refine (go_iload_n 1 eX11_told_1 rfl rfl).run ?_
  refine Run.callV1 (d := (d + 2)) (As := [.int x1]) (r := .int (bI ((0 : Int64) ≤ x1.toInt64 ∧ x1.toInt64 ≤ (((σ.1 88 0) - 1).toInt64)))) mX11_isNet lkX11_175 kd_88 (by decide) rfl rfl rfl rfl rfl (Nat.le_of_ble_eq_true rfl) eX11_told_2 (qX11_isNet (d + 1) x1 σ  ) ?_
  refine (br_ifne_b 10 eX11_told_5 rfl).run (fun h1 => ?_) (fun h1 => ?_)
  · refine (go_iload_n 2 eX11_told_10 rfl rfl).run ?_
    refine (go_i2l eX11_told_11).run ?_
    refine (go_ldc2 csX11_178 eX11_told_12).run ?_
    refine (go_bipush (v := 99) eX11_told_15 rfl).run ?_
    refine (go_aload_n 0 eX11_told_17 rfl rfl).run ?_
    refine (go_getr flX11_13 rf_10_2 kd_88 gr_88_2 eX11_told_18).run ?_
    refine (go_iload_n 1 eX11_told_21 rfl rfl).run ?_
    refine (go_iald kd_90 ln_90 (g1 h1) eX11_told_22).run ?_
    refine (go_iadd eX11_told_23).run ?_
    refine (go_i2l eX11_told_24).run ?_
    refine Run.callS1 (d := (d + 2)) (As := [.long x2.toInt64, .long (100), .long (((99 : Int32) + (σ.1 90 x1.toNatClampNeg)).toInt64)]) (r := .int (bI ((100 : Int64) ≤ x2.toInt64 ∧ x2.toInt64 ≤ (((99 : Int32) + (σ.1 90 x1.toNatClampNeg)).toInt64)))) mX11_in lkX11_109 rfl rfl rfl (Nat.le_of_ble_eq_true rfl) eX11_told_25 (qX11_in (d + 2) x2.toInt64 (100 : Int64) (((99 : Int32) + (σ.1 90 x1.toNatClampNeg)).toInt64) σ  ) ?_
    refine (br_ifeq_b 44 eX11_told_28 rfl).run (fun h2 => ?_) (fun h2 => ?_)
    · refine (go_iload_n 2 eX11_told_44 rfl rfl).run ?_
      refine (go_i2l eX11_told_45).run ?_
      refine (go_ldc2 csX11_184 eX11_told_46).run ?_
      refine (go_sipush (v := 199) eX11_told_49 rfl).run ?_
      refine (go_aload_n 0 eX11_told_52 rfl rfl).run ?_
      refine (go_getr flX11_7 rf_10_1 kd_88 gr_88_1 eX11_told_53).run ?_
      refine (go_iload_n 1 eX11_told_56 rfl rfl).run ?_
      refine (go_iald kd_89 ln_89 (g1 h1) eX11_told_57).run ?_
      refine (go_iadd eX11_told_58).run ?_
      refine (go_i2l eX11_told_59).run ?_
      refine Run.callS1 (d := (d + 2)) (As := [.long x2.toInt64, .long (200), .long (((199 : Int32) + (σ.1 89 x1.toNatClampNeg)).toInt64)]) (r := .int (bI ((200 : Int64) ≤ x2.toInt64 ∧ x2.toInt64 ≤ (((199 : Int32) + (σ.1 89 x1.toNatClampNeg)).toInt64)))) mX11_in lkX11_109 rfl rfl rfl (Nat.le_of_ble_eq_true rfl) eX11_told_60 (qX11_in (d + 2) x2.toInt64 (200 : Int64) (((199 : Int32) + (σ.1 89 x1.toNatClampNeg)).toInt64) σ  ) ?_
      refine (br_ifeq_b 88 eX11_told_63 rfl).run (fun h3 => ?_) (fun h3 => ?_)
      · refine (go_iconst (v := 0) eX11_told_88 rfl).run ?_
        refine (go_istore_n 3 (L' := [some (.ref 88), some (.int x1), some (.int x2), some (.int 0), none, none, none, none, none, none, none]) eX11_told_89 rfl (Nat.le_of_ble_eq_true rfl) rfl).run ?_
        refine (go_iconst (v := 0) eX11_told_90 rfl).run ?_
        refine (go_istore 4 (L' := [some (.ref 88), some (.int x1), some (.int x2), some (.int 0), some (.int 0), none, none, none, none, none, none]) eX11_told_91 (Nat.le_of_ble_eq_true rfl) rfl).run ?_
        refine (go_iconst (v := 0) eX11_told_93 rfl).run ?_
        refine (go_istore 5 (L' := [some (.ref 88), some (.int x1), some (.int x2), some (.int 0), some (.int 0), some (.int 0), none, none, none, none, none]) eX11_told_94 (Nat.le_of_ble_eq_true rfl) rfl).run ?_
        refine (go_iconst (v := 0) eX11_told_96 rfl).run ?_
        refine (go_istore 6 (L' := [some (.ref 88), some (.int x1), some (.int x2), some (.int 0), some (.int 0), some (.int 0), some (.int 0), none, none, none, none]) eX11_told_97 (Nat.le_of_ble_eq_true rfl) rfl).run ?_
        refine (go_iconst (v := 0) eX11_told_99 rfl).run ?_
        refine (go_istore 7 (L' := [some (.ref 88), some (.int x1), some (.int x2), some (.int 0), some (.int 0), some (.int 0), some (.int 0), some (.int 0), none, none, none]) eX11_told_100 (Nat.le_of_ble_eq_true rfl) rfl).run ?_
        refine (go_iconst (v := 0) eX11_told_102 rfl).run ?_
        refine (go_istore 8 (L' := [some (.ref 88), some (.int x1), some (.int x2), some (.int 0), some (.int 0), some (.int 0), some (.int 0), some (.int 0), some (.int 0), none, none]) eX11_told_103 (Nat.le_of_ble_eq_true rfl) rfl).run ?_
        exact (k1 h1 h2 h3)
      · refine (go_aload_n 0 eX11_told_66 rfl rfl).run ?_
        refine (go_iload_n 1 eX11_told_67 rfl rfl).run ?_
        refine (go_aload_n 0 eX11_told_68 rfl rfl).run ?_
        refine (go_getr flX11_13 rf_10_2 kd_88 gr_88_2 eX11_told_69).run ?_
        refine (go_iload_n 1 eX11_told_72 rfl rfl).run ?_
        refine (go_iald kd_90 ln_90 (g1 h1) eX11_told_73).run ?_
        refine (go_sub (L' := [some (.ref 88), none, some (.int x2), none, none, none, none, none, none, none, none]) (lsub_keep (lsub_drop (lsub_keep (lsub_keep (lsub_keep (lsub_keep (lsub_keep (lsub_keep (lsub_keep (lsub_keep (lsub_keep lsub_nil)))))))))))).run ?_
        exact Run.callV (d := (d + 2)) (As := [.int x1, .int (σ.1 90 x1.toNatClampNeg)]) mX11_goesTo lkX11_102 kd_88 (by decide) rfl rfl rfl rfl rfl (Nat.le_of_ble_eq_true rfl) eX11_told_74 (k2 h1 h2 h3)
    · refine (go_aload_n 0 eX11_told_31 rfl rfl).run ?_
      refine (go_iload_n 1 eX11_told_32 rfl rfl).run ?_
      refine (go_iload_n 2 eX11_told_33 rfl rfl).run ?_
      refine (go_bipush (v := 100) eX11_told_34 rfl).run ?_
      refine (go_isub eX11_told_36).run ?_
      refine Run.callV1 (d := (d + 2)) (As := [.int x1, .int (x2 - 100)]) (r := .long ((rX11_cellsOf x1 (x2 - 100) σ))) mX11_cellsOf lkX11_94 kd_88 (by decide) rfl rfl rfl rfl rfl (Nat.le_of_ble_eq_true rfl) eX11_told_37 (qX11_cellsOf (d + 2) x1 (x2 - 100) σ  (g2 h1 h2)) ?_
      refine (go_sub (L' := [none, none, none, none, none, none, none, none, none, none, none]) (lsub_drop (lsub_drop (lsub_drop (lsub_keep (lsub_keep (lsub_keep (lsub_keep (lsub_keep (lsub_keep (lsub_keep (lsub_keep lsub_nil)))))))))))).run ?_
      exact Run.callS (d := (d + 2)) (As := [.long ((rX11_cellsOf x1 (x2 - 100) σ))]) mX11_bits lkX11_180 rfl rfl rfl (Nat.le_of_ble_eq_true rfl) eX11_told_40 (k3 h1 h2)
  · refine (go_iconst (v := -1) eX11_told_8 rfl).run ?_
    exact Run.ret (v := some (.int (-1))) (k4 h1) ⟨Or.inl rfl, eX11_told_9⟩ rfl

set_option maxRecDepth 20000 in
theorem bX11_told_105 {d : Nat} {Q : Option Value → St → Prop} (x1 : Int32) (x2 : Int32) (x3 : Int32) (x4 : Int32) (x5 : Int32) (x6 : Int32) (x7 : Int32) (x8 : Int32) (σ : St) 
    (g1 : vp_in x1 8)
    (k1 : (σ.1 90 x1.toNatClampNeg) ≤ x8 → x2 = 0 → Q (some (.int (σ.1 89 x1.toNatClampNeg))) σ)
    (k2 : (σ.1 90 x1.toNatClampNeg) ≤ x8 → x2 = 1 → Q (some (.int (σ.1 90 x1.toNatClampNeg))) σ)
    (k3 : (σ.1 90 x1.toNatClampNeg) ≤ x8 → x2 = 2 → Q (some (.int x3)) σ)
    (k4 : (σ.1 90 x1.toNatClampNeg) ≤ x8 → x2 = 3 → Ct yX11_isWhole MX11_isWhole (d + 2) [.ref 88, .int x1] σ (fun v σ1 => Run MX11_told (d + 3) 325 [none, none, none, none, none, none, none, none, none, none, none] (v.toList ++ []) σ1 Q))
    (k5 : (σ.1 90 x1.toNatClampNeg) ≤ x8 → x2 = 4 → Q (some (.int x4)) σ)
    (k6 : (σ.1 90 x1.toNatClampNeg) ≤ x8 → x2 = 5 → Q (some (.int x5)) σ)
    (k7 : (σ.1 90 x1.toNatClampNeg) ≤ x8 → x2 = 6 → Q (some (.int x6)) σ)
    (k8 : (σ.1 90 x1.toNatClampNeg) ≤ x8 → x2 = 7 → Q (some (.int x7)) σ)
    (k9 : (σ.1 90 x1.toNatClampNeg) ≤ x8 → (x2.toInt < 0 ∨ 7 < x2.toInt) → Q (some (.int (-1))) σ)
    (k10 : x8 < (σ.1 90 x1.toNatClampNeg) → Ct yX11_findTakes MX11_findTakes (d + 2) [.ref 88, .int x1, .int x8] σ (fun v σ1 => Run MX11_told (d + 3) 123 [some (.ref 88), some (.int x1), some (.int x2), some (.int x3), some (.int x4), some (.int x5), some (.int x6), some (.int x7), some (.int x8), none, none] (v.toList ++ []) σ1 Q))
    : Run MX11_told (d + 3) 105 [some (.ref 88), some (.int x1), some (.int x2), some (.int x3), some (.int x4), some (.int x5), some (.int x6), some (.int x7), some (.int x8), none, none] [] σ Q := by
  refine (go_iload 8 eX11_told_105 rfl).run ?_
  refine (go_aload_n 0 eX11_told_107 rfl rfl).run ?_
  refine (go_getr flX11_13 rf_10_2 kd_88 gr_88_2 eX11_told_108).run ?_
  refine (go_iload_n 1 eX11_told_111 rfl rfl).run ?_
  refine (go_iald kd_90 ln_90 g1 eX11_told_112).run ?_
  refine (bi_ge 257 eX11_told_113 rfl).run (fun h1 => ?_) (fun h1 => ?_)
  · refine (go_iload_n 2 eX11_told_257 rfl rfl).run ?_
    by_cases h2 : x2 = 0
    · refine (go_tableIn 304 eX11_told_258 (by rw [h2]; decide) (by rw [h2]; decide) (by rw [h2]; rfl) rfl).run ?_
      refine (go_aload_n 0 eX11_told_304 rfl rfl).run ?_
      refine (go_getr flX11_7 rf_10_1 kd_88 gr_88_1 eX11_told_305).run ?_
      refine (go_iload_n 1 eX11_told_308 rfl rfl).run ?_
      refine (go_iald kd_89 ln_89 g1 eX11_told_309).run ?_
      exact Run.ret (v := some (.int (σ.1 89 x1.toNatClampNeg))) (k1 h1 h2) ⟨Or.inl rfl, eX11_told_310⟩ rfl
    have nh2_0 := h2
    clear h2
    by_cases h2 : x2 = 1
    · refine (go_tableIn 311 eX11_told_258 (by rw [h2]; decide) (by rw [h2]; decide) (by rw [h2]; rfl) rfl).run ?_
      refine (go_aload_n 0 eX11_told_311 rfl rfl).run ?_
      refine (go_getr flX11_13 rf_10_2 kd_88 gr_88_2 eX11_told_312).run ?_
      refine (go_iload_n 1 eX11_told_315 rfl rfl).run ?_
      refine (go_iald kd_90 ln_90 g1 eX11_told_316).run ?_
      exact Run.ret (v := some (.int (σ.1 90 x1.toNatClampNeg))) (k2 h1 h2) ⟨Or.inl rfl, eX11_told_317⟩ rfl
    have nh2_1 := h2
    clear h2
    by_cases h2 : x2 = 2
    · refine (go_tableIn 318 eX11_told_258 (by rw [h2]; decide) (by rw [h2]; decide) (by rw [h2]; rfl) rfl).run ?_
      refine (go_iload_n 3 eX11_told_318 rfl rfl).run ?_
      exact Run.ret (v := some (.int x3)) (k3 h1 h2) ⟨Or.inl rfl, eX11_told_319⟩ rfl
    have nh2_2 := h2
    clear h2
    by_cases h2 : x2 = 3
    · refine (go_tableIn 320 eX11_told_258 (by rw [h2]; decide) (by rw [h2]; decide) (by rw [h2]; rfl) rfl).run ?_
      refine (go_aload_n 0 eX11_told_320 rfl rfl).run ?_
      refine (go_iload_n 1 eX11_told_321 rfl rfl).run ?_
      refine (go_sub (L' := [none, none, none, none, none, none, none, none, none, none, none]) (lsub_drop (lsub_drop (lsub_drop (lsub_drop (lsub_drop (lsub_drop (lsub_drop (lsub_drop (lsub_drop (lsub_keep (lsub_keep lsub_nil)))))))))))).run ?_
      exact Run.callV (d := (d + 2)) (As := [.int x1]) mX11_isWhole lkX11_196 kd_88 (by decide) rfl rfl rfl rfl rfl (Nat.le_of_ble_eq_true rfl) eX11_told_322 (k4 h1 h2)
    have nh2_3 := h2
    clear h2
    by_cases h2 : x2 = 4
    · refine (go_tableIn 334 eX11_told_258 (by rw [h2]; decide) (by rw [h2]; decide) (by rw [h2]; rfl) rfl).run ?_
      refine (go_iload 4 eX11_told_334 rfl).run ?_
      exact Run.ret (v := some (.int x4)) (k5 h1 h2) ⟨Or.inl rfl, eX11_told_336⟩ rfl
    have nh2_4 := h2
    clear h2
    by_cases h2 : x2 = 5
    · refine (go_tableIn 337 eX11_told_258 (by rw [h2]; decide) (by rw [h2]; decide) (by rw [h2]; rfl) rfl).run ?_
      refine (go_iload 5 eX11_told_337 rfl).run ?_
      exact Run.ret (v := some (.int x5)) (k6 h1 h2) ⟨Or.inl rfl, eX11_told_339⟩ rfl
    have nh2_5 := h2
    clear h2
    by_cases h2 : x2 = 6
    · refine (go_tableIn 340 eX11_told_258 (by rw [h2]; decide) (by rw [h2]; decide) (by rw [h2]; rfl) rfl).run ?_
      refine (go_iload 6 eX11_told_340 rfl).run ?_
      exact Run.ret (v := some (.int x6)) (k7 h1 h2) ⟨Or.inl rfl, eX11_told_342⟩ rfl
    have nh2_6 := h2
    clear h2
    by_cases h2 : x2 = 7
    · refine (go_tableIn 343 eX11_told_258 (by rw [h2]; decide) (by rw [h2]; decide) (by rw [h2]; rfl) rfl).run ?_
      refine (go_iload 7 eX11_told_343 rfl).run ?_
      exact Run.ret (v := some (.int x7)) (k8 h1 h2) ⟨Or.inl rfl, eX11_told_345⟩ rfl
    have nh2_7 := h2
    clear h2
    have h2 : x2.toInt < 0 ∨ 7 < x2.toInt := by simp only [← Int32.toInt_inj] at nh2_0 nh2_1 nh2_2 nh2_3 nh2_4 nh2_5 nh2_6 nh2_7; simp at nh2_0 nh2_1 nh2_2 nh2_3 nh2_4 nh2_5 nh2_6 nh2_7; omega
    refine (go_tableOut 346 eX11_told_258 h2 rfl).run ?_
    refine (go_iconst (v := -1) eX11_told_346 rfl).run ?_
    exact Run.ret (v := some (.int (-1))) (k9 h1 h2) ⟨Or.inl rfl, eX11_told_347⟩ rfl
  · refine (go_aload_n 0 eX11_told_116 rfl rfl).run ?_
    refine (go_iload_n 1 eX11_told_117 rfl rfl).run ?_
    refine (go_iload 8 eX11_told_118 rfl).run ?_
    exact Run.callV (d := (d + 2)) (As := [.int x1, .int x8]) mX11_findTakes lkX11_186 kd_88 (by decide) rfl rfl rfl rfl rfl (Nat.le_of_ble_eq_true rfl) eX11_told_120 (k10 h1)

set_option maxRecDepth 20000 in
theorem bX11_told_77 {d : Nat} {Q : Option Value → St → Prop} (x2 : Int32) (σ : St) 
    (g1 : vp_in (x2 - 200) 32)
    (k1 : Q (some (.int (σ.1 93 (x2 - 200).toNatClampNeg))) σ)
    : Run MX11_told (d + 3) 77 [some (.ref 88), none, some (.int x2), none, none, none, none, none, none, none, none] [] σ Q := by
  refine (go_aload_n 0 eX11_told_77 rfl rfl).run ?_
  refine (go_getr flX11_30 rf_10_7 kd_88 gr_88_7 eX11_told_78).run ?_
  refine (go_iload_n 2 eX11_told_81 rfl rfl).run ?_
  refine (go_sipush (v := 200) eX11_told_82 rfl).run ?_
  refine (go_isub eX11_told_85).run ?_
  refine (go_iald kd_93 ln_93 g1 eX11_told_86).run ?_
  exact Run.ret (v := some (.int (σ.1 93 (x2 - 200).toNatClampNeg))) k1 ⟨Or.inl rfl, eX11_told_87⟩ rfl

set_option maxRecDepth 20000 in
theorem bX11_told_43 {d : Nat} {Q : Option Value → St → Prop} (s0 : Int32) (σ : St) 
    (k1 : Q (some (.int s0)) σ)
    : Run MX11_told (d + 3) 43 [none, none, none, none, none, none, none, none, none, none, none] [.int s0] σ Q := by
  exact Run.ret (v := some (.int s0)) k1 ⟨Or.inl rfl, eX11_told_43⟩ rfl

set_option maxRecDepth 20000 in
theorem bX11_told_325 {d : Nat} {Q : Option Value → St → Prop} (s0 : Int32) (σ : St) 
    (k1 : Q (some (.int (bI (¬ s0 = 0)))) σ)
    : Run MX11_told (d + 3) 325 [none, none, none, none, none, none, none, none, none, none, none] [.int s0] σ Q := by
  have hJh1 : Run MX11_told (d + 3) 333 [none, none, none, none, none, none, none, none, none, none, none] [.int (bI (¬ s0 = 0))] σ Q := by
    exact Run.ret (v := some (.int (bI (¬ s0 = 0)))) k1 ⟨Or.inl rfl, eX11_told_333⟩ rfl
  refine (bz_eq 332 eX11_told_325 rfl).run (fun h1 => ?_) (fun h1 => ?_)
  · refine (go_iconst (v := 0) eX11_told_332 rfl).run ?_
    first | exact hJh1 | (simp only [if_pos h1] at hJh1; exact hJh1) | (simp only [eq_true h1, not_true_eq_false, true_and, and_true, false_and, and_false, true_or, or_true, false_or, or_false, not_true_eq_false, not_false_eq_true] at hJh1; exact hJh1) | exact Run.eq (by simp [eq_true h1, not_true_eq_false, bI]) (by simp [eq_true h1, not_true_eq_false, bI]) rfl hJh1
  · refine (go_iconst (v := 1) eX11_told_328 rfl).run ?_
    refine (go_goto 333 eX11_told_329 rfl).run ?_
    first | exact hJh1 | (simp only [if_neg (h1)] at hJh1; exact hJh1) | (simp only [eq_false h1, not_false_eq_true, true_and, and_true, false_and, and_false, true_or, or_true, false_or, or_false, not_true_eq_false, not_false_eq_true] at hJh1; exact hJh1) | exact Run.eq (by simp [eq_false h1, not_false_eq_true, bI]) (by simp [eq_false h1, not_false_eq_true, bI]) rfl hJh1

set_option maxRecDepth 20000 in
theorem bX11_told_123 {d : Nat} {Q : Option Value → St → Prop} (x1 : Int32) (x2 : Int32) (x3 : Int32) (x4 : Int32) (x5 : Int32) (x6 : Int32) (x7 : Int32) (x8 : Int32) (σ : St) 
    (k1 : Run MX11_told (d + 3) 126 [some (.ref 88), some (.int x1), some (.int x2), some (.int x3), some (.int x4), some (.int x5), some (.int x6), some (.int x7), some (.int x8), some (.int 0), none] [] σ Q)
    : Run MX11_told (d + 3) 123 [some (.ref 88), some (.int x1), some (.int x2), some (.int x3), some (.int x4), some (.int x5), some (.int x6), some (.int x7), some (.int x8), none, none] [] σ Q := by
  refine (go_iconst (v := 0) eX11_told_123 rfl).run ?_
  refine (go_istore 9 (L' := [some (.ref 88), some (.int x1), some (.int x2), some (.int x3), some (.int x4), some (.int x5), some (.int x6), some (.int x7), some (.int x8), some (.int 0), none]) eX11_told_124 (Nat.le_of_ble_eq_true rfl) rfl).run ?_
  exact k1

set_option maxRecDepth 20000 in
theorem bX11_told_126 {d : Nat} {Q : Option Value → St → Prop} (x1 : Int32) (x2 : Int32) (x3 : Int32) (x4 : Int32) (x5 : Int32) (x6 : Int32) (x7 : Int32) (x8 : Int32) (x9 : Int32) (σ : St) 
    (g1 : vp_in x1 8)
    (g2 : x9 < (σ.1 89 x1.toNatClampNeg) → vp_in x9 32)
    (k1 : (σ.1 89 x1.toNatClampNeg) ≤ x9 → Ct yX11_tracks MX11_tracks (d + 2) [.ref 88] σ (fun v σ1 => Run MX11_told (d + 3) 235 [some (.ref 88), some (.int x1), some (.int x2), some (.int x3), some (.int x4), some (.int x5), some (.int x6), some (.int x7), some (.int x8), none, none] (v.toList ++ []) σ1 Q))
    (k2 : x9 < (σ.1 89 x1.toNatClampNeg) → Ct yX11_loadOf MX11_loadOf (d + 2) [.ref 88, .int x9] σ (fun v σ1 => Run MX11_told (d + 3) 207 [some (.ref 88), some (.int x1), some (.int x2), some (.int (x3 + (bI ((0 : Int32) < (if (σ.1 96 x9.toNatClampNeg) = (-4) then (0 : Int32) else (x9 - (σ.1 96 x9.toNatClampNeg))))))), some (.int x4), some (.int (x5 + (if (σ.1 96 x9.toNatClampNeg) = (-4) then (0 : Int32) else (x9 - (σ.1 96 x9.toNatClampNeg))))), some (.int x6), some (.int (if (if (σ.1 96 x9.toNatClampNeg) = (-4) then (0 : Int32) else (x9 - (σ.1 96 x9.toNatClampNeg))) ≤ x7 then x7 else (if (σ.1 96 x9.toNatClampNeg) = (-4) then (0 : Int32) else (x9 - (σ.1 96 x9.toNatClampNeg))))), some (.int x8), some (.int x9), none] (v.toList ++ []) σ1 Q))
    : Run MX11_told (d + 3) 126 [some (.ref 88), some (.int x1), some (.int x2), some (.int x3), some (.int x4), some (.int x5), some (.int x6), some (.int x7), some (.int x8), some (.int x9), none] [] σ Q := by
  refine (go_iload 9 eX11_told_126 rfl).run ?_
  refine (go_aload_n 0 eX11_told_128 rfl rfl).run ?_
  refine (go_getr flX11_7 rf_10_1 kd_88 gr_88_1 eX11_told_129).run ?_
  refine (go_iload_n 1 eX11_told_132 rfl rfl).run ?_
  refine (go_iald kd_89 ln_89 g1 eX11_told_133).run ?_
  refine (bi_ge 231 eX11_told_134 rfl).run (fun h1 => ?_) (fun h1 => ?_)
  · refine (go_aload_n 0 eX11_told_231 rfl rfl).run ?_
    refine (go_sub (L' := [some (.ref 88), some (.int x1), some (.int x2), some (.int x3), some (.int x4), some (.int x5), some (.int x6), some (.int x7), some (.int x8), none, none]) (lsub_keep (lsub_keep (lsub_keep (lsub_keep (lsub_keep (lsub_keep (lsub_keep (lsub_keep (lsub_keep (lsub_drop (lsub_keep lsub_nil)))))))))))).run ?_
    exact Run.callV (d := (d + 2)) (As := []) mX11_tracks lkX11_192 kd_88 (by decide) rfl rfl rfl rfl rfl (Nat.le_of_ble_eq_true rfl) eX11_told_232 (k1 h1)
  · refine (go_aload_n 0 eX11_told_137 rfl rfl).run ?_
    refine (go_getr flX11_39 rf_10_17 kd_88 gr_88_17 eX11_told_138).run ?_
    refine (go_iload 9 eX11_told_141 rfl).run ?_
    refine (go_iald kd_96 ln_96 (g2 h1) eX11_told_143).run ?_
    refine (go_bipush (v := -4) eX11_told_144 rfl).run ?_
    have hJh2 : Run MX11_told (d + 3) 163 [some (.ref 88), some (.int x1), some (.int x2), some (.int x3), some (.int x4), some (.int x5), some (.int x6), some (.int x7), some (.int x8), some (.int x9), none] [.int (if (σ.1 96 x9.toNatClampNeg) = (-4) then (0 : Int32) else (x9 - (σ.1 96 x9.toNatClampNeg)))] σ Q := by
      refine (go_istore 10 (L' := [some (.ref 88), some (.int x1), some (.int x2), some (.int x3), some (.int x4), some (.int x5), some (.int x6), some (.int x7), some (.int x8), some (.int x9), some (.int (if (σ.1 96 x9.toNatClampNeg) = (-4) then (0 : Int32) else (x9 - (σ.1 96 x9.toNatClampNeg))))]) eX11_told_163 (Nat.le_of_ble_eq_true rfl) rfl).run ?_
      refine (go_iload_n 3 eX11_told_165 rfl rfl).run ?_
      refine (go_iload 10 eX11_told_166 rfl).run ?_
      have hJh3 : Run MX11_told (d + 3) 176 [some (.ref 88), some (.int x1), some (.int x2), none, some (.int x4), some (.int x5), some (.int x6), some (.int x7), some (.int x8), some (.int x9), some (.int (if (σ.1 96 x9.toNatClampNeg) = (-4) then (0 : Int32) else (x9 - (σ.1 96 x9.toNatClampNeg))))] [.int (bI ((0 : Int32) < (if (σ.1 96 x9.toNatClampNeg) = (-4) then (0 : Int32) else (x9 - (σ.1 96 x9.toNatClampNeg))))), .int x3] σ Q := by
        refine (go_iadd eX11_told_176).run ?_
        refine (go_istore_n 3 (L' := [some (.ref 88), some (.int x1), some (.int x2), some (.int (x3 + (bI ((0 : Int32) < (if (σ.1 96 x9.toNatClampNeg) = (-4) then (0 : Int32) else (x9 - (σ.1 96 x9.toNatClampNeg))))))), some (.int x4), some (.int x5), some (.int x6), some (.int x7), some (.int x8), some (.int x9), some (.int (if (σ.1 96 x9.toNatClampNeg) = (-4) then (0 : Int32) else (x9 - (σ.1 96 x9.toNatClampNeg))))]) eX11_told_177 rfl (Nat.le_of_ble_eq_true rfl) rfl).run ?_
        refine (go_iload 5 eX11_told_178 rfl).run ?_
        refine (go_iload 10 eX11_told_180 rfl).run ?_
        refine (go_iadd eX11_told_182).run ?_
        refine (go_istore 5 (L' := [some (.ref 88), some (.int x1), some (.int x2), some (.int (x3 + (bI ((0 : Int32) < (if (σ.1 96 x9.toNatClampNeg) = (-4) then (0 : Int32) else (x9 - (σ.1 96 x9.toNatClampNeg))))))), some (.int x4), some (.int (x5 + (if (σ.1 96 x9.toNatClampNeg) = (-4) then (0 : Int32) else (x9 - (σ.1 96 x9.toNatClampNeg))))), some (.int x6), some (.int x7), some (.int x8), some (.int x9), some (.int (if (σ.1 96 x9.toNatClampNeg) = (-4) then (0 : Int32) else (x9 - (σ.1 96 x9.toNatClampNeg))))]) eX11_told_183 (Nat.le_of_ble_eq_true rfl) rfl).run ?_
        refine (go_iload 10 eX11_told_185 rfl).run ?_
        refine (go_iload 7 eX11_told_187 rfl).run ?_
        have hJh4 : Run MX11_told (d + 3) 199 [some (.ref 88), some (.int x1), some (.int x2), some (.int (x3 + (bI ((0 : Int32) < (if (σ.1 96 x9.toNatClampNeg) = (-4) then (0 : Int32) else (x9 - (σ.1 96 x9.toNatClampNeg))))))), some (.int x4), some (.int (x5 + (if (σ.1 96 x9.toNatClampNeg) = (-4) then (0 : Int32) else (x9 - (σ.1 96 x9.toNatClampNeg))))), some (.int x6), none, some (.int x8), some (.int x9), none] [.int (if (if (σ.1 96 x9.toNatClampNeg) = (-4) then (0 : Int32) else (x9 - (σ.1 96 x9.toNatClampNeg))) ≤ x7 then x7 else (if (σ.1 96 x9.toNatClampNeg) = (-4) then (0 : Int32) else (x9 - (σ.1 96 x9.toNatClampNeg))))] σ Q := by
          refine (go_istore 7 (L' := [some (.ref 88), some (.int x1), some (.int x2), some (.int (x3 + (bI ((0 : Int32) < (if (σ.1 96 x9.toNatClampNeg) = (-4) then (0 : Int32) else (x9 - (σ.1 96 x9.toNatClampNeg))))))), some (.int x4), some (.int (x5 + (if (σ.1 96 x9.toNatClampNeg) = (-4) then (0 : Int32) else (x9 - (σ.1 96 x9.toNatClampNeg))))), some (.int x6), some (.int (if (if (σ.1 96 x9.toNatClampNeg) = (-4) then (0 : Int32) else (x9 - (σ.1 96 x9.toNatClampNeg))) ≤ x7 then x7 else (if (σ.1 96 x9.toNatClampNeg) = (-4) then (0 : Int32) else (x9 - (σ.1 96 x9.toNatClampNeg))))), some (.int x8), some (.int x9), none]) eX11_told_199 (Nat.le_of_ble_eq_true rfl) rfl).run ?_
          refine (go_aload_n 0 eX11_told_201 rfl rfl).run ?_
          refine (go_iload 9 eX11_told_202 rfl).run ?_
          exact Run.callV (d := (d + 2)) (As := [.int x9]) mX11_loadOf lkX11_189 kd_88 (by decide) rfl rfl rfl rfl rfl (Nat.le_of_ble_eq_true rfl) eX11_told_204 (k2 h1)
        refine (bi_le 197 eX11_told_189 rfl).run (fun h4 => ?_) (fun h4 => ?_)
        · refine (go_iload 7 eX11_told_197 rfl).run ?_
          refine (go_sub (L' := [some (.ref 88), some (.int x1), some (.int x2), some (.int (x3 + (bI ((0 : Int32) < (if (σ.1 96 x9.toNatClampNeg) = (-4) then (0 : Int32) else (x9 - (σ.1 96 x9.toNatClampNeg))))))), some (.int x4), some (.int (x5 + (if (σ.1 96 x9.toNatClampNeg) = (-4) then (0 : Int32) else (x9 - (σ.1 96 x9.toNatClampNeg))))), some (.int x6), none, some (.int x8), some (.int x9), none]) (lsub_keep (lsub_keep (lsub_keep (lsub_keep (lsub_keep (lsub_keep (lsub_keep (lsub_drop (lsub_keep (lsub_keep (lsub_drop lsub_nil)))))))))))).run ?_
          first | exact hJh4 | (simp only [if_pos h4] at hJh4; exact hJh4) | (simp only [eq_true h4, eq_false (i32_nlt.mpr h4), true_and, and_true, false_and, and_false, true_or, or_true, false_or, or_false, not_true_eq_false, not_false_eq_true] at hJh4; exact hJh4) | exact Run.eq (by simp [eq_true h4, eq_false (i32_nlt.mpr h4), bI]) (by simp [eq_true h4, eq_false (i32_nlt.mpr h4), bI]) rfl hJh4
        · refine (go_iload 10 eX11_told_192 rfl).run ?_
          refine (go_goto 199 eX11_told_194 rfl).run ?_
          refine (go_sub (L' := [some (.ref 88), some (.int x1), some (.int x2), some (.int (x3 + (bI ((0 : Int32) < (if (σ.1 96 x9.toNatClampNeg) = (-4) then (0 : Int32) else (x9 - (σ.1 96 x9.toNatClampNeg))))))), some (.int x4), some (.int (x5 + (if (σ.1 96 x9.toNatClampNeg) = (-4) then (0 : Int32) else (x9 - (σ.1 96 x9.toNatClampNeg))))), some (.int x6), none, some (.int x8), some (.int x9), none]) (lsub_keep (lsub_keep (lsub_keep (lsub_keep (lsub_keep (lsub_keep (lsub_keep (lsub_drop (lsub_keep (lsub_keep (lsub_drop lsub_nil)))))))))))).run ?_
          first | exact hJh4 | (simp only [if_neg (i32_nle.mpr h4)] at hJh4; exact hJh4) | (simp only [eq_true h4, eq_false (i32_nle.mpr h4), true_and, and_true, false_and, and_false, true_or, or_true, false_or, or_false, not_true_eq_false, not_false_eq_true] at hJh4; exact hJh4) | exact Run.eq (by simp [eq_true h4, eq_false (i32_nle.mpr h4), bI]) (by simp [eq_true h4, eq_false (i32_nle.mpr h4), bI]) rfl hJh4
      refine (bz_le 175 eX11_told_168 rfl).run (fun h3 => ?_) (fun h3 => ?_)
      · refine (go_iconst (v := 0) eX11_told_175 rfl).run ?_
        refine (go_sub (L' := [some (.ref 88), some (.int x1), some (.int x2), none, some (.int x4), some (.int x5), some (.int x6), some (.int x7), some (.int x8), some (.int x9), some (.int (if (σ.1 96 x9.toNatClampNeg) = (-4) then (0 : Int32) else (x9 - (σ.1 96 x9.toNatClampNeg))))]) (lsub_keep (lsub_keep (lsub_keep (lsub_drop (lsub_keep (lsub_keep (lsub_keep (lsub_keep (lsub_keep (lsub_keep (lsub_keep lsub_nil)))))))))))).run ?_
        first | exact hJh3 | (simp only [if_pos h3] at hJh3; exact hJh3) | (simp only [eq_true h3, eq_false (i32_nlt.mpr h3), true_and, and_true, false_and, and_false, true_or, or_true, false_or, or_false, not_true_eq_false, not_false_eq_true] at hJh3; exact hJh3) | exact Run.eq (by simp [eq_true h3, eq_false (i32_nlt.mpr h3), bI]) (by simp [eq_true h3, eq_false (i32_nlt.mpr h3), bI]) rfl hJh3
      · refine (go_iconst (v := 1) eX11_told_171 rfl).run ?_
        refine (go_goto 176 eX11_told_172 rfl).run ?_
        refine (go_sub (L' := [some (.ref 88), some (.int x1), some (.int x2), none, some (.int x4), some (.int x5), some (.int x6), some (.int x7), some (.int x8), some (.int x9), some (.int (if (σ.1 96 x9.toNatClampNeg) = (-4) then (0 : Int32) else (x9 - (σ.1 96 x9.toNatClampNeg))))]) (lsub_keep (lsub_keep (lsub_keep (lsub_drop (lsub_keep (lsub_keep (lsub_keep (lsub_keep (lsub_keep (lsub_keep (lsub_keep lsub_nil)))))))))))).run ?_
        first | exact hJh3 | (simp only [if_neg (i32_nle.mpr h3)] at hJh3; exact hJh3) | (simp only [eq_true h3, eq_false (i32_nle.mpr h3), true_and, and_true, false_and, and_false, true_or, or_true, false_or, or_false, not_true_eq_false, not_false_eq_true] at hJh3; exact hJh3) | exact Run.eq (by simp [eq_true h3, eq_false (i32_nle.mpr h3), bI]) (by simp [eq_true h3, eq_false (i32_nle.mpr h3), bI]) rfl hJh3
    refine (bi_ne 153 eX11_told_146 rfl).run (fun h2 => ?_) (fun h2 => ?_)
    · refine (go_iload 9 eX11_told_153 rfl).run ?_
      refine (go_aload_n 0 eX11_told_155 rfl rfl).run ?_
      refine (go_getr flX11_39 rf_10_17 kd_88 gr_88_17 eX11_told_156).run ?_
      refine (go_iload 9 eX11_told_159 rfl).run ?_
      refine (go_iald kd_96 ln_96 (g2 h1) eX11_told_161).run ?_
      refine (go_isub eX11_told_162).run ?_
      first | exact hJh2 | (simp only [if_neg (h2)] at hJh2; exact hJh2) | (simp only [eq_false h2, not_false_eq_true, true_and, and_true, false_and, and_false, true_or, or_true, false_or, or_false, not_true_eq_false, not_false_eq_true] at hJh2; exact hJh2) | exact Run.eq (by simp [eq_false h2, not_false_eq_true, bI]) (by simp [eq_false h2, not_false_eq_true, bI]) rfl hJh2
    · refine (go_iconst (v := 0) eX11_told_149 rfl).run ?_
      refine (go_goto 163 eX11_told_150 rfl).run ?_
      first | exact hJh2 | (simp only [if_pos h2] at hJh2; exact hJh2) | (simp only [eq_true h2, not_true_eq_false, true_and, and_true, false_and, and_false, true_or, or_true, false_or, or_false, not_true_eq_false, not_false_eq_true] at hJh2; exact hJh2) | exact Run.eq (by simp [eq_true h2, not_true_eq_false, bI]) (by simp [eq_true h2, not_true_eq_false, bI]) rfl hJh2

set_option maxRecDepth 20000 in
theorem bX11_told_235 {d : Nat} {Q : Option Value → St → Prop} (x1 : Int32) (x2 : Int32) (x3 : Int32) (x4 : Int32) (x5 : Int32) (x6 : Int32) (x7 : Int32) (x8 : Int32) (s0 : Int32) (σ : St) 
    (k1 : s0 ≤ x6 → Run MX11_told (d + 3) 105 [some (.ref 88), some (.int x1), some (.int x2), some (.int x3), some (.int x4), some (.int x5), some (.int x6), some (.int x7), some (.int (x8 + 1)), none, none] [] σ Q)
    (k2 : x6 < s0 → Ct yX11_tracks MX11_tracks (d + 2) [.ref 88] σ (fun v σ1 => Run MX11_told (d + 3) 244 [some (.ref 88), some (.int x1), some (.int x2), some (.int x3), some (.int x4), some (.int x5), none, some (.int x7), some (.int x8), none, none] (v.toList ++ []) σ1 Q))
    : Run MX11_told (d + 3) 235 [some (.ref 88), some (.int x1), some (.int x2), some (.int x3), some (.int x4), some (.int x5), some (.int x6), some (.int x7), some (.int x8), none, none] [.int s0] σ Q := by
  refine (go_iload 6 eX11_told_235 rfl).run ?_
  refine (bi_le 247 eX11_told_237 rfl).run (fun h1 => ?_) (fun h1 => ?_)
  · refine (go_iload 6 eX11_told_247 rfl).run ?_
    refine (go_istore 6 (L' := [some (.ref 88), some (.int x1), some (.int x2), some (.int x3), some (.int x4), some (.int x5), some (.int x6), some (.int x7), some (.int x8), none, none]) eX11_told_249 (Nat.le_of_ble_eq_true rfl) rfl).run ?_
    refine (go_iinc 8 (v := (x8 + 1)) (L' := [some (.ref 88), some (.int x1), some (.int x2), some (.int x3), some (.int x4), some (.int x5), some (.int x6), some (.int x7), some (.int (x8 + 1)), none, none]) eX11_told_251 rfl rfl (Nat.le_of_ble_eq_true rfl) rfl).run ?_
    refine (go_goto 105 eX11_told_254 rfl).run ?_
    exact (k1 h1)
  · refine (go_aload_n 0 eX11_told_240 rfl rfl).run ?_
    refine (go_sub (L' := [some (.ref 88), some (.int x1), some (.int x2), some (.int x3), some (.int x4), some (.int x5), none, some (.int x7), some (.int x8), none, none]) (lsub_keep (lsub_keep (lsub_keep (lsub_keep (lsub_keep (lsub_keep (lsub_drop (lsub_keep (lsub_keep (lsub_keep (lsub_keep lsub_nil)))))))))))).run ?_
    exact Run.callV (d := (d + 2)) (As := []) mX11_tracks lkX11_192 kd_88 (by decide) rfl rfl rfl rfl rfl (Nat.le_of_ble_eq_true rfl) eX11_told_241 (k2 h1)

set_option maxRecDepth 20000 in
theorem bX11_told_207 {d : Nat} {Q : Option Value → St → Prop} (x1 : Int32) (x2 : Int32) (x3 : Int32) (x4 : Int32) (x5 : Int32) (x6 : Int32) (x7 : Int32) (x8 : Int32) (x9 : Int32) (s0 : Int32) (σ : St) 
    (k1 : s0 ≤ x4 → Run MX11_told (d + 3) 126 [some (.ref 88), some (.int x1), some (.int x2), some (.int x3), some (.int x4), some (.int x5), some (.int x6), some (.int x7), some (.int x8), some (.int (x9 + 1)), none] [] σ Q)
    (k2 : x4 < s0 → Ct yX11_loadOf MX11_loadOf (d + 2) [.ref 88, .int x9] σ (fun v σ1 => Run MX11_told (d + 3) 218 [some (.ref 88), some (.int x1), some (.int x2), some (.int x3), none, some (.int x5), some (.int x6), some (.int x7), some (.int x8), some (.int x9), none] (v.toList ++ []) σ1 Q))
    : Run MX11_told (d + 3) 207 [some (.ref 88), some (.int x1), some (.int x2), some (.int x3), some (.int x4), some (.int x5), some (.int x6), some (.int x7), some (.int x8), some (.int x9), none] [.int s0] σ Q := by
  refine (go_iload 4 eX11_told_207 rfl).run ?_
  refine (bi_le 221 eX11_told_209 rfl).run (fun h1 => ?_) (fun h1 => ?_)
  · refine (go_iload 4 eX11_told_221 rfl).run ?_
    refine (go_istore 4 (L' := [some (.ref 88), some (.int x1), some (.int x2), some (.int x3), some (.int x4), some (.int x5), some (.int x6), some (.int x7), some (.int x8), some (.int x9), none]) eX11_told_223 (Nat.le_of_ble_eq_true rfl) rfl).run ?_
    refine (go_iinc 9 (v := (x9 + 1)) (L' := [some (.ref 88), some (.int x1), some (.int x2), some (.int x3), some (.int x4), some (.int x5), some (.int x6), some (.int x7), some (.int x8), some (.int (x9 + 1)), none]) eX11_told_225 rfl rfl (Nat.le_of_ble_eq_true rfl) rfl).run ?_
    refine (go_goto 126 eX11_told_228 rfl).run ?_
    exact (k1 h1)
  · refine (go_aload_n 0 eX11_told_212 rfl rfl).run ?_
    refine (go_iload 9 eX11_told_213 rfl).run ?_
    refine (go_sub (L' := [some (.ref 88), some (.int x1), some (.int x2), some (.int x3), none, some (.int x5), some (.int x6), some (.int x7), some (.int x8), some (.int x9), none]) (lsub_keep (lsub_keep (lsub_keep (lsub_keep (lsub_drop (lsub_keep (lsub_keep (lsub_keep (lsub_keep (lsub_keep (lsub_keep lsub_nil)))))))))))).run ?_
    exact Run.callV (d := (d + 2)) (As := [.int x9]) mX11_loadOf lkX11_189 kd_88 (by decide) rfl rfl rfl rfl rfl (Nat.le_of_ble_eq_true rfl) eX11_told_215 (k2 h1)

set_option maxRecDepth 20000 in
theorem bX11_told_244 {d : Nat} {Q : Option Value → St → Prop} (x1 : Int32) (x2 : Int32) (x3 : Int32) (x4 : Int32) (x5 : Int32) (x7 : Int32) (x8 : Int32) (s0 : Int32) (σ : St) 
    (k1 : Run MX11_told (d + 3) 105 [some (.ref 88), some (.int x1), some (.int x2), some (.int x3), some (.int x4), some (.int x5), some (.int s0), some (.int x7), some (.int (x8 + 1)), none, none] [] σ Q)
    : Run MX11_told (d + 3) 244 [some (.ref 88), some (.int x1), some (.int x2), some (.int x3), some (.int x4), some (.int x5), none, some (.int x7), some (.int x8), none, none] [.int s0] σ Q := by
  refine (go_goto 249 eX11_told_244 rfl).run ?_
  refine (go_istore 6 (L' := [some (.ref 88), some (.int x1), some (.int x2), some (.int x3), some (.int x4), some (.int x5), some (.int s0), some (.int x7), some (.int x8), none, none]) eX11_told_249 (Nat.le_of_ble_eq_true rfl) rfl).run ?_
  refine (go_iinc 8 (v := (x8 + 1)) (L' := [some (.ref 88), some (.int x1), some (.int x2), some (.int x3), some (.int x4), some (.int x5), some (.int s0), some (.int x7), some (.int (x8 + 1)), none, none]) eX11_told_251 rfl rfl (Nat.le_of_ble_eq_true rfl) rfl).run ?_
  refine (go_goto 105 eX11_told_254 rfl).run ?_
  exact k1

set_option maxRecDepth 20000 in
theorem bX11_told_218 {d : Nat} {Q : Option Value → St → Prop} (x1 : Int32) (x2 : Int32) (x3 : Int32) (x5 : Int32) (x6 : Int32) (x7 : Int32) (x8 : Int32) (x9 : Int32) (s0 : Int32) (σ : St) 
    (k1 : Run MX11_told (d + 3) 126 [some (.ref 88), some (.int x1), some (.int x2), some (.int x3), some (.int s0), some (.int x5), some (.int x6), some (.int x7), some (.int x8), some (.int (x9 + 1)), none] [] σ Q)
    : Run MX11_told (d + 3) 218 [some (.ref 88), some (.int x1), some (.int x2), some (.int x3), none, some (.int x5), some (.int x6), some (.int x7), some (.int x8), some (.int x9), none] [.int s0] σ Q := by
  refine (go_goto 223 eX11_told_218 rfl).run ?_
  refine (go_istore 4 (L' := [some (.ref 88), some (.int x1), some (.int x2), some (.int x3), some (.int s0), some (.int x5), some (.int x6), some (.int x7), some (.int x8), some (.int x9), none]) eX11_told_223 (Nat.le_of_ble_eq_true rfl) rfl).run ?_
  refine (go_iinc 9 (v := (x9 + 1)) (L' := [some (.ref 88), some (.int x1), some (.int x2), some (.int x3), some (.int s0), some (.int x5), some (.int x6), some (.int x7), some (.int x8), some (.int (x9 + 1)), none]) eX11_told_225 rfl rfl (Nat.le_of_ble_eq_true rfl) rfl).run ?_
  refine (go_goto 126 eX11_told_228 rfl).run ?_
  exact k1

/-! CarryNetsModel.cell -/
theorem eX11_cell_0 : decode MX11_cell.2.1 0 = .ok (.aload_n 0, 1) := by decide +kernel
theorem eX11_cell_1 : decode MX11_cell.2.1 1 = .ok (.iload_n 1, 1) := by decide +kernel
theorem eX11_cell_2 : decode MX11_cell.2.1 2 = .ok (.invokevirtual 175, 3) := by decide +kernel
theorem eX11_cell_5 : decode MX11_cell.2.1 5 = .ok (.ifCond .eq 52, 3) := by decide +kernel
theorem eX11_cell_8 : decode MX11_cell.2.1 8 = .ok (.iload_n 2, 1) := by decide +kernel
theorem eX11_cell_9 : decode MX11_cell.2.1 9 = .ok (.i2l, 1) := by decide +kernel
theorem eX11_cell_10 : decode MX11_cell.2.1 10 = .ok (.lconst 0, 1) := by decide +kernel
theorem eX11_cell_11 : decode MX11_cell.2.1 11 = .ok (.aload_n 0, 1) := by decide +kernel
theorem eX11_cell_12 : decode MX11_cell.2.1 12 = .ok (.getfield 13, 3) := by decide +kernel
theorem eX11_cell_15 : decode MX11_cell.2.1 15 = .ok (.iload_n 1, 1) := by decide +kernel
theorem eX11_cell_16 : decode MX11_cell.2.1 16 = .ok (.iaload, 1) := by decide +kernel
theorem eX11_cell_17 : decode MX11_cell.2.1 17 = .ok (.iconst 1, 1) := by decide +kernel
theorem eX11_cell_18 : decode MX11_cell.2.1 18 = .ok (.isub, 1) := by decide +kernel
theorem eX11_cell_19 : decode MX11_cell.2.1 19 = .ok (.i2l, 1) := by decide +kernel
theorem eX11_cell_20 : decode MX11_cell.2.1 20 = .ok (.invokestatic 109, 3) := by decide +kernel
theorem eX11_cell_23 : decode MX11_cell.2.1 23 = .ok (.ifCond .eq 34, 3) := by decide +kernel
theorem eX11_cell_26 : decode MX11_cell.2.1 26 = .ok (.iload_n 3, 1) := by decide +kernel
theorem eX11_cell_27 : decode MX11_cell.2.1 27 = .ok (.i2l, 1) := by decide +kernel
theorem eX11_cell_28 : decode MX11_cell.2.1 28 = .ok (.lconst 0, 1) := by decide +kernel
theorem eX11_cell_29 : decode MX11_cell.2.1 29 = .ok (.aload_n 0, 1) := by decide +kernel
theorem eX11_cell_30 : decode MX11_cell.2.1 30 = .ok (.getfield 7, 3) := by decide +kernel
theorem eX11_cell_33 : decode MX11_cell.2.1 33 = .ok (.iload_n 1, 1) := by decide +kernel
theorem eX11_cell_34 : decode MX11_cell.2.1 34 = .ok (.iaload, 1) := by decide +kernel
theorem eX11_cell_35 : decode MX11_cell.2.1 35 = .ok (.iconst 1, 1) := by decide +kernel
theorem eX11_cell_36 : decode MX11_cell.2.1 36 = .ok (.isub, 1) := by decide +kernel
theorem eX11_cell_37 : decode MX11_cell.2.1 37 = .ok (.i2l, 1) := by decide +kernel
theorem eX11_cell_38 : decode MX11_cell.2.1 38 = .ok (.invokestatic 109, 3) := by decide +kernel
theorem eX11_cell_41 : decode MX11_cell.2.1 41 = .ok (.ifCond .eq 16, 3) := by decide +kernel
theorem eX11_cell_44 : decode MX11_cell.2.1 44 = .ok (.iload 4, 2) := by decide +kernel
theorem eX11_cell_46 : decode MX11_cell.2.1 46 = .ok (.i2l, 1) := by decide +kernel
theorem eX11_cell_47 : decode MX11_cell.2.1 47 = .ok (.lconst 0, 1) := by decide +kernel
theorem eX11_cell_48 : decode MX11_cell.2.1 48 = .ok (.ldc2_w 155, 3) := by decide +kernel
theorem eX11_cell_51 : decode MX11_cell.2.1 51 = .ok (.invokestatic 109, 3) := by decide +kernel
theorem eX11_cell_54 : decode MX11_cell.2.1 54 = .ok (.ifCond .ne 5, 3) := by decide +kernel
theorem eX11_cell_57 : decode MX11_cell.2.1 57 = .ok (.iconst (-1), 1) := by decide +kernel
theorem eX11_cell_58 : decode MX11_cell.2.1 58 = .ok (.ireturn, 1) := by decide +kernel
theorem eX11_cell_59 : decode MX11_cell.2.1 59 = .ok (.aload_n 0, 1) := by decide +kernel
theorem eX11_cell_60 : decode MX11_cell.2.1 60 = .ok (.iload_n 1, 1) := by decide +kernel
theorem eX11_cell_61 : decode MX11_cell.2.1 61 = .ok (.iload_n 2, 1) := by decide +kernel
theorem eX11_cell_62 : decode MX11_cell.2.1 62 = .ok (.invokevirtual 186, 3) := by decide +kernel
theorem eX11_cell_65 : decode MX11_cell.2.1 65 = .ok (.aload_n 0, 1) := by decide +kernel
theorem eX11_cell_66 : decode MX11_cell.2.1 66 = .ok (.iload_n 3, 1) := by decide +kernel
theorem eX11_cell_67 : decode MX11_cell.2.1 67 = .ok (.invokevirtual 189, 3) := by decide +kernel
theorem eX11_cell_70 : decode MX11_cell.2.1 70 = .ok (.istore 5, 2) := by decide +kernel
theorem eX11_cell_72 : decode MX11_cell.2.1 72 = .ok (.aload_n 0, 1) := by decide +kernel
theorem eX11_cell_73 : decode MX11_cell.2.1 73 = .ok (.getfield 39, 3) := by decide +kernel
theorem eX11_cell_76 : decode MX11_cell.2.1 76 = .ok (.iload_n 3, 1) := by decide +kernel
theorem eX11_cell_77 : decode MX11_cell.2.1 77 = .ok (.iaload, 1) := by decide +kernel
theorem eX11_cell_78 : decode MX11_cell.2.1 78 = .ok (.istore 6, 2) := by decide +kernel
theorem eX11_cell_80 : decode MX11_cell.2.1 80 = .ok (.aload_n 0, 1) := by decide +kernel
theorem eX11_cell_81 : decode MX11_cell.2.1 81 = .ok (.aload_n 0, 1) := by decide +kernel
theorem eX11_cell_82 : decode MX11_cell.2.1 82 = .ok (.iload_n 1, 1) := by decide +kernel
theorem eX11_cell_83 : decode MX11_cell.2.1 83 = .ok (.iload_n 2, 1) := by decide +kernel
theorem eX11_cell_84 : decode MX11_cell.2.1 84 = .ok (.invokevirtual 94, 3) := by decide +kernel
theorem eX11_cell_87 : decode MX11_cell.2.1 87 = .ok (.invokevirtual 98, 3) := by decide +kernel
theorem eX11_cell_90 : decode MX11_cell.2.1 90 = .ok (.iload 4, 2) := by decide +kernel
theorem eX11_cell_92 : decode MX11_cell.2.1 92 = .ok (.ifCond .ne 8, 3) := by decide +kernel
theorem eX11_cell_95 : decode MX11_cell.2.1 95 = .ok (.iload 6, 2) := by decide +kernel
theorem eX11_cell_97 : decode MX11_cell.2.1 97 = .ok (.goto 20, 3) := by decide +kernel
theorem eX11_cell_100 : decode MX11_cell.2.1 100 = .ok (.iload 4, 2) := by decide +kernel
theorem eX11_cell_102 : decode MX11_cell.2.1 102 = .ok (.iconst 1, 1) := by decide +kernel
theorem eX11_cell_103 : decode MX11_cell.2.1 103 = .ok (.if_icmp .ne 12, 3) := by decide +kernel
theorem eX11_cell_106 : decode MX11_cell.2.1 106 = .ok (.aload_n 0, 1) := by decide +kernel
theorem eX11_cell_107 : decode MX11_cell.2.1 107 = .ok (.getfield 30, 3) := by decide +kernel
theorem eX11_cell_110 : decode MX11_cell.2.1 110 = .ok (.iload_n 3, 1) := by decide +kernel
theorem eX11_cell_111 : decode MX11_cell.2.1 111 = .ok (.iaload, 1) := by decide +kernel
theorem eX11_cell_112 : decode MX11_cell.2.1 112 = .ok (.goto 5, 3) := by decide +kernel
theorem eX11_cell_115 : decode MX11_cell.2.1 115 = .ok (.iload 5, 2) := by decide +kernel
theorem eX11_cell_117 : decode MX11_cell.2.1 117 = .ok (.ireturn, 1) := by decide +kernel
set_option maxRecDepth 20000 in
theorem bX11_cell_0 {d : Nat} {Q : Option Value → St → Prop} (x1 : Int32) (x2 : Int32) (x3 : Int32) (x4 : Int32) (σ : St) 
    (g1 : ((0 : Int64) ≤ x1.toInt64 ∧ x1.toInt64 ≤ (((σ.1 88 0) - 1).toInt64)) → vp_in x1 8)
    (k1 : (¬ ((0 : Int64) ≤ x1.toInt64 ∧ x1.toInt64 ≤ (((σ.1 88 0) - 1).toInt64))) → Q (some (.int (-1))) σ)
    (k2 : ((0 : Int64) ≤ x1.toInt64 ∧ x1.toInt64 ≤ (((σ.1 88 0) - 1).toInt64)) → (¬ ((0 : Int64) ≤ x2.toInt64 ∧ x2.toInt64 ≤ (((σ.1 90 x1.toNatClampNeg) - 1).toInt64))) → Q (some (.int (-1))) σ)
    (k3 : ((0 : Int64) ≤ x1.toInt64 ∧ x1.toInt64 ≤ (((σ.1 88 0) - 1).toInt64)) → ((0 : Int64) ≤ x2.toInt64 ∧ x2.toInt64 ≤ (((σ.1 90 x1.toNatClampNeg) - 1).toInt64)) → (¬ ((0 : Int64) ≤ x3.toInt64 ∧ x3.toInt64 ≤ (((σ.1 89 x1.toNatClampNeg) - 1).toInt64))) → Q (some (.int (-1))) σ)
    (k4 : ((0 : Int64) ≤ x1.toInt64 ∧ x1.toInt64 ≤ (((σ.1 88 0) - 1).toInt64)) → ((0 : Int64) ≤ x2.toInt64 ∧ x2.toInt64 ≤ (((σ.1 90 x1.toNatClampNeg) - 1).toInt64)) → ((0 : Int64) ≤ x3.toInt64 ∧ x3.toInt64 ≤ (((σ.1 89 x1.toNatClampNeg) - 1).toInt64)) → ((0 : Int64) ≤ x4.toInt64 ∧ x4.toInt64 ≤ (2 : Int64)) → Ct yX11_findTakes MX11_findTakes (d + 2) [.ref 88, .int x1, .int x2] σ (fun v σ1 => Run MX11_cell (d + 3) 65 [some (.ref 88), some (.int x1), some (.int x2), some (.int x3), some (.int x4), none, none] (v.toList ++ []) σ1 Q))
    (k5 : ((0 : Int64) ≤ x1.toInt64 ∧ x1.toInt64 ≤ (((σ.1 88 0) - 1).toInt64)) → ((0 : Int64) ≤ x2.toInt64 ∧ x2.toInt64 ≤ (((σ.1 90 x1.toNatClampNeg) - 1).toInt64)) → ((0 : Int64) ≤ x3.toInt64 ∧ x3.toInt64 ≤ (((σ.1 89 x1.toNatClampNeg) - 1).toInt64)) → (¬ ((0 : Int64) ≤ x4.toInt64 ∧ x4.toInt64 ≤ (2 : Int64))) → Q (some (.int (-1))) σ)
    : Run MX11_cell (d + 3) 0 [some (.ref 88), some (.int x1), some (.int x2), some (.int x3), some (.int x4), none, none] [] σ Q := by
  refine (go_aload_n 0 eX11_cell_0 rfl rfl).run ?_
  refine (go_iload_n 1 eX11_cell_1 rfl rfl).run ?_
  refine Run.callV1 (d := (d + 2)) (As := [.int x1]) (r := .int (bI ((0 : Int64) ≤ x1.toInt64 ∧ x1.toInt64 ≤ (((σ.1 88 0) - 1).toInt64)))) mX11_isNet lkX11_175 kd_88 (by decide) rfl rfl rfl rfl rfl (Nat.le_of_ble_eq_true rfl) eX11_cell_2 (qX11_isNet (d + 1) x1 σ  ) ?_
  refine (br_ifeq_b 57 eX11_cell_5 rfl).run (fun h1 => ?_) (fun h1 => ?_)
  · refine (go_iconst (v := -1) eX11_cell_57 rfl).run ?_
    exact Run.ret (v := some (.int (-1))) (k1 h1) ⟨Or.inl rfl, eX11_cell_58⟩ rfl
  · refine (go_iload_n 2 eX11_cell_8 rfl rfl).run ?_
    refine (go_i2l eX11_cell_9).run ?_
    refine (go_lconst (v := 0) eX11_cell_10 rfl).run ?_
    refine (go_aload_n 0 eX11_cell_11 rfl rfl).run ?_
    refine (go_getr flX11_13 rf_10_2 kd_88 gr_88_2 eX11_cell_12).run ?_
    refine (go_iload_n 1 eX11_cell_15 rfl rfl).run ?_
    refine (go_iald kd_90 ln_90 (g1 h1) eX11_cell_16).run ?_
    refine (go_iconst (v := 1) eX11_cell_17 rfl).run ?_
    refine (go_isub eX11_cell_18).run ?_
    refine (go_i2l eX11_cell_19).run ?_
    refine Run.callS1 (d := (d + 2)) (As := [.long x2.toInt64, .long 0, .long (((σ.1 90 x1.toNatClampNeg) - 1).toInt64)]) (r := .int (bI ((0 : Int64) ≤ x2.toInt64 ∧ x2.toInt64 ≤ (((σ.1 90 x1.toNatClampNeg) - 1).toInt64)))) mX11_in lkX11_109 rfl rfl rfl (Nat.le_of_ble_eq_true rfl) eX11_cell_20 (qX11_in (d + 2) x2.toInt64 (0 : Int64) (((σ.1 90 x1.toNatClampNeg) - 1).toInt64) σ  ) ?_
    refine (br_ifeq_b 57 eX11_cell_23 rfl).run (fun h2 => ?_) (fun h2 => ?_)
    · refine (go_iconst (v := -1) eX11_cell_57 rfl).run ?_
      exact Run.ret (v := some (.int (-1))) (k2 h1 h2) ⟨Or.inl rfl, eX11_cell_58⟩ rfl
    · refine (go_iload_n 3 eX11_cell_26 rfl rfl).run ?_
      refine (go_i2l eX11_cell_27).run ?_
      refine (go_lconst (v := 0) eX11_cell_28 rfl).run ?_
      refine (go_aload_n 0 eX11_cell_29 rfl rfl).run ?_
      refine (go_getr flX11_7 rf_10_1 kd_88 gr_88_1 eX11_cell_30).run ?_
      refine (go_iload_n 1 eX11_cell_33 rfl rfl).run ?_
      refine (go_iald kd_89 ln_89 (g1 h1) eX11_cell_34).run ?_
      refine (go_iconst (v := 1) eX11_cell_35 rfl).run ?_
      refine (go_isub eX11_cell_36).run ?_
      refine (go_i2l eX11_cell_37).run ?_
      refine Run.callS1 (d := (d + 2)) (As := [.long x3.toInt64, .long 0, .long (((σ.1 89 x1.toNatClampNeg) - 1).toInt64)]) (r := .int (bI ((0 : Int64) ≤ x3.toInt64 ∧ x3.toInt64 ≤ (((σ.1 89 x1.toNatClampNeg) - 1).toInt64)))) mX11_in lkX11_109 rfl rfl rfl (Nat.le_of_ble_eq_true rfl) eX11_cell_38 (qX11_in (d + 2) x3.toInt64 (0 : Int64) (((σ.1 89 x1.toNatClampNeg) - 1).toInt64) σ  ) ?_
      refine (br_ifeq_b 57 eX11_cell_41 rfl).run (fun h3 => ?_) (fun h3 => ?_)
      · refine (go_iconst (v := -1) eX11_cell_57 rfl).run ?_
        exact Run.ret (v := some (.int (-1))) (k3 h1 h2 h3) ⟨Or.inl rfl, eX11_cell_58⟩ rfl
      · refine (go_iload 4 eX11_cell_44 rfl).run ?_
        refine (go_i2l eX11_cell_46).run ?_
        refine (go_lconst (v := 0) eX11_cell_47 rfl).run ?_
        refine (go_ldc2 csX11_155 eX11_cell_48).run ?_
        refine Run.callS1 (d := (d + 2)) (As := [.long x4.toInt64, .long 0, .long (2)]) (r := .int (bI ((0 : Int64) ≤ x4.toInt64 ∧ x4.toInt64 ≤ (2 : Int64)))) mX11_in lkX11_109 rfl rfl rfl (Nat.le_of_ble_eq_true rfl) eX11_cell_51 (qX11_in (d + 2) x4.toInt64 (0 : Int64) (2 : Int64) σ  ) ?_
        refine (br_ifne_b 59 eX11_cell_54 rfl).run (fun h4 => ?_) (fun h4 => ?_)
        · refine (go_aload_n 0 eX11_cell_59 rfl rfl).run ?_
          refine (go_iload_n 1 eX11_cell_60 rfl rfl).run ?_
          refine (go_iload_n 2 eX11_cell_61 rfl rfl).run ?_
          exact Run.callV (d := (d + 2)) (As := [.int x1, .int x2]) mX11_findTakes lkX11_186 kd_88 (by decide) rfl rfl rfl rfl rfl (Nat.le_of_ble_eq_true rfl) eX11_cell_62 (k4 h1 h2 h3 h4)
        · refine (go_iconst (v := -1) eX11_cell_57 rfl).run ?_
          exact Run.ret (v := some (.int (-1))) (k5 h1 h2 h3 h4) ⟨Or.inl rfl, eX11_cell_58⟩ rfl

set_option maxRecDepth 20000 in
theorem bX11_cell_65 {d : Nat} {Q : Option Value → St → Prop} (x1 : Int32) (x2 : Int32) (x3 : Int32) (x4 : Int32) (σ : St) 
    (k1 : Ct yX11_loadOf MX11_loadOf (d + 2) [.ref 88, .int x3] σ (fun v σ1 => Run MX11_cell (d + 3) 70 [some (.ref 88), some (.int x1), some (.int x2), some (.int x3), some (.int x4), none, none] (v.toList ++ []) σ1 Q))
    : Run MX11_cell (d + 3) 65 [some (.ref 88), some (.int x1), some (.int x2), some (.int x3), some (.int x4), none, none] [] σ Q := by
  refine (go_aload_n 0 eX11_cell_65 rfl rfl).run ?_
  refine (go_iload_n 3 eX11_cell_66 rfl rfl).run ?_
  exact Run.callV (d := (d + 2)) (As := [.int x3]) mX11_loadOf lkX11_189 kd_88 (by decide) rfl rfl rfl rfl rfl (Nat.le_of_ble_eq_true rfl) eX11_cell_67 k1

set_option maxRecDepth 20000 in
theorem bX11_cell_70 {d : Nat} {Q : Option Value → St → Prop} (x1 : Int32) (x2 : Int32) (x3 : Int32) (x4 : Int32) (s0 : Int32) (σ : St) 
    (g1 : vp_in x3 32)
    (g2 : vp_in (((32 : Int32) * x1) + x2) 256)
    (k1 : Ct yX11_joins MX11_joins (d + 2) [.ref 88, .long ((rX11_cellsOf x1 x2 σ))] σ (fun v σ1 => Run MX11_cell (d + 3) 90 [some (.ref 88), none, none, some (.int x3), some (.int x4), some (.int s0), some (.int (σ.1 96 x3.toNatClampNeg))] (v.toList ++ []) σ1 Q))
    : Run MX11_cell (d + 3) 70 [some (.ref 88), some (.int x1), some (.int x2), some (.int x3), some (.int x4), none, none] [.int s0] σ Q := by
  refine (go_istore 5 (L' := [some (.ref 88), some (.int x1), some (.int x2), some (.int x3), some (.int x4), some (.int s0), none]) eX11_cell_70 (Nat.le_of_ble_eq_true rfl) rfl).run ?_
  refine (go_aload_n 0 eX11_cell_72 rfl rfl).run ?_
  refine (go_getr flX11_39 rf_10_17 kd_88 gr_88_17 eX11_cell_73).run ?_
  refine (go_iload_n 3 eX11_cell_76 rfl rfl).run ?_
  refine (go_iald kd_96 ln_96 g1 eX11_cell_77).run ?_
  refine (go_istore 6 (L' := [some (.ref 88), some (.int x1), some (.int x2), some (.int x3), some (.int x4), some (.int s0), some (.int (σ.1 96 x3.toNatClampNeg))]) eX11_cell_78 (Nat.le_of_ble_eq_true rfl) rfl).run ?_
  refine (go_aload_n 0 eX11_cell_80 rfl rfl).run ?_
  refine (go_aload_n 0 eX11_cell_81 rfl rfl).run ?_
  refine (go_iload_n 1 eX11_cell_82 rfl rfl).run ?_
  refine (go_iload_n 2 eX11_cell_83 rfl rfl).run ?_
  refine Run.callV1 (d := (d + 2)) (As := [.int x1, .int x2]) (r := .long ((rX11_cellsOf x1 x2 σ))) mX11_cellsOf lkX11_94 kd_88 (by decide) rfl rfl rfl rfl rfl (Nat.le_of_ble_eq_true rfl) eX11_cell_84 (qX11_cellsOf (d + 2) x1 x2 σ  g2) ?_
  refine (go_sub (L' := [some (.ref 88), none, none, some (.int x3), some (.int x4), some (.int s0), some (.int (σ.1 96 x3.toNatClampNeg))]) (lsub_keep (lsub_drop (lsub_drop (lsub_keep (lsub_keep (lsub_keep (lsub_keep lsub_nil)))))))).run ?_
  exact Run.callV (d := (d + 2)) (As := [.long ((rX11_cellsOf x1 x2 σ))]) mX11_joins lkX11_98 kd_88 (by decide) rfl rfl rfl rfl rfl (Nat.le_of_ble_eq_true rfl) eX11_cell_87 k1

set_option maxRecDepth 20000 in
theorem bX11_cell_90 {d : Nat} {Q : Option Value → St → Prop} (x3 : Int32) (x4 : Int32) (x5 : Int32) (x6 : Int32) (σ : St) 
    (g1 : ¬ x4 = 0 → x4 = 1 → vp_in x3 32)
    (k1 : Q (some (.int (if x4 = 0 then x6 else (if x4 = 1 then (σ.1 93 x3.toNatClampNeg) else x5)))) σ)
    : Run MX11_cell (d + 3) 90 [some (.ref 88), none, none, some (.int x3), some (.int x4), some (.int x5), some (.int x6)] [] σ Q := by
  refine (go_iload 4 eX11_cell_90 rfl).run ?_
  have hJh1 : Run MX11_cell (d + 3) 117 [none, none, none, none, none, none, none] [.int (if x4 = 0 then x6 else (if x4 = 1 then (σ.1 93 x3.toNatClampNeg) else x5))] σ Q := by
    exact Run.ret (v := some (.int (if x4 = 0 then x6 else (if x4 = 1 then (σ.1 93 x3.toNatClampNeg) else x5)))) k1 ⟨Or.inl rfl, eX11_cell_117⟩ rfl
  refine (bz_ne 100 eX11_cell_92 rfl).run (fun h1 => ?_) (fun h1 => ?_)
  · refine (go_iload 4 eX11_cell_100 rfl).run ?_
    refine (go_iconst (v := 1) eX11_cell_102 rfl).run ?_
    have hJh2 : Run MX11_cell (d + 3) 117 [none, none, none, none, none, none, none] [.int (if x4 = 1 then (σ.1 93 x3.toNatClampNeg) else x5)] σ Q := by
      first | exact hJh1 | (simp only [if_neg (h1)] at hJh1; exact hJh1) | (simp only [eq_false h1, not_false_eq_true, true_and, and_true, false_and, and_false, true_or, or_true, false_or, or_false, not_true_eq_false, not_false_eq_true] at hJh1; exact hJh1) | exact Run.eq (by simp [eq_false h1, not_false_eq_true, bI]) (by simp [eq_false h1, not_false_eq_true, bI]) rfl hJh1
    refine (bi_ne 115 eX11_cell_103 rfl).run (fun h2 => ?_) (fun h2 => ?_)
    · refine (go_iload 5 eX11_cell_115 rfl).run ?_
      refine (go_sub (L' := [none, none, none, none, none, none, none]) (lsub_drop (lsub_keep (lsub_keep (lsub_drop (lsub_drop (lsub_drop (lsub_drop lsub_nil)))))))).run ?_
      first | exact hJh2 | (simp only [if_neg (h2)] at hJh2; exact hJh2) | (simp only [eq_false h2, not_false_eq_true, true_and, and_true, false_and, and_false, true_or, or_true, false_or, or_false, not_true_eq_false, not_false_eq_true] at hJh2; exact hJh2) | exact Run.eq (by simp [eq_false h2, not_false_eq_true, bI]) (by simp [eq_false h2, not_false_eq_true, bI]) rfl hJh2
    · refine (go_aload_n 0 eX11_cell_106 rfl rfl).run ?_
      refine (go_getr flX11_30 rf_10_7 kd_88 gr_88_7 eX11_cell_107).run ?_
      refine (go_iload_n 3 eX11_cell_110 rfl rfl).run ?_
      refine (go_iald kd_93 ln_93 (g1 h1 h2) eX11_cell_111).run ?_
      refine (go_goto 117 eX11_cell_112 rfl).run ?_
      refine (go_sub (L' := [none, none, none, none, none, none, none]) (lsub_drop (lsub_keep (lsub_keep (lsub_drop (lsub_drop (lsub_drop (lsub_drop lsub_nil)))))))).run ?_
      first | exact hJh2 | (simp only [if_pos h2] at hJh2; exact hJh2) | (simp only [eq_true h2, not_true_eq_false, true_and, and_true, false_and, and_false, true_or, or_true, false_or, or_false, not_true_eq_false, not_false_eq_true] at hJh2; exact hJh2) | exact Run.eq (by simp [eq_true h2, not_true_eq_false, bI]) (by simp [eq_true h2, not_true_eq_false, bI]) rfl hJh2
  · refine (go_iload 6 eX11_cell_95 rfl).run ?_
    refine (go_goto 117 eX11_cell_97 rfl).run ?_
    refine (go_sub (L' := [none, none, none, none, none, none, none]) (lsub_drop (lsub_keep (lsub_keep (lsub_drop (lsub_drop (lsub_drop (lsub_drop lsub_nil)))))))).run ?_
    first | exact hJh1 | (simp only [if_pos h1] at hJh1; exact hJh1) | (simp only [eq_true h1, not_true_eq_false, true_and, and_true, false_and, and_false, true_or, or_true, false_or, or_false, not_true_eq_false, not_false_eq_true] at hJh1; exact hJh1) | exact Run.eq (by simp [eq_true h1, not_true_eq_false, bI]) (by simp [eq_true h1, not_true_eq_false, bI]) rfl hJh1

/-! CarryNetsModel.pace -/
theorem eX11_pace_0 : decode MX11_pace.2.1 0 = .ok (.iload_n 1, 1) := by decide +kernel
theorem eX11_pace_1 : decode MX11_pace.2.1 1 = .ok (.i2l, 1) := by decide +kernel
theorem eX11_pace_2 : decode MX11_pace.2.1 2 = .ok (.lconst 1, 1) := by decide +kernel
theorem eX11_pace_3 : decode MX11_pace.2.1 3 = .ok (.ldc2_w 199, 3) := by decide +kernel
theorem eX11_pace_6 : decode MX11_pace.2.1 6 = .ok (.invokestatic 109, 3) := by decide +kernel
theorem eX11_pace_9 : decode MX11_pace.2.1 9 = .ok (.ifCond .eq 15, 3) := by decide +kernel
theorem eX11_pace_12 : decode MX11_pace.2.1 12 = .ok (.iload_n 2, 1) := by decide +kernel
theorem eX11_pace_13 : decode MX11_pace.2.1 13 = .ok (.i2l, 1) := by decide +kernel
theorem eX11_pace_14 : decode MX11_pace.2.1 14 = .ok (.lconst 0, 1) := by decide +kernel
theorem eX11_pace_15 : decode MX11_pace.2.1 15 = .ok (.ldc2_w 199, 3) := by decide +kernel
theorem eX11_pace_18 : decode MX11_pace.2.1 18 = .ok (.invokestatic 109, 3) := by decide +kernel
theorem eX11_pace_21 : decode MX11_pace.2.1 21 = .ok (.ifCond .ne 5, 3) := by decide +kernel
theorem eX11_pace_24 : decode MX11_pace.2.1 24 = .ok (.iconst (-1), 1) := by decide +kernel
theorem eX11_pace_25 : decode MX11_pace.2.1 25 = .ok (.ireturn, 1) := by decide +kernel
theorem eX11_pace_26 : decode MX11_pace.2.1 26 = .ok (.aload_n 0, 1) := by decide +kernel
theorem eX11_pace_27 : decode MX11_pace.2.1 27 = .ok (.iload_n 1, 1) := by decide +kernel
theorem eX11_pace_28 : decode MX11_pace.2.1 28 = .ok (.putfield 20, 3) := by decide +kernel
theorem eX11_pace_31 : decode MX11_pace.2.1 31 = .ok (.aload_n 0, 1) := by decide +kernel
theorem eX11_pace_32 : decode MX11_pace.2.1 32 = .ok (.iload_n 2, 1) := by decide +kernel
theorem eX11_pace_33 : decode MX11_pace.2.1 33 = .ok (.putfield 24, 3) := by decide +kernel
theorem eX11_pace_36 : decode MX11_pace.2.1 36 = .ok (.iconst 1, 1) := by decide +kernel
theorem eX11_pace_37 : decode MX11_pace.2.1 37 = .ok (.ireturn, 1) := by decide +kernel
set_option maxRecDepth 20000 in
theorem bX11_pace_0 {d : Nat} {Q : Option Value → St → Prop} (x1 : Int32) (x2 : Int32) (σ : St) 
    (k1 : (¬ ((1 : Int64) ≤ x1.toInt64 ∧ x1.toInt64 ≤ (9 : Int64))) → Q (some (.int (-1))) σ)
    (k2 : ((1 : Int64) ≤ x1.toInt64 ∧ x1.toInt64 ≤ (9 : Int64)) → ((0 : Int64) ≤ x2.toInt64 ∧ x2.toInt64 ≤ (9 : Int64)) → Q (some (.int 1)) (sA (sA σ 88 (upd (σ.1 88) 4 x1)) 88 (upd (upd (σ.1 88) 4 x1) 5 x2)))
    (k3 : ((1 : Int64) ≤ x1.toInt64 ∧ x1.toInt64 ≤ (9 : Int64)) → (¬ ((0 : Int64) ≤ x2.toInt64 ∧ x2.toInt64 ≤ (9 : Int64))) → Q (some (.int (-1))) σ)
    : Run MX11_pace (d + 1) 0 [some (.ref 88), some (.int x1), some (.int x2)] [] σ Q := by
  refine (go_iload_n 1 eX11_pace_0 rfl rfl).run ?_
  refine (go_i2l eX11_pace_1).run ?_
  refine (go_lconst (v := 1) eX11_pace_2 rfl).run ?_
  refine (go_ldc2 csX11_199 eX11_pace_3).run ?_
  refine Run.callS1 (d := d) (As := [.long x1.toInt64, .long 1, .long (9)]) (r := .int (bI ((1 : Int64) ≤ x1.toInt64 ∧ x1.toInt64 ≤ (9 : Int64)))) mX11_in lkX11_109 rfl rfl rfl (Nat.le_of_ble_eq_true rfl) eX11_pace_6 (qX11_in d x1.toInt64 (1 : Int64) (9 : Int64) σ  ) ?_
  refine (br_ifeq_b 24 eX11_pace_9 rfl).run (fun h1 => ?_) (fun h1 => ?_)
  · refine (go_iconst (v := -1) eX11_pace_24 rfl).run ?_
    exact Run.ret (v := some (.int (-1))) (k1 h1) ⟨Or.inl rfl, eX11_pace_25⟩ rfl
  · refine (go_iload_n 2 eX11_pace_12 rfl rfl).run ?_
    refine (go_i2l eX11_pace_13).run ?_
    refine (go_lconst (v := 0) eX11_pace_14 rfl).run ?_
    refine (go_ldc2 csX11_199 eX11_pace_15).run ?_
    refine Run.callS1 (d := d) (As := [.long x2.toInt64, .long 0, .long (9)]) (r := .int (bI ((0 : Int64) ≤ x2.toInt64 ∧ x2.toInt64 ≤ (9 : Int64)))) mX11_in lkX11_109 rfl rfl rfl (Nat.le_of_ble_eq_true rfl) eX11_pace_18 (qX11_in d x2.toInt64 (0 : Int64) (9 : Int64) σ  ) ?_
    refine (br_ifne_b 26 eX11_pace_21 rfl).run (fun h2 => ?_) (fun h2 => ?_)
    · refine (go_aload_n 0 eX11_pace_26 rfl rfl).run ?_
      refine (go_iload_n 1 eX11_pace_27 rfl rfl).run ?_
      refine (go_puti flX11_20 rf_10_4 rfl pf_10_4 rfl rfl kd_88 eX11_pace_28).run ?_
      refine (go_aload_n 0 eX11_pace_31 rfl rfl).run ?_
      refine (go_iload_n 2 eX11_pace_32 rfl rfl).run ?_
      refine (go_puti flX11_24 rf_10_5 rfl pf_10_5 rfl rfl kd_88 eX11_pace_33).run ?_
      refine (go_iconst (v := 1) eX11_pace_36 rfl).run ?_
      exact Run.ret (v := some (.int 1)) (k2 h1 h2) ⟨Or.inl rfl, eX11_pace_37⟩ rfl
    · refine (go_iconst (v := -1) eX11_pace_24 rfl).run ?_
      exact Run.ret (v := some (.int (-1))) (k3 h1 h2) ⟨Or.inl rfl, eX11_pace_25⟩ rfl

def sX11_pace (x1 : Int32) (x2 : Int32) (σ : St) : St := (if (1 : Int64) ≤ x1.toInt64 ∧ x1.toInt64 ≤ (9 : Int64) then (if (0 : Int64) ≤ x2.toInt64 ∧ x2.toInt64 ≤ (9 : Int64) then sA (sA σ 88 (upd (σ.1 88) 4 x1)) 88 (upd (upd (σ.1 88) 4 x1) 5 x2) else σ) else σ)
def rX11_pace (x1 : Int32) (x2 : Int32) (σ : St) : Int32 := (if (1 : Int64) ≤ x1.toInt64 ∧ x1.toInt64 ≤ (9 : Int64) then (if (0 : Int64) ≤ x2.toInt64 ∧ x2.toInt64 ≤ (9 : Int64) then (1 : Int32) else (-1 : Int32)) else (-1 : Int32))
theorem qX11_pace (d : Nat) (x1 : Int32) (x2 : Int32) (σ : St) : Ct yX11_pace MX11_pace (d + 1) [.ref 88, .int x1, .int x2] σ (fun v σ1 => v = some (.int (rX11_pace x1 x2 σ)) ∧ σ1 = sX11_pace x1 x2 σ) :=
  Ct.of mX11_pace.1 (Nat.le_of_ble_eq_true rfl) (bX11_pace_0 x1 x2 σ   (fun h1 => ⟨by first | rfl | (simp only [sX11_pace, rX11_pace, eq_false h1, not_false_eq_true, true_and, and_true, false_and, and_false, true_or, or_true, false_or, or_false, not_true_eq_false, not_false_eq_true, if_true, if_false]; done) | (simp [sX11_pace, rX11_pace, eq_false h1, not_false_eq_true, bI]; done), by first | rfl | (simp only [sX11_pace, rX11_pace, eq_false h1, not_false_eq_true, true_and, and_true, false_and, and_false, true_or, or_true, false_or, or_false, not_true_eq_false, not_false_eq_true, if_true, if_false]; done) | (simp [sX11_pace, rX11_pace, eq_false h1, not_false_eq_true, bI]; done)⟩) (fun h1 h2 => ⟨by first | rfl | (simp only [sX11_pace, rX11_pace, eq_true h1, not_true_eq_false, eq_true h2, not_true_eq_false, true_and, and_true, false_and, and_false, true_or, or_true, false_or, or_false, not_true_eq_false, not_false_eq_true, if_true, if_false]; done) | (simp [sX11_pace, rX11_pace, eq_true h1, not_true_eq_false, eq_true h2, not_true_eq_false, bI]; done), by first | rfl | (simp only [sX11_pace, rX11_pace, eq_true h1, not_true_eq_false, eq_true h2, not_true_eq_false, true_and, and_true, false_and, and_false, true_or, or_true, false_or, or_false, not_true_eq_false, not_false_eq_true, if_true, if_false]; done) | (simp [sX11_pace, rX11_pace, eq_true h1, not_true_eq_false, eq_true h2, not_true_eq_false, bI]; done)⟩) (fun h1 h2 => ⟨by first | rfl | (simp only [sX11_pace, rX11_pace, eq_true h1, not_true_eq_false, eq_false h2, not_false_eq_true, true_and, and_true, false_and, and_false, true_or, or_true, false_or, or_false, not_true_eq_false, not_false_eq_true, if_true, if_false]; done) | (simp [sX11_pace, rX11_pace, eq_true h1, not_true_eq_false, eq_false h2, not_false_eq_true, bI]; done), by first | rfl | (simp only [sX11_pace, rX11_pace, eq_true h1, not_true_eq_false, eq_false h2, not_false_eq_true, true_and, and_true, false_and, and_false, true_or, or_true, false_or, or_false, not_true_eq_false, not_false_eq_true, if_true, if_false]; done) | (simp [sX11_pace, rX11_pace, eq_true h1, not_true_eq_false, eq_false h2, not_false_eq_true, bI]; done)⟩))

/-! CarryNetsModel.start -/
theorem eX11_start_0 : decode MX11_start.2.1 0 = .ok (.iload_n 1, 1) := by decide +kernel
theorem eX11_start_1 : decode MX11_start.2.1 1 = .ok (.i2l, 1) := by decide +kernel
theorem eX11_start_2 : decode MX11_start.2.1 2 = .ok (.lconst 0, 1) := by decide +kernel
theorem eX11_start_3 : decode MX11_start.2.1 3 = .ok (.ldc2_w 201, 3) := by decide +kernel
theorem eX11_start_6 : decode MX11_start.2.1 6 = .ok (.invokestatic 109, 3) := by decide +kernel
theorem eX11_start_9 : decode MX11_start.2.1 9 = .ok (.ifCond .eq 15, 3) := by decide +kernel
theorem eX11_start_12 : decode MX11_start.2.1 12 = .ok (.iload_n 2, 1) := by decide +kernel
theorem eX11_start_13 : decode MX11_start.2.1 13 = .ok (.i2l, 1) := by decide +kernel
theorem eX11_start_14 : decode MX11_start.2.1 14 = .ok (.lconst 0, 1) := by decide +kernel
theorem eX11_start_15 : decode MX11_start.2.1 15 = .ok (.ldc2_w 203, 3) := by decide +kernel
theorem eX11_start_18 : decode MX11_start.2.1 18 = .ok (.invokestatic 109, 3) := by decide +kernel
theorem eX11_start_21 : decode MX11_start.2.1 21 = .ok (.ifCond .ne 5, 3) := by decide +kernel
theorem eX11_start_24 : decode MX11_start.2.1 24 = .ok (.iconst (-1), 1) := by decide +kernel
theorem eX11_start_25 : decode MX11_start.2.1 25 = .ok (.ireturn, 1) := by decide +kernel
theorem eX11_start_26 : decode MX11_start.2.1 26 = .ok (.aload_n 0, 1) := by decide +kernel
theorem eX11_start_27 : decode MX11_start.2.1 27 = .ok (.getfield 27, 3) := by decide +kernel
theorem eX11_start_30 : decode MX11_start.2.1 30 = .ok (.iload_n 1, 1) := by decide +kernel
theorem eX11_start_31 : decode MX11_start.2.1 31 = .ok (.iaload, 1) := by decide +kernel
theorem eX11_start_32 : decode MX11_start.2.1 32 = .ok (.istore_n 3, 1) := by decide +kernel
theorem eX11_start_33 : decode MX11_start.2.1 33 = .ok (.aload_n 0, 1) := by decide +kernel
theorem eX11_start_34 : decode MX11_start.2.1 34 = .ok (.getfield 27, 3) := by decide +kernel
theorem eX11_start_37 : decode MX11_start.2.1 37 = .ok (.iload_n 1, 1) := by decide +kernel
theorem eX11_start_38 : decode MX11_start.2.1 38 = .ok (.iload_n 2, 1) := by decide +kernel
theorem eX11_start_39 : decode MX11_start.2.1 39 = .ok (.iastore, 1) := by decide +kernel
theorem eX11_start_40 : decode MX11_start.2.1 40 = .ok (.iload_n 3, 1) := by decide +kernel
theorem eX11_start_41 : decode MX11_start.2.1 41 = .ok (.ireturn, 1) := by decide +kernel
set_option maxRecDepth 20000 in
theorem bX11_start_0 {d : Nat} {Q : Option Value → St → Prop} (x1 : Int32) (x2 : Int32) (σ : St) 
    (g1 : ((0 : Int64) ≤ x1.toInt64 ∧ x1.toInt64 ≤ (31 : Int64)) → ((0 : Int64) ≤ x2.toInt64 ∧ x2.toInt64 ≤ (99 : Int64)) → vp_in x1 32)
    (k1 : (¬ ((0 : Int64) ≤ x1.toInt64 ∧ x1.toInt64 ≤ (31 : Int64))) → Q (some (.int (-1))) σ)
    (k2 : ((0 : Int64) ≤ x1.toInt64 ∧ x1.toInt64 ≤ (31 : Int64)) → ((0 : Int64) ≤ x2.toInt64 ∧ x2.toInt64 ≤ (99 : Int64)) → Q (some (.int (σ.1 92 x1.toNatClampNeg))) (sA σ 92 (upd (σ.1 92) x1.toNatClampNeg x2)))
    (k3 : ((0 : Int64) ≤ x1.toInt64 ∧ x1.toInt64 ≤ (31 : Int64)) → (¬ ((0 : Int64) ≤ x2.toInt64 ∧ x2.toInt64 ≤ (99 : Int64))) → Q (some (.int (-1))) σ)
    : Run MX11_start (d + 1) 0 [some (.ref 88), some (.int x1), some (.int x2), none] [] σ Q := by
  refine (go_iload_n 1 eX11_start_0 rfl rfl).run ?_
  refine (go_i2l eX11_start_1).run ?_
  refine (go_lconst (v := 0) eX11_start_2 rfl).run ?_
  refine (go_ldc2 csX11_201 eX11_start_3).run ?_
  refine Run.callS1 (d := d) (As := [.long x1.toInt64, .long 0, .long (31)]) (r := .int (bI ((0 : Int64) ≤ x1.toInt64 ∧ x1.toInt64 ≤ (31 : Int64)))) mX11_in lkX11_109 rfl rfl rfl (Nat.le_of_ble_eq_true rfl) eX11_start_6 (qX11_in d x1.toInt64 (0 : Int64) (31 : Int64) σ  ) ?_
  refine (br_ifeq_b 24 eX11_start_9 rfl).run (fun h1 => ?_) (fun h1 => ?_)
  · refine (go_iconst (v := -1) eX11_start_24 rfl).run ?_
    exact Run.ret (v := some (.int (-1))) (k1 h1) ⟨Or.inl rfl, eX11_start_25⟩ rfl
  · refine (go_iload_n 2 eX11_start_12 rfl rfl).run ?_
    refine (go_i2l eX11_start_13).run ?_
    refine (go_lconst (v := 0) eX11_start_14 rfl).run ?_
    refine (go_ldc2 csX11_203 eX11_start_15).run ?_
    refine Run.callS1 (d := d) (As := [.long x2.toInt64, .long 0, .long (99)]) (r := .int (bI ((0 : Int64) ≤ x2.toInt64 ∧ x2.toInt64 ≤ (99 : Int64)))) mX11_in lkX11_109 rfl rfl rfl (Nat.le_of_ble_eq_true rfl) eX11_start_18 (qX11_in d x2.toInt64 (0 : Int64) (99 : Int64) σ  ) ?_
    refine (br_ifne_b 26 eX11_start_21 rfl).run (fun h2 => ?_) (fun h2 => ?_)
    · refine (go_aload_n 0 eX11_start_26 rfl rfl).run ?_
      refine (go_getr flX11_27 rf_10_6 kd_88 gr_88_6 eX11_start_27).run ?_
      refine (go_iload_n 1 eX11_start_30 rfl rfl).run ?_
      refine (go_iald kd_92 ln_92 (g1 h1 h2) eX11_start_31).run ?_
      refine (go_istore_n 3 (L' := [some (.ref 88), some (.int x1), some (.int x2), some (.int (σ.1 92 x1.toNatClampNeg))]) eX11_start_32 rfl (Nat.le_of_ble_eq_true rfl) rfl).run ?_
      refine (go_aload_n 0 eX11_start_33 rfl rfl).run ?_
      refine (go_getr flX11_27 rf_10_6 kd_88 gr_88_6 eX11_start_34).run ?_
      refine (go_iload_n 1 eX11_start_37 rfl rfl).run ?_
      refine (go_iload_n 2 eX11_start_38 rfl rfl).run ?_
      refine (go_iast kd_92 ln_92 (g1 h1 h2) eX11_start_39).run ?_
      refine (go_iload_n 3 eX11_start_40 rfl rfl).run ?_
      exact Run.ret (v := some (.int (σ.1 92 x1.toNatClampNeg))) (k2 h1 h2) ⟨Or.inl rfl, eX11_start_41⟩ rfl
    · refine (go_iconst (v := -1) eX11_start_24 rfl).run ?_
      exact Run.ret (v := some (.int (-1))) (k3 h1 h2) ⟨Or.inl rfl, eX11_start_25⟩ rfl

def sX11_start (x1 : Int32) (x2 : Int32) (σ : St) : St := (if (0 : Int64) ≤ x1.toInt64 ∧ x1.toInt64 ≤ (31 : Int64) then (if (0 : Int64) ≤ x2.toInt64 ∧ x2.toInt64 ≤ (99 : Int64) then sA σ 92 (upd (σ.1 92) x1.toNatClampNeg x2) else σ) else σ)
def rX11_start (x1 : Int32) (x2 : Int32) (σ : St) : Int32 := (if (0 : Int64) ≤ x1.toInt64 ∧ x1.toInt64 ≤ (31 : Int64) then (if (0 : Int64) ≤ x2.toInt64 ∧ x2.toInt64 ≤ (99 : Int64) then (σ.1 92 x1.toNatClampNeg) else (-1 : Int32)) else (-1 : Int32))
theorem qX11_start (d : Nat) (x1 : Int32) (x2 : Int32) (σ : St) (g1 : ((0 : Int64) ≤ x1.toInt64 ∧ x1.toInt64 ≤ (31 : Int64)) → ((0 : Int64) ≤ x2.toInt64 ∧ x2.toInt64 ≤ (99 : Int64)) → vp_in x1 32) : Ct yX11_start MX11_start (d + 1) [.ref 88, .int x1, .int x2] σ (fun v σ1 => v = some (.int (rX11_start x1 x2 σ)) ∧ σ1 = sX11_start x1 x2 σ) :=
  Ct.of mX11_start.1 (Nat.le_of_ble_eq_true rfl) (bX11_start_0 x1 x2 σ  g1 (fun h1 => ⟨by first | rfl | (simp only [sX11_start, rX11_start, eq_false h1, not_false_eq_true, true_and, and_true, false_and, and_false, true_or, or_true, false_or, or_false, not_true_eq_false, not_false_eq_true, if_true, if_false]; done) | (simp [sX11_start, rX11_start, eq_false h1, not_false_eq_true, bI]; done), by first | rfl | (simp only [sX11_start, rX11_start, eq_false h1, not_false_eq_true, true_and, and_true, false_and, and_false, true_or, or_true, false_or, or_false, not_true_eq_false, not_false_eq_true, if_true, if_false]; done) | (simp [sX11_start, rX11_start, eq_false h1, not_false_eq_true, bI]; done)⟩) (fun h1 h2 => ⟨by first | rfl | (simp only [sX11_start, rX11_start, eq_true h1, not_true_eq_false, eq_true h2, not_true_eq_false, true_and, and_true, false_and, and_false, true_or, or_true, false_or, or_false, not_true_eq_false, not_false_eq_true, if_true, if_false]; done) | (simp [sX11_start, rX11_start, eq_true h1, not_true_eq_false, eq_true h2, not_true_eq_false, bI]; done), by first | rfl | (simp only [sX11_start, rX11_start, eq_true h1, not_true_eq_false, eq_true h2, not_true_eq_false, true_and, and_true, false_and, and_false, true_or, or_true, false_or, or_false, not_true_eq_false, not_false_eq_true, if_true, if_false]; done) | (simp [sX11_start, rX11_start, eq_true h1, not_true_eq_false, eq_true h2, not_true_eq_false, bI]; done)⟩) (fun h1 h2 => ⟨by first | rfl | (simp only [sX11_start, rX11_start, eq_true h1, not_true_eq_false, eq_false h2, not_false_eq_true, true_and, and_true, false_and, and_false, true_or, or_true, false_or, or_false, not_true_eq_false, not_false_eq_true, if_true, if_false]; done) | (simp [sX11_start, rX11_start, eq_true h1, not_true_eq_false, eq_false h2, not_false_eq_true, bI]; done), by first | rfl | (simp only [sX11_start, rX11_start, eq_true h1, not_true_eq_false, eq_false h2, not_false_eq_true, true_and, and_true, false_and, and_false, true_or, or_true, false_or, or_false, not_true_eq_false, not_false_eq_true, if_true, if_false]; done) | (simp [sX11_start, rX11_start, eq_true h1, not_true_eq_false, eq_false h2, not_false_eq_true, bI]; done)⟩))

/-! CarryNetsModel.time -/
theorem eX11_time_0 : decode MX11_time.2.1 0 = .ok (.aload_n 0, 1) := by decide +kernel
theorem eX11_time_1 : decode MX11_time.2.1 1 = .ok (.iload_n 1, 1) := by decide +kernel
theorem eX11_time_2 : decode MX11_time.2.1 2 = .ok (.invokevirtual 175, 3) := by decide +kernel
theorem eX11_time_5 : decode MX11_time.2.1 5 = .ok (.ifCond .eq 27, 3) := by decide +kernel
theorem eX11_time_8 : decode MX11_time.2.1 8 = .ok (.iload_n 2, 1) := by decide +kernel
theorem eX11_time_9 : decode MX11_time.2.1 9 = .ok (.bipush (-4), 2) := by decide +kernel
theorem eX11_time_11 : decode MX11_time.2.1 11 = .ok (.if_icmp .eq 23, 3) := by decide +kernel
theorem eX11_time_14 : decode MX11_time.2.1 14 = .ok (.iload_n 2, 1) := by decide +kernel
theorem eX11_time_15 : decode MX11_time.2.1 15 = .ok (.i2l, 1) := by decide +kernel
theorem eX11_time_16 : decode MX11_time.2.1 16 = .ok (.lconst 0, 1) := by decide +kernel
theorem eX11_time_17 : decode MX11_time.2.1 17 = .ok (.aload_n 0, 1) := by decide +kernel
theorem eX11_time_18 : decode MX11_time.2.1 18 = .ok (.getfield 7, 3) := by decide +kernel
theorem eX11_time_21 : decode MX11_time.2.1 21 = .ok (.iload_n 1, 1) := by decide +kernel
theorem eX11_time_22 : decode MX11_time.2.1 22 = .ok (.iaload, 1) := by decide +kernel
theorem eX11_time_23 : decode MX11_time.2.1 23 = .ok (.iconst 1, 1) := by decide +kernel
theorem eX11_time_24 : decode MX11_time.2.1 24 = .ok (.isub, 1) := by decide +kernel
theorem eX11_time_25 : decode MX11_time.2.1 25 = .ok (.i2l, 1) := by decide +kernel
theorem eX11_time_26 : decode MX11_time.2.1 26 = .ok (.invokestatic 109, 3) := by decide +kernel
theorem eX11_time_29 : decode MX11_time.2.1 29 = .ok (.ifCond .ne 5, 3) := by decide +kernel
theorem eX11_time_32 : decode MX11_time.2.1 32 = .ok (.iconst (-1), 1) := by decide +kernel
theorem eX11_time_33 : decode MX11_time.2.1 33 = .ok (.ireturn, 1) := by decide +kernel
theorem eX11_time_34 : decode MX11_time.2.1 34 = .ok (.iconst 0, 1) := by decide +kernel
theorem eX11_time_35 : decode MX11_time.2.1 35 = .ok (.istore_n 3, 1) := by decide +kernel
theorem eX11_time_36 : decode MX11_time.2.1 36 = .ok (.iload_n 3, 1) := by decide +kernel
theorem eX11_time_37 : decode MX11_time.2.1 37 = .ok (.bipush 32, 2) := by decide +kernel
theorem eX11_time_39 : decode MX11_time.2.1 39 = .ok (.if_icmp .ge 21, 3) := by decide +kernel
theorem eX11_time_42 : decode MX11_time.2.1 42 = .ok (.aload_n 0, 1) := by decide +kernel
theorem eX11_time_43 : decode MX11_time.2.1 43 = .ok (.getfield 42, 3) := by decide +kernel
theorem eX11_time_46 : decode MX11_time.2.1 46 = .ok (.iload_n 3, 1) := by decide +kernel
theorem eX11_time_47 : decode MX11_time.2.1 47 = .ok (.aload_n 0, 1) := by decide +kernel
theorem eX11_time_48 : decode MX11_time.2.1 48 = .ok (.getfield 27, 3) := by decide +kernel
theorem eX11_time_51 : decode MX11_time.2.1 51 = .ok (.iload_n 3, 1) := by decide +kernel
theorem eX11_time_52 : decode MX11_time.2.1 52 = .ok (.iaload, 1) := by decide +kernel
theorem eX11_time_53 : decode MX11_time.2.1 53 = .ok (.iastore, 1) := by decide +kernel
theorem eX11_time_54 : decode MX11_time.2.1 54 = .ok (.iinc 3 1, 3) := by decide +kernel
theorem eX11_time_57 : decode MX11_time.2.1 57 = .ok (.goto (-21), 3) := by decide +kernel
theorem eX11_time_60 : decode MX11_time.2.1 60 = .ok (.iconst 0, 1) := by decide +kernel
theorem eX11_time_61 : decode MX11_time.2.1 61 = .ok (.istore_n 3, 1) := by decide +kernel
theorem eX11_time_62 : decode MX11_time.2.1 62 = .ok (.iload_n 3, 1) := by decide +kernel
theorem eX11_time_63 : decode MX11_time.2.1 63 = .ok (.aload_n 0, 1) := by decide +kernel
theorem eX11_time_64 : decode MX11_time.2.1 64 = .ok (.getfield 13, 3) := by decide +kernel
theorem eX11_time_67 : decode MX11_time.2.1 67 = .ok (.iload_n 1, 1) := by decide +kernel
theorem eX11_time_68 : decode MX11_time.2.1 68 = .ok (.iaload, 1) := by decide +kernel
theorem eX11_time_69 : decode MX11_time.2.1 69 = .ok (.if_icmp .ge 166, 3) := by decide +kernel
theorem eX11_time_72 : decode MX11_time.2.1 72 = .ok (.aload_n 0, 1) := by decide +kernel
theorem eX11_time_73 : decode MX11_time.2.1 73 = .ok (.iload_n 1, 1) := by decide +kernel
theorem eX11_time_74 : decode MX11_time.2.1 74 = .ok (.iload_n 3, 1) := by decide +kernel
theorem eX11_time_75 : decode MX11_time.2.1 75 = .ok (.invokevirtual 186, 3) := by decide +kernel
theorem eX11_time_78 : decode MX11_time.2.1 78 = .ok (.iconst 0, 1) := by decide +kernel
theorem eX11_time_79 : decode MX11_time.2.1 79 = .ok (.istore 4, 2) := by decide +kernel
theorem eX11_time_81 : decode MX11_time.2.1 81 = .ok (.iload 4, 2) := by decide +kernel
theorem eX11_time_83 : decode MX11_time.2.1 83 = .ok (.aload_n 0, 1) := by decide +kernel
theorem eX11_time_84 : decode MX11_time.2.1 84 = .ok (.getfield 7, 3) := by decide +kernel
theorem eX11_time_87 : decode MX11_time.2.1 87 = .ok (.iload_n 1, 1) := by decide +kernel
theorem eX11_time_88 : decode MX11_time.2.1 88 = .ok (.iaload, 1) := by decide +kernel
theorem eX11_time_89 : decode MX11_time.2.1 89 = .ok (.if_icmp .ge 106, 3) := by decide +kernel
theorem eX11_time_92 : decode MX11_time.2.1 92 = .ok (.aload_n 0, 1) := by decide +kernel
theorem eX11_time_93 : decode MX11_time.2.1 93 = .ok (.getfield 39, 3) := by decide +kernel
theorem eX11_time_96 : decode MX11_time.2.1 96 = .ok (.iload 4, 2) := by decide +kernel
theorem eX11_time_98 : decode MX11_time.2.1 98 = .ok (.iaload, 1) := by decide +kernel
theorem eX11_time_99 : decode MX11_time.2.1 99 = .ok (.istore 5, 2) := by decide +kernel
theorem eX11_time_101 : decode MX11_time.2.1 101 = .ok (.iload 5, 2) := by decide +kernel
theorem eX11_time_103 : decode MX11_time.2.1 103 = .ok (.bipush (-4), 2) := by decide +kernel
theorem eX11_time_105 : decode MX11_time.2.1 105 = .ok (.if_icmp .eq 20, 3) := by decide +kernel
theorem eX11_time_108 : decode MX11_time.2.1 108 = .ok (.aload_n 0, 1) := by decide +kernel
theorem eX11_time_109 : decode MX11_time.2.1 109 = .ok (.getfield 42, 3) := by decide +kernel
theorem eX11_time_112 : decode MX11_time.2.1 112 = .ok (.iload 4, 2) := by decide +kernel
theorem eX11_time_114 : decode MX11_time.2.1 114 = .ok (.iaload, 1) := by decide +kernel
theorem eX11_time_115 : decode MX11_time.2.1 115 = .ok (.aload_n 0, 1) := by decide +kernel
theorem eX11_time_116 : decode MX11_time.2.1 116 = .ok (.getfield 42, 3) := by decide +kernel
theorem eX11_time_119 : decode MX11_time.2.1 119 = .ok (.iload 5, 2) := by decide +kernel
theorem eX11_time_121 : decode MX11_time.2.1 121 = .ok (.iaload, 1) := by decide +kernel
theorem eX11_time_122 : decode MX11_time.2.1 122 = .ok (.if_icmp .le 13, 3) := by decide +kernel
theorem eX11_time_125 : decode MX11_time.2.1 125 = .ok (.aload_n 0, 1) := by decide +kernel
theorem eX11_time_126 : decode MX11_time.2.1 126 = .ok (.getfield 42, 3) := by decide +kernel
theorem eX11_time_129 : decode MX11_time.2.1 129 = .ok (.iload 4, 2) := by decide +kernel
theorem eX11_time_131 : decode MX11_time.2.1 131 = .ok (.iaload, 1) := by decide +kernel
theorem eX11_time_132 : decode MX11_time.2.1 132 = .ok (.goto 10, 3) := by decide +kernel
theorem eX11_time_135 : decode MX11_time.2.1 135 = .ok (.aload_n 0, 1) := by decide +kernel
theorem eX11_time_136 : decode MX11_time.2.1 136 = .ok (.getfield 42, 3) := by decide +kernel
theorem eX11_time_139 : decode MX11_time.2.1 139 = .ok (.iload 5, 2) := by decide +kernel
theorem eX11_time_141 : decode MX11_time.2.1 141 = .ok (.iaload, 1) := by decide +kernel
theorem eX11_time_142 : decode MX11_time.2.1 142 = .ok (.istore 6, 2) := by decide +kernel
theorem eX11_time_144 : decode MX11_time.2.1 144 = .ok (.aload_n 0, 1) := by decide +kernel
theorem eX11_time_145 : decode MX11_time.2.1 145 = .ok (.getfield 45, 3) := by decide +kernel
theorem eX11_time_148 : decode MX11_time.2.1 148 = .ok (.iload 4, 2) := by decide +kernel
theorem eX11_time_150 : decode MX11_time.2.1 150 = .ok (.iload 5, 2) := by decide +kernel
theorem eX11_time_152 : decode MX11_time.2.1 152 = .ok (.bipush (-4), 2) := by decide +kernel
theorem eX11_time_154 : decode MX11_time.2.1 154 = .ok (.if_icmp .ne 13, 3) := by decide +kernel
theorem eX11_time_157 : decode MX11_time.2.1 157 = .ok (.aload_n 0, 1) := by decide +kernel
theorem eX11_time_158 : decode MX11_time.2.1 158 = .ok (.getfield 42, 3) := by decide +kernel
theorem eX11_time_161 : decode MX11_time.2.1 161 = .ok (.iload 4, 2) := by decide +kernel
theorem eX11_time_163 : decode MX11_time.2.1 163 = .ok (.iaload, 1) := by decide +kernel
theorem eX11_time_164 : decode MX11_time.2.1 164 = .ok (.goto 24, 3) := by decide +kernel
theorem eX11_time_167 : decode MX11_time.2.1 167 = .ok (.iload 6, 2) := by decide +kernel
theorem eX11_time_169 : decode MX11_time.2.1 169 = .ok (.aload_n 0, 1) := by decide +kernel
theorem eX11_time_170 : decode MX11_time.2.1 170 = .ok (.getfield 20, 3) := by decide +kernel
theorem eX11_time_173 : decode MX11_time.2.1 173 = .ok (.iadd, 1) := by decide +kernel
theorem eX11_time_174 : decode MX11_time.2.1 174 = .ok (.aload_n 0, 1) := by decide +kernel
theorem eX11_time_175 : decode MX11_time.2.1 175 = .ok (.getfield 24, 3) := by decide +kernel
theorem eX11_time_178 : decode MX11_time.2.1 178 = .ok (.aload_n 0, 1) := by decide +kernel
theorem eX11_time_179 : decode MX11_time.2.1 179 = .ok (.iload 5, 2) := by decide +kernel
theorem eX11_time_181 : decode MX11_time.2.1 181 = .ok (.invokevirtual 189, 3) := by decide +kernel
theorem eX11_time_184 : decode MX11_time.2.1 184 = .ok (.iconst 1, 1) := by decide +kernel
theorem eX11_time_185 : decode MX11_time.2.1 185 = .ok (.isub, 1) := by decide +kernel
theorem eX11_time_186 : decode MX11_time.2.1 186 = .ok (.imul, 1) := by decide +kernel
theorem eX11_time_187 : decode MX11_time.2.1 187 = .ok (.iadd, 1) := by decide +kernel
theorem eX11_time_188 : decode MX11_time.2.1 188 = .ok (.iastore, 1) := by decide +kernel
theorem eX11_time_189 : decode MX11_time.2.1 189 = .ok (.iinc 4 1, 3) := by decide +kernel
theorem eX11_time_192 : decode MX11_time.2.1 192 = .ok (.goto (-111), 3) := by decide +kernel
theorem eX11_time_195 : decode MX11_time.2.1 195 = .ok (.iconst 0, 1) := by decide +kernel
theorem eX11_time_196 : decode MX11_time.2.1 196 = .ok (.istore 4, 2) := by decide +kernel
theorem eX11_time_198 : decode MX11_time.2.1 198 = .ok (.iload 4, 2) := by decide +kernel
theorem eX11_time_200 : decode MX11_time.2.1 200 = .ok (.aload_n 0, 1) := by decide +kernel
theorem eX11_time_201 : decode MX11_time.2.1 201 = .ok (.getfield 7, 3) := by decide +kernel
theorem eX11_time_204 : decode MX11_time.2.1 204 = .ok (.iload_n 1, 1) := by decide +kernel
theorem eX11_time_205 : decode MX11_time.2.1 205 = .ok (.iaload, 1) := by decide +kernel
theorem eX11_time_206 : decode MX11_time.2.1 206 = .ok (.if_icmp .ge 23, 3) := by decide +kernel
theorem eX11_time_209 : decode MX11_time.2.1 209 = .ok (.aload_n 0, 1) := by decide +kernel
theorem eX11_time_210 : decode MX11_time.2.1 210 = .ok (.getfield 42, 3) := by decide +kernel
theorem eX11_time_213 : decode MX11_time.2.1 213 = .ok (.iload 4, 2) := by decide +kernel
theorem eX11_time_215 : decode MX11_time.2.1 215 = .ok (.aload_n 0, 1) := by decide +kernel
theorem eX11_time_216 : decode MX11_time.2.1 216 = .ok (.getfield 45, 3) := by decide +kernel
theorem eX11_time_219 : decode MX11_time.2.1 219 = .ok (.iload 4, 2) := by decide +kernel
theorem eX11_time_221 : decode MX11_time.2.1 221 = .ok (.iaload, 1) := by decide +kernel
theorem eX11_time_222 : decode MX11_time.2.1 222 = .ok (.iastore, 1) := by decide +kernel
theorem eX11_time_223 : decode MX11_time.2.1 223 = .ok (.iinc 4 1, 3) := by decide +kernel
theorem eX11_time_226 : decode MX11_time.2.1 226 = .ok (.goto (-28), 3) := by decide +kernel
theorem eX11_time_229 : decode MX11_time.2.1 229 = .ok (.iinc 3 1, 3) := by decide +kernel
theorem eX11_time_232 : decode MX11_time.2.1 232 = .ok (.goto (-170), 3) := by decide +kernel
theorem eX11_time_235 : decode MX11_time.2.1 235 = .ok (.iconst 0, 1) := by decide +kernel
theorem eX11_time_236 : decode MX11_time.2.1 236 = .ok (.istore_n 3, 1) := by decide +kernel
theorem eX11_time_237 : decode MX11_time.2.1 237 = .ok (.iconst 0, 1) := by decide +kernel
theorem eX11_time_238 : decode MX11_time.2.1 238 = .ok (.istore 4, 2) := by decide +kernel
theorem eX11_time_240 : decode MX11_time.2.1 240 = .ok (.iload 4, 2) := by decide +kernel
theorem eX11_time_242 : decode MX11_time.2.1 242 = .ok (.aload_n 0, 1) := by decide +kernel
theorem eX11_time_243 : decode MX11_time.2.1 243 = .ok (.getfield 7, 3) := by decide +kernel
theorem eX11_time_246 : decode MX11_time.2.1 246 = .ok (.iload_n 1, 1) := by decide +kernel
theorem eX11_time_247 : decode MX11_time.2.1 247 = .ok (.iaload, 1) := by decide +kernel
theorem eX11_time_248 : decode MX11_time.2.1 248 = .ok (.if_icmp .ge 32, 3) := by decide +kernel
theorem eX11_time_251 : decode MX11_time.2.1 251 = .ok (.aload_n 0, 1) := by decide +kernel
theorem eX11_time_252 : decode MX11_time.2.1 252 = .ok (.getfield 42, 3) := by decide +kernel
theorem eX11_time_255 : decode MX11_time.2.1 255 = .ok (.iload 4, 2) := by decide +kernel
theorem eX11_time_257 : decode MX11_time.2.1 257 = .ok (.iaload, 1) := by decide +kernel
theorem eX11_time_258 : decode MX11_time.2.1 258 = .ok (.iload_n 3, 1) := by decide +kernel
theorem eX11_time_259 : decode MX11_time.2.1 259 = .ok (.if_icmp .le 13, 3) := by decide +kernel
theorem eX11_time_262 : decode MX11_time.2.1 262 = .ok (.aload_n 0, 1) := by decide +kernel
theorem eX11_time_263 : decode MX11_time.2.1 263 = .ok (.getfield 42, 3) := by decide +kernel
theorem eX11_time_266 : decode MX11_time.2.1 266 = .ok (.iload 4, 2) := by decide +kernel
theorem eX11_time_268 : decode MX11_time.2.1 268 = .ok (.iaload, 1) := by decide +kernel
theorem eX11_time_269 : decode MX11_time.2.1 269 = .ok (.goto 4, 3) := by decide +kernel
theorem eX11_time_272 : decode MX11_time.2.1 272 = .ok (.iload_n 3, 1) := by decide +kernel
theorem eX11_time_273 : decode MX11_time.2.1 273 = .ok (.istore_n 3, 1) := by decide +kernel
theorem eX11_time_274 : decode MX11_time.2.1 274 = .ok (.iinc 4 1, 3) := by decide +kernel
theorem eX11_time_277 : decode MX11_time.2.1 277 = .ok (.goto (-37), 3) := by decide +kernel
theorem eX11_time_280 : decode MX11_time.2.1 280 = .ok (.iload_n 2, 1) := by decide +kernel
theorem eX11_time_281 : decode MX11_time.2.1 281 = .ok (.bipush (-4), 2) := by decide +kernel
theorem eX11_time_283 : decode MX11_time.2.1 283 = .ok (.if_icmp .ne 7, 3) := by decide +kernel
theorem eX11_time_286 : decode MX11_time.2.1 286 = .ok (.iload_n 3, 1) := by decide +kernel
theorem eX11_time_287 : decode MX11_time.2.1 287 = .ok (.goto 9, 3) := by decide +kernel
theorem eX11_time_290 : decode MX11_time.2.1 290 = .ok (.aload_n 0, 1) := by decide +kernel
theorem eX11_time_291 : decode MX11_time.2.1 291 = .ok (.getfield 42, 3) := by decide +kernel
theorem eX11_time_294 : decode MX11_time.2.1 294 = .ok (.iload_n 2, 1) := by decide +kernel
theorem eX11_time_295 : decode MX11_time.2.1 295 = .ok (.iaload, 1) := by decide +kernel
theorem eX11_time_296 : decode MX11_time.2.1 296 = .ok (.ireturn, 1) := by decide +kernel
set_option maxRecDepth 20000 in
theorem bX11_time_0 {d : Nat} {Q : Option Value → St → Prop} (x1 : Int32) (x2 : Int32) (σ : St) 
    (g1 : ((0 : Int64) ≤ x1.toInt64 ∧ x1.toInt64 ≤ (((σ.1 88 0) - 1).toInt64)) → ¬ x2 = (-4) → vp_in x1 8)
    (k1 : (¬ ((0 : Int64) ≤ x1.toInt64 ∧ x1.toInt64 ≤ (((σ.1 88 0) - 1).toInt64))) → Q (some (.int (-1))) σ)
    (k2 : ((0 : Int64) ≤ x1.toInt64 ∧ x1.toInt64 ≤ (((σ.1 88 0) - 1).toInt64)) → x2 = (-4) → Run MX11_time (d + 3) 36 [some (.ref 88), some (.int x1), some (.int x2), some (.int 0), none, none, none] [] σ Q)
    (k3 : ((0 : Int64) ≤ x1.toInt64 ∧ x1.toInt64 ≤ (((σ.1 88 0) - 1).toInt64)) → ¬ x2 = (-4) → ((0 : Int64) ≤ x2.toInt64 ∧ x2.toInt64 ≤ (((σ.1 89 x1.toNatClampNeg) - 1).toInt64)) → Run MX11_time (d + 3) 36 [some (.ref 88), some (.int x1), some (.int x2), some (.int 0), none, none, none] [] σ Q)
    (k4 : ((0 : Int64) ≤ x1.toInt64 ∧ x1.toInt64 ≤ (((σ.1 88 0) - 1).toInt64)) → ¬ x2 = (-4) → (¬ ((0 : Int64) ≤ x2.toInt64 ∧ x2.toInt64 ≤ (((σ.1 89 x1.toNatClampNeg) - 1).toInt64))) → Q (some (.int (-1))) σ)
    : Run MX11_time (d + 3) 0 [some (.ref 88), some (.int x1), some (.int x2), none, none, none, none] [] σ Q := by
  refine (go_aload_n 0 eX11_time_0 rfl rfl).run ?_
  refine (go_iload_n 1 eX11_time_1 rfl rfl).run ?_
  refine Run.callV1 (d := (d + 2)) (As := [.int x1]) (r := .int (bI ((0 : Int64) ≤ x1.toInt64 ∧ x1.toInt64 ≤ (((σ.1 88 0) - 1).toInt64)))) mX11_isNet lkX11_175 kd_88 (by decide) rfl rfl rfl rfl rfl (Nat.le_of_ble_eq_true rfl) eX11_time_2 (qX11_isNet (d + 1) x1 σ  ) ?_
  refine (br_ifeq_b 32 eX11_time_5 rfl).run (fun h1 => ?_) (fun h1 => ?_)
  · refine (go_iconst (v := -1) eX11_time_32 rfl).run ?_
    exact Run.ret (v := some (.int (-1))) (k1 h1) ⟨Or.inl rfl, eX11_time_33⟩ rfl
  · refine (go_iload_n 2 eX11_time_8 rfl rfl).run ?_
    refine (go_bipush (v := -4) eX11_time_9 rfl).run ?_
    refine (bi_eq 34 eX11_time_11 rfl).run (fun h2 => ?_) (fun h2 => ?_)
    · refine (go_iconst (v := 0) eX11_time_34 rfl).run ?_
      refine (go_istore_n 3 (L' := [some (.ref 88), some (.int x1), some (.int x2), some (.int 0), none, none, none]) eX11_time_35 rfl (Nat.le_of_ble_eq_true rfl) rfl).run ?_
      exact (k2 h1 h2)
    · refine (go_iload_n 2 eX11_time_14 rfl rfl).run ?_
      refine (go_i2l eX11_time_15).run ?_
      refine (go_lconst (v := 0) eX11_time_16 rfl).run ?_
      refine (go_aload_n 0 eX11_time_17 rfl rfl).run ?_
      refine (go_getr flX11_7 rf_10_1 kd_88 gr_88_1 eX11_time_18).run ?_
      refine (go_iload_n 1 eX11_time_21 rfl rfl).run ?_
      refine (go_iald kd_89 ln_89 (g1 h1 h2) eX11_time_22).run ?_
      refine (go_iconst (v := 1) eX11_time_23 rfl).run ?_
      refine (go_isub eX11_time_24).run ?_
      refine (go_i2l eX11_time_25).run ?_
      refine Run.callS1 (d := (d + 2)) (As := [.long x2.toInt64, .long 0, .long (((σ.1 89 x1.toNatClampNeg) - 1).toInt64)]) (r := .int (bI ((0 : Int64) ≤ x2.toInt64 ∧ x2.toInt64 ≤ (((σ.1 89 x1.toNatClampNeg) - 1).toInt64)))) mX11_in lkX11_109 rfl rfl rfl (Nat.le_of_ble_eq_true rfl) eX11_time_26 (qX11_in (d + 2) x2.toInt64 (0 : Int64) (((σ.1 89 x1.toNatClampNeg) - 1).toInt64) σ  ) ?_
      refine (br_ifne_b 34 eX11_time_29 rfl).run (fun h3 => ?_) (fun h3 => ?_)
      · refine (go_iconst (v := 0) eX11_time_34 rfl).run ?_
        refine (go_istore_n 3 (L' := [some (.ref 88), some (.int x1), some (.int x2), some (.int 0), none, none, none]) eX11_time_35 rfl (Nat.le_of_ble_eq_true rfl) rfl).run ?_
        exact (k3 h1 h2 h3)
      · refine (go_iconst (v := -1) eX11_time_32 rfl).run ?_
        exact Run.ret (v := some (.int (-1))) (k4 h1 h2 h3) ⟨Or.inl rfl, eX11_time_33⟩ rfl

set_option maxRecDepth 20000 in
theorem bX11_time_36 {d : Nat} {Q : Option Value → St → Prop} (x1 : Int32) (x2 : Int32) (x3 : Int32) (σ : St) 
    (g1 : x3 < 32 → vp_in x3 32)
    (k1 : (32 : Int32) ≤ x3 → Run MX11_time (d + 3) 62 [some (.ref 88), some (.int x1), some (.int x2), some (.int 0), none, none, none] [] σ Q)
    (k2 : x3 < 32 → Run MX11_time (d + 3) 36 [some (.ref 88), some (.int x1), some (.int x2), some (.int (x3 + 1)), none, none, none] [] (sA σ 97 (upd (σ.1 97) x3.toNatClampNeg (σ.1 92 x3.toNatClampNeg))) Q)
    : Run MX11_time (d + 3) 36 [some (.ref 88), some (.int x1), some (.int x2), some (.int x3), none, none, none] [] σ Q := by
  refine (go_iload_n 3 eX11_time_36 rfl rfl).run ?_
  refine (go_bipush (v := 32) eX11_time_37 rfl).run ?_
  refine (bi_ge 60 eX11_time_39 rfl).run (fun h1 => ?_) (fun h1 => ?_)
  · refine (go_iconst (v := 0) eX11_time_60 rfl).run ?_
    refine (go_istore_n 3 (L' := [some (.ref 88), some (.int x1), some (.int x2), some (.int 0), none, none, none]) eX11_time_61 rfl (Nat.le_of_ble_eq_true rfl) rfl).run ?_
    exact (k1 h1)
  · refine (go_aload_n 0 eX11_time_42 rfl rfl).run ?_
    refine (go_getr flX11_42 rf_10_18 kd_88 gr_88_18 eX11_time_43).run ?_
    refine (go_iload_n 3 eX11_time_46 rfl rfl).run ?_
    refine (go_aload_n 0 eX11_time_47 rfl rfl).run ?_
    refine (go_getr flX11_27 rf_10_6 kd_88 gr_88_6 eX11_time_48).run ?_
    refine (go_iload_n 3 eX11_time_51 rfl rfl).run ?_
    refine (go_iald kd_92 ln_92 (g1 h1) eX11_time_52).run ?_
    refine (go_iast kd_97 ln_97 (g1 h1) eX11_time_53).run ?_
    refine (go_iinc 3 (v := (x3 + 1)) (L' := [some (.ref 88), some (.int x1), some (.int x2), some (.int (x3 + 1)), none, none, none]) eX11_time_54 rfl rfl (Nat.le_of_ble_eq_true rfl) rfl).run ?_
    refine (go_goto 36 eX11_time_57 rfl).run ?_
    exact (k2 h1)

set_option maxRecDepth 20000 in
theorem bX11_time_62 {d : Nat} {Q : Option Value → St → Prop} (x1 : Int32) (x2 : Int32) (x3 : Int32) (σ : St) 
    (g1 : vp_in x1 8)
    (k1 : (σ.1 90 x1.toNatClampNeg) ≤ x3 → Run MX11_time (d + 3) 240 [some (.ref 88), some (.int x1), some (.int x2), some (.int 0), some (.int 0), none, none] [] σ Q)
    (k2 : x3 < (σ.1 90 x1.toNatClampNeg) → Ct yX11_findTakes MX11_findTakes (d + 2) [.ref 88, .int x1, .int x3] σ (fun v σ1 => Run MX11_time (d + 3) 78 [some (.ref 88), some (.int x1), some (.int x2), some (.int x3), none, none, none] (v.toList ++ []) σ1 Q))
    : Run MX11_time (d + 3) 62 [some (.ref 88), some (.int x1), some (.int x2), some (.int x3), none, none, none] [] σ Q := by
  refine (go_iload_n 3 eX11_time_62 rfl rfl).run ?_
  refine (go_aload_n 0 eX11_time_63 rfl rfl).run ?_
  refine (go_getr flX11_13 rf_10_2 kd_88 gr_88_2 eX11_time_64).run ?_
  refine (go_iload_n 1 eX11_time_67 rfl rfl).run ?_
  refine (go_iald kd_90 ln_90 g1 eX11_time_68).run ?_
  refine (bi_ge 235 eX11_time_69 rfl).run (fun h1 => ?_) (fun h1 => ?_)
  · refine (go_iconst (v := 0) eX11_time_235 rfl).run ?_
    refine (go_istore_n 3 (L' := [some (.ref 88), some (.int x1), some (.int x2), some (.int 0), none, none, none]) eX11_time_236 rfl (Nat.le_of_ble_eq_true rfl) rfl).run ?_
    refine (go_iconst (v := 0) eX11_time_237 rfl).run ?_
    refine (go_istore 4 (L' := [some (.ref 88), some (.int x1), some (.int x2), some (.int 0), some (.int 0), none, none]) eX11_time_238 (Nat.le_of_ble_eq_true rfl) rfl).run ?_
    exact (k1 h1)
  · refine (go_aload_n 0 eX11_time_72 rfl rfl).run ?_
    refine (go_iload_n 1 eX11_time_73 rfl rfl).run ?_
    refine (go_iload_n 3 eX11_time_74 rfl rfl).run ?_
    exact Run.callV (d := (d + 2)) (As := [.int x1, .int x3]) mX11_findTakes lkX11_186 kd_88 (by decide) rfl rfl rfl rfl rfl (Nat.le_of_ble_eq_true rfl) eX11_time_75 (k2 h1)

set_option maxRecDepth 20000 in
theorem bX11_time_240 {d : Nat} {Q : Option Value → St → Prop} (x1 : Int32) (x2 : Int32) (x3 : Int32) (x4 : Int32) (σ : St) 
    (g1 : vp_in x1 8)
    (g2 : (σ.1 89 x1.toNatClampNeg) ≤ x4 → ¬ x2 = (-4) → vp_in x2 32)
    (g3 : x4 < (σ.1 89 x1.toNatClampNeg) → vp_in x4 32)
    (k1 : (σ.1 89 x1.toNatClampNeg) ≤ x4 → Q (some (.int (if x2 = (-4) then x3 else (σ.1 97 x2.toNatClampNeg)))) σ)
    (k2 : x4 < (σ.1 89 x1.toNatClampNeg) → Run MX11_time (d + 3) 240 [some (.ref 88), some (.int x1), some (.int x2), some (.int (if (σ.1 97 x4.toNatClampNeg) ≤ x3 then x3 else (σ.1 97 x4.toNatClampNeg))), some (.int (x4 + 1)), none, none] [] σ Q)
    : Run MX11_time (d + 3) 240 [some (.ref 88), some (.int x1), some (.int x2), some (.int x3), some (.int x4), none, none] [] σ Q := by
  refine (go_iload 4 eX11_time_240 rfl).run ?_
  refine (go_aload_n 0 eX11_time_242 rfl rfl).run ?_
  refine (go_getr flX11_7 rf_10_1 kd_88 gr_88_1 eX11_time_243).run ?_
  refine (go_iload_n 1 eX11_time_246 rfl rfl).run ?_
  refine (go_iald kd_89 ln_89 g1 eX11_time_247).run ?_
  refine (bi_ge 280 eX11_time_248 rfl).run (fun h1 => ?_) (fun h1 => ?_)
  · refine (go_iload_n 2 eX11_time_280 rfl rfl).run ?_
    refine (go_bipush (v := -4) eX11_time_281 rfl).run ?_
    have hJh2 : Run MX11_time (d + 3) 296 [none, none, none, none, none, none, none] [.int (if x2 = (-4) then x3 else (σ.1 97 x2.toNatClampNeg))] σ Q := by
      exact Run.ret (v := some (.int (if x2 = (-4) then x3 else (σ.1 97 x2.toNatClampNeg)))) (k1 h1) ⟨Or.inl rfl, eX11_time_296⟩ rfl
    refine (bi_ne 290 eX11_time_283 rfl).run (fun h2 => ?_) (fun h2 => ?_)
    · refine (go_aload_n 0 eX11_time_290 rfl rfl).run ?_
      refine (go_getr flX11_42 rf_10_18 kd_88 gr_88_18 eX11_time_291).run ?_
      refine (go_iload_n 2 eX11_time_294 rfl rfl).run ?_
      refine (go_iald kd_97 ln_97 (g2 h1 h2) eX11_time_295).run ?_
      refine (go_sub (L' := [none, none, none, none, none, none, none]) (lsub_drop (lsub_drop (lsub_drop (lsub_drop (lsub_drop (lsub_keep (lsub_keep lsub_nil)))))))).run ?_
      first | exact hJh2 | (simp only [if_neg (h2)] at hJh2; exact hJh2) | (simp only [eq_false h2, not_false_eq_true, true_and, and_true, false_and, and_false, true_or, or_true, false_or, or_false, not_true_eq_false, not_false_eq_true] at hJh2; exact hJh2) | exact Run.eq (by simp [eq_false h2, not_false_eq_true, bI]) (by simp [eq_false h2, not_false_eq_true, bI]) rfl hJh2
    · refine (go_iload_n 3 eX11_time_286 rfl rfl).run ?_
      refine (go_goto 296 eX11_time_287 rfl).run ?_
      refine (go_sub (L' := [none, none, none, none, none, none, none]) (lsub_drop (lsub_drop (lsub_drop (lsub_drop (lsub_drop (lsub_keep (lsub_keep lsub_nil)))))))).run ?_
      first | exact hJh2 | (simp only [if_pos h2] at hJh2; exact hJh2) | (simp only [eq_true h2, not_true_eq_false, true_and, and_true, false_and, and_false, true_or, or_true, false_or, or_false, not_true_eq_false, not_false_eq_true] at hJh2; exact hJh2) | exact Run.eq (by simp [eq_true h2, not_true_eq_false, bI]) (by simp [eq_true h2, not_true_eq_false, bI]) rfl hJh2
  · refine (go_aload_n 0 eX11_time_251 rfl rfl).run ?_
    refine (go_getr flX11_42 rf_10_18 kd_88 gr_88_18 eX11_time_252).run ?_
    refine (go_iload 4 eX11_time_255 rfl).run ?_
    refine (go_iald kd_97 ln_97 (g3 h1) eX11_time_257).run ?_
    refine (go_iload_n 3 eX11_time_258 rfl rfl).run ?_
    have hJh3 : Run MX11_time (d + 3) 273 [some (.ref 88), some (.int x1), some (.int x2), none, some (.int x4), none, none] [.int (if (σ.1 97 x4.toNatClampNeg) ≤ x3 then x3 else (σ.1 97 x4.toNatClampNeg))] σ Q := by
      refine (go_istore_n 3 (L' := [some (.ref 88), some (.int x1), some (.int x2), some (.int (if (σ.1 97 x4.toNatClampNeg) ≤ x3 then x3 else (σ.1 97 x4.toNatClampNeg))), some (.int x4), none, none]) eX11_time_273 rfl (Nat.le_of_ble_eq_true rfl) rfl).run ?_
      refine (go_iinc 4 (v := (x4 + 1)) (L' := [some (.ref 88), some (.int x1), some (.int x2), some (.int (if (σ.1 97 x4.toNatClampNeg) ≤ x3 then x3 else (σ.1 97 x4.toNatClampNeg))), some (.int (x4 + 1)), none, none]) eX11_time_274 rfl rfl (Nat.le_of_ble_eq_true rfl) rfl).run ?_
      refine (go_goto 240 eX11_time_277 rfl).run ?_
      exact (k2 h1)
    refine (bi_le 272 eX11_time_259 rfl).run (fun h3 => ?_) (fun h3 => ?_)
    · refine (go_iload_n 3 eX11_time_272 rfl rfl).run ?_
      refine (go_sub (L' := [some (.ref 88), some (.int x1), some (.int x2), none, some (.int x4), none, none]) (lsub_keep (lsub_keep (lsub_keep (lsub_drop (lsub_keep (lsub_keep (lsub_keep lsub_nil)))))))).run ?_
      first | exact hJh3 | (simp only [if_pos h3] at hJh3; exact hJh3) | (simp only [eq_true h3, eq_false (i32_nlt.mpr h3), true_and, and_true, false_and, and_false, true_or, or_true, false_or, or_false, not_true_eq_false, not_false_eq_true] at hJh3; exact hJh3) | exact Run.eq (by simp [eq_true h3, eq_false (i32_nlt.mpr h3), bI]) (by simp [eq_true h3, eq_false (i32_nlt.mpr h3), bI]) rfl hJh3
    · refine (go_aload_n 0 eX11_time_262 rfl rfl).run ?_
      refine (go_getr flX11_42 rf_10_18 kd_88 gr_88_18 eX11_time_263).run ?_
      refine (go_iload 4 eX11_time_266 rfl).run ?_
      refine (go_iald kd_97 ln_97 (g3 h1) eX11_time_268).run ?_
      refine (go_goto 273 eX11_time_269 rfl).run ?_
      refine (go_sub (L' := [some (.ref 88), some (.int x1), some (.int x2), none, some (.int x4), none, none]) (lsub_keep (lsub_keep (lsub_keep (lsub_drop (lsub_keep (lsub_keep (lsub_keep lsub_nil)))))))).run ?_
      first | exact hJh3 | (simp only [if_neg (i32_nle.mpr h3)] at hJh3; exact hJh3) | (simp only [eq_true h3, eq_false (i32_nle.mpr h3), true_and, and_true, false_and, and_false, true_or, or_true, false_or, or_false, not_true_eq_false, not_false_eq_true] at hJh3; exact hJh3) | exact Run.eq (by simp [eq_true h3, eq_false (i32_nle.mpr h3), bI]) (by simp [eq_true h3, eq_false (i32_nle.mpr h3), bI]) rfl hJh3

set_option maxRecDepth 20000 in
theorem bX11_time_78 {d : Nat} {Q : Option Value → St → Prop} (x1 : Int32) (x2 : Int32) (x3 : Int32) (σ : St) 
    (k1 : Run MX11_time (d + 3) 81 [some (.ref 88), some (.int x1), some (.int x2), some (.int x3), some (.int 0), none, none] [] σ Q)
    : Run MX11_time (d + 3) 78 [some (.ref 88), some (.int x1), some (.int x2), some (.int x3), none, none, none] [] σ Q := by
  refine (go_iconst (v := 0) eX11_time_78 rfl).run ?_
  refine (go_istore 4 (L' := [some (.ref 88), some (.int x1), some (.int x2), some (.int x3), some (.int 0), none, none]) eX11_time_79 (Nat.le_of_ble_eq_true rfl) rfl).run ?_
  exact k1

set_option maxRecDepth 20000 in
theorem bX11_time_81 {d : Nat} {Q : Option Value → St → Prop} (x1 : Int32) (x2 : Int32) (x3 : Int32) (x4 : Int32) (σ : St) 
    (g1 : vp_in x1 8)
    (g2 : x4 < (σ.1 89 x1.toNatClampNeg) → vp_in x4 32)
    (g3 : x4 < (σ.1 89 x1.toNatClampNeg) → ¬ (σ.1 96 x4.toNatClampNeg) = (-4) → vp_in (σ.1 96 x4.toNatClampNeg) 32)
    (k1 : (σ.1 89 x1.toNatClampNeg) ≤ x4 → Run MX11_time (d + 3) 198 [some (.ref 88), some (.int x1), some (.int x2), some (.int x3), some (.int 0), none, none] [] σ Q)
    (k2 : x4 < (σ.1 89 x1.toNatClampNeg) → ¬ (σ.1 96 x4.toNatClampNeg) = (-4) → Ct yX11_loadOf MX11_loadOf (d + 2) [.ref 88, .int (σ.1 96 x4.toNatClampNeg)] σ (fun v σ1 => Run MX11_time (d + 3) 184 [some (.ref 88), some (.int x1), some (.int x2), some (.int x3), some (.int x4), none, none] (v.toList ++ [.int (σ.1 88 5), .int ((if (σ.1 96 x4.toNatClampNeg) = (-4) then (σ.1 97 x4.toNatClampNeg) else (if (σ.1 97 x4.toNatClampNeg) ≤ (σ.1 97 (σ.1 96 x4.toNatClampNeg).toNatClampNeg) then (σ.1 97 (σ.1 96 x4.toNatClampNeg).toNatClampNeg) else (σ.1 97 x4.toNatClampNeg))) + (σ.1 88 4)), .int x4, .ref 98]) σ1 Q))
    (k3 : x4 < (σ.1 89 x1.toNatClampNeg) → (σ.1 96 x4.toNatClampNeg) = (-4) → Run MX11_time (d + 3) 81 [some (.ref 88), some (.int x1), some (.int x2), some (.int x3), some (.int (x4 + 1)), none, none] [] (sA σ 98 (upd (σ.1 98) x4.toNatClampNeg (σ.1 97 x4.toNatClampNeg))) Q)
    : Run MX11_time (d + 3) 81 [some (.ref 88), some (.int x1), some (.int x2), some (.int x3), some (.int x4), none, none] [] σ Q := by
  refine (go_iload 4 eX11_time_81 rfl).run ?_
  refine (go_aload_n 0 eX11_time_83 rfl rfl).run ?_
  refine (go_getr flX11_7 rf_10_1 kd_88 gr_88_1 eX11_time_84).run ?_
  refine (go_iload_n 1 eX11_time_87 rfl rfl).run ?_
  refine (go_iald kd_89 ln_89 g1 eX11_time_88).run ?_
  refine (bi_ge 195 eX11_time_89 rfl).run (fun h1 => ?_) (fun h1 => ?_)
  · refine (go_iconst (v := 0) eX11_time_195 rfl).run ?_
    refine (go_istore 4 (L' := [some (.ref 88), some (.int x1), some (.int x2), some (.int x3), some (.int 0), none, none]) eX11_time_196 (Nat.le_of_ble_eq_true rfl) rfl).run ?_
    exact (k1 h1)
  · refine (go_aload_n 0 eX11_time_92 rfl rfl).run ?_
    refine (go_getr flX11_39 rf_10_17 kd_88 gr_88_17 eX11_time_93).run ?_
    refine (go_iload 4 eX11_time_96 rfl).run ?_
    refine (go_iald kd_96 ln_96 (g2 h1) eX11_time_98).run ?_
    refine (go_istore 5 (L' := [some (.ref 88), some (.int x1), some (.int x2), some (.int x3), some (.int x4), some (.int (σ.1 96 x4.toNatClampNeg)), none]) eX11_time_99 (Nat.le_of_ble_eq_true rfl) rfl).run ?_
    refine (go_iload 5 eX11_time_101 rfl).run ?_
    refine (go_bipush (v := -4) eX11_time_103 rfl).run ?_
    have hJh2 : Run MX11_time (d + 3) 142 [some (.ref 88), some (.int x1), some (.int x2), some (.int x3), some (.int x4), some (.int (σ.1 96 x4.toNatClampNeg)), none] [.int (if (σ.1 96 x4.toNatClampNeg) = (-4) then (σ.1 97 x4.toNatClampNeg) else (if (σ.1 97 x4.toNatClampNeg) ≤ (σ.1 97 (σ.1 96 x4.toNatClampNeg).toNatClampNeg) then (σ.1 97 (σ.1 96 x4.toNatClampNeg).toNatClampNeg) else (σ.1 97 x4.toNatClampNeg)))] σ Q := by
      refine (go_istore 6 (L' := [some (.ref 88), some (.int x1), some (.int x2), some (.int x3), some (.int x4), some (.int (σ.1 96 x4.toNatClampNeg)), some (.int (if (σ.1 96 x4.toNatClampNeg) = (-4) then (σ.1 97 x4.toNatClampNeg) else (if (σ.1 97 x4.toNatClampNeg) ≤ (σ.1 97 (σ.1 96 x4.toNatClampNeg).toNatClampNeg) then (σ.1 97 (σ.1 96 x4.toNatClampNeg).toNatClampNeg) else (σ.1 97 x4.toNatClampNeg))))]) eX11_time_142 (Nat.le_of_ble_eq_true rfl) rfl).run ?_
      refine (go_aload_n 0 eX11_time_144 rfl rfl).run ?_
      refine (go_getr flX11_45 rf_10_19 kd_88 gr_88_19 eX11_time_145).run ?_
      refine (go_iload 4 eX11_time_148 rfl).run ?_
      refine (go_iload 5 eX11_time_150 rfl).run ?_
      refine (go_bipush (v := -4) eX11_time_152 rfl).run ?_
      refine (bi_ne 167 eX11_time_154 rfl).run (fun h4 => ?_) (fun h4 => ?_)
      · refine (go_iload 6 eX11_time_167 rfl).run ?_
        refine (go_aload_n 0 eX11_time_169 rfl rfl).run ?_
        refine (go_geti flX11_20 rf_10_4 kd_88 eX11_time_170).run ?_
        refine (go_iadd eX11_time_173).run ?_
        refine (go_aload_n 0 eX11_time_174 rfl rfl).run ?_
        refine (go_geti flX11_24 rf_10_5 kd_88 eX11_time_175).run ?_
        refine (go_aload_n 0 eX11_time_178 rfl rfl).run ?_
        refine (go_iload 5 eX11_time_179 rfl).run ?_
        refine (go_sub (L' := [some (.ref 88), some (.int x1), some (.int x2), some (.int x3), some (.int x4), none, none]) (lsub_keep (lsub_keep (lsub_keep (lsub_keep (lsub_keep (lsub_drop (lsub_drop lsub_nil)))))))).run ?_
        exact Run.callV (d := (d + 2)) (As := [.int (σ.1 96 x4.toNatClampNeg)]) mX11_loadOf lkX11_189 kd_88 (by decide) rfl rfl rfl rfl rfl (Nat.le_of_ble_eq_true rfl) eX11_time_181 (k2 h1 h4)
      · refine (go_aload_n 0 eX11_time_157 rfl rfl).run ?_
        refine (go_getr flX11_42 rf_10_18 kd_88 gr_88_18 eX11_time_158).run ?_
        refine (go_iload 4 eX11_time_161 rfl).run ?_
        refine (go_iald kd_97 ln_97 (g2 h1) eX11_time_163).run ?_
        refine (go_goto 188 eX11_time_164 rfl).run ?_
        refine (go_iast kd_98 ln_98 (g2 h1) eX11_time_188).run ?_
        refine (go_iinc 4 (v := (x4 + 1)) (L' := [some (.ref 88), some (.int x1), some (.int x2), some (.int x3), some (.int (x4 + 1)), some (.int (σ.1 96 x4.toNatClampNeg)), some (.int (if (σ.1 96 x4.toNatClampNeg) = (-4) then (σ.1 97 x4.toNatClampNeg) else (if (σ.1 97 x4.toNatClampNeg) ≤ (σ.1 97 (σ.1 96 x4.toNatClampNeg).toNatClampNeg) then (σ.1 97 (σ.1 96 x4.toNatClampNeg).toNatClampNeg) else (σ.1 97 x4.toNatClampNeg))))]) eX11_time_189 rfl rfl (Nat.le_of_ble_eq_true rfl) rfl).run ?_
        refine (go_goto 81 eX11_time_192 rfl).run ?_
        refine (go_sub (L' := [some (.ref 88), some (.int x1), some (.int x2), some (.int x3), some (.int (x4 + 1)), none, none]) (lsub_keep (lsub_keep (lsub_keep (lsub_keep (lsub_keep (lsub_drop (lsub_drop lsub_nil)))))))).run ?_
        exact (k3 h1 h4)
    refine (bi_eq 125 eX11_time_105 rfl).run (fun h2 => ?_) (fun h2 => ?_)
    · refine (go_aload_n 0 eX11_time_125 rfl rfl).run ?_
      refine (go_getr flX11_42 rf_10_18 kd_88 gr_88_18 eX11_time_126).run ?_
      refine (go_iload 4 eX11_time_129 rfl).run ?_
      refine (go_iald kd_97 ln_97 (g2 h1) eX11_time_131).run ?_
      refine (go_goto 142 eX11_time_132 rfl).run ?_
      first | exact hJh2 | (simp only [if_pos h2] at hJh2; exact hJh2) | (simp only [eq_true h2, not_true_eq_false, true_and, and_true, false_and, and_false, true_or, or_true, false_or, or_false, not_true_eq_false, not_false_eq_true] at hJh2; exact hJh2) | exact Run.eq (by simp [eq_true h2, not_true_eq_false, bI]) (by simp [eq_true h2, not_true_eq_false, bI]) rfl hJh2
    · refine (go_aload_n 0 eX11_time_108 rfl rfl).run ?_
      refine (go_getr flX11_42 rf_10_18 kd_88 gr_88_18 eX11_time_109).run ?_
      refine (go_iload 4 eX11_time_112 rfl).run ?_
      refine (go_iald kd_97 ln_97 (g2 h1) eX11_time_114).run ?_
      refine (go_aload_n 0 eX11_time_115 rfl rfl).run ?_
      refine (go_getr flX11_42 rf_10_18 kd_88 gr_88_18 eX11_time_116).run ?_
      refine (go_iload 5 eX11_time_119 rfl).run ?_
      refine (go_iald kd_97 ln_97 (g3 h1 h2) eX11_time_121).run ?_
      have hJh3 : Run MX11_time (d + 3) 142 [some (.ref 88), some (.int x1), some (.int x2), some (.int x3), some (.int x4), some (.int (σ.1 96 x4.toNatClampNeg)), none] [.int (if (σ.1 97 x4.toNatClampNeg) ≤ (σ.1 97 (σ.1 96 x4.toNatClampNeg).toNatClampNeg) then (σ.1 97 (σ.1 96 x4.toNatClampNeg).toNatClampNeg) else (σ.1 97 x4.toNatClampNeg))] σ Q := by
        first | exact hJh2 | (simp only [if_neg (h2)] at hJh2; exact hJh2) | (simp only [eq_false h2, not_false_eq_true, true_and, and_true, false_and, and_false, true_or, or_true, false_or, or_false, not_true_eq_false, not_false_eq_true] at hJh2; exact hJh2) | exact Run.eq (by simp [eq_false h2, not_false_eq_true, bI]) (by simp [eq_false h2, not_false_eq_true, bI]) rfl hJh2
      refine (bi_le 135 eX11_time_122 rfl).run (fun h3 => ?_) (fun h3 => ?_)
      · refine (go_aload_n 0 eX11_time_135 rfl rfl).run ?_
        refine (go_getr flX11_42 rf_10_18 kd_88 gr_88_18 eX11_time_136).run ?_
        refine (go_iload 5 eX11_time_139 rfl).run ?_
        refine (go_iald kd_97 ln_97 (g3 h1 h2) eX11_time_141).run ?_
        first | exact hJh3 | (simp only [if_pos h3] at hJh3; exact hJh3) | (simp only [eq_true h3, eq_false (i32_nlt.mpr h3), true_and, and_true, false_and, and_false, true_or, or_true, false_or, or_false, not_true_eq_false, not_false_eq_true] at hJh3; exact hJh3) | exact Run.eq (by simp [eq_true h3, eq_false (i32_nlt.mpr h3), bI]) (by simp [eq_true h3, eq_false (i32_nlt.mpr h3), bI]) rfl hJh3
      · refine (go_aload_n 0 eX11_time_125 rfl rfl).run ?_
        refine (go_getr flX11_42 rf_10_18 kd_88 gr_88_18 eX11_time_126).run ?_
        refine (go_iload 4 eX11_time_129 rfl).run ?_
        refine (go_iald kd_97 ln_97 (g2 h1) eX11_time_131).run ?_
        refine (go_goto 142 eX11_time_132 rfl).run ?_
        first | exact hJh3 | (simp only [if_neg (i32_nle.mpr h3)] at hJh3; exact hJh3) | (simp only [eq_true h3, eq_false (i32_nle.mpr h3), true_and, and_true, false_and, and_false, true_or, or_true, false_or, or_false, not_true_eq_false, not_false_eq_true] at hJh3; exact hJh3) | exact Run.eq (by simp [eq_true h3, eq_false (i32_nle.mpr h3), bI]) (by simp [eq_true h3, eq_false (i32_nle.mpr h3), bI]) rfl hJh3

set_option maxRecDepth 20000 in
theorem bX11_time_198 {d : Nat} {Q : Option Value → St → Prop} (x1 : Int32) (x2 : Int32) (x3 : Int32) (x4 : Int32) (σ : St) 
    (g1 : vp_in x1 8)
    (g2 : x4 < (σ.1 89 x1.toNatClampNeg) → vp_in x4 32)
    (k1 : (σ.1 89 x1.toNatClampNeg) ≤ x4 → Run MX11_time (d + 3) 62 [some (.ref 88), some (.int x1), some (.int x2), some (.int (x3 + 1)), none, none, none] [] σ Q)
    (k2 : x4 < (σ.1 89 x1.toNatClampNeg) → Run MX11_time (d + 3) 198 [some (.ref 88), some (.int x1), some (.int x2), some (.int x3), some (.int (x4 + 1)), none, none] [] (sA σ 97 (upd (σ.1 97) x4.toNatClampNeg (σ.1 98 x4.toNatClampNeg))) Q)
    : Run MX11_time (d + 3) 198 [some (.ref 88), some (.int x1), some (.int x2), some (.int x3), some (.int x4), none, none] [] σ Q := by
  refine (go_iload 4 eX11_time_198 rfl).run ?_
  refine (go_aload_n 0 eX11_time_200 rfl rfl).run ?_
  refine (go_getr flX11_7 rf_10_1 kd_88 gr_88_1 eX11_time_201).run ?_
  refine (go_iload_n 1 eX11_time_204 rfl rfl).run ?_
  refine (go_iald kd_89 ln_89 g1 eX11_time_205).run ?_
  refine (bi_ge 229 eX11_time_206 rfl).run (fun h1 => ?_) (fun h1 => ?_)
  · refine (go_iinc 3 (v := (x3 + 1)) (L' := [some (.ref 88), some (.int x1), some (.int x2), some (.int (x3 + 1)), some (.int x4), none, none]) eX11_time_229 rfl rfl (Nat.le_of_ble_eq_true rfl) rfl).run ?_
    refine (go_goto 62 eX11_time_232 rfl).run ?_
    refine (go_sub (L' := [some (.ref 88), some (.int x1), some (.int x2), some (.int (x3 + 1)), none, none, none]) (lsub_keep (lsub_keep (lsub_keep (lsub_keep (lsub_drop (lsub_keep (lsub_keep lsub_nil)))))))).run ?_
    exact (k1 h1)
  · refine (go_aload_n 0 eX11_time_209 rfl rfl).run ?_
    refine (go_getr flX11_42 rf_10_18 kd_88 gr_88_18 eX11_time_210).run ?_
    refine (go_iload 4 eX11_time_213 rfl).run ?_
    refine (go_aload_n 0 eX11_time_215 rfl rfl).run ?_
    refine (go_getr flX11_45 rf_10_19 kd_88 gr_88_19 eX11_time_216).run ?_
    refine (go_iload 4 eX11_time_219 rfl).run ?_
    refine (go_iald kd_98 ln_98 (g2 h1) eX11_time_221).run ?_
    refine (go_iast kd_97 ln_97 (g2 h1) eX11_time_222).run ?_
    refine (go_iinc 4 (v := (x4 + 1)) (L' := [some (.ref 88), some (.int x1), some (.int x2), some (.int x3), some (.int (x4 + 1)), none, none]) eX11_time_223 rfl rfl (Nat.le_of_ble_eq_true rfl) rfl).run ?_
    refine (go_goto 198 eX11_time_226 rfl).run ?_
    exact (k2 h1)

set_option maxRecDepth 20000 in
theorem bX11_time_184 {d : Nat} {Q : Option Value → St → Prop} (x1 : Int32) (x2 : Int32) (x3 : Int32) (x4 : Int32) (s0 : Int32) (s1 : Int32) (s2 : Int32) (s3 : Int32) (σ : St) 
    (g1 : vp_in s3 32)
    (k1 : Run MX11_time (d + 3) 81 [some (.ref 88), some (.int x1), some (.int x2), some (.int x3), some (.int (x4 + 1)), none, none] [] (sA σ 98 (upd (σ.1 98) s3.toNatClampNeg (s2 + (s1 * (s0 - 1))))) Q)
    : Run MX11_time (d + 3) 184 [some (.ref 88), some (.int x1), some (.int x2), some (.int x3), some (.int x4), none, none] [.int s0, .int s1, .int s2, .int s3, .ref 98] σ Q := by
  refine (go_iconst (v := 1) eX11_time_184 rfl).run ?_
  refine (go_isub eX11_time_185).run ?_
  refine (go_imul eX11_time_186).run ?_
  refine (go_iadd eX11_time_187).run ?_
  refine (go_iast kd_98 ln_98 g1 eX11_time_188).run ?_
  refine (go_iinc 4 (v := (x4 + 1)) (L' := [some (.ref 88), some (.int x1), some (.int x2), some (.int x3), some (.int (x4 + 1)), none, none]) eX11_time_189 rfl rfl (Nat.le_of_ble_eq_true rfl) rfl).run ?_
  refine (go_goto 81 eX11_time_192 rfl).run ?_
  exact k1


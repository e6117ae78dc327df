/-! CarryNets$Tape.byteAt -/
theorem eX9_byteAt_0 : decode MX9_byteAt.2.1 0 = .ok (.iload_n 1, 1) := by decide +kernel
theorem eX9_byteAt_1 : decode MX9_byteAt.2.1 1 = .ok (.ifCond .lt 33, 3) := by decide +kernel
theorem eX9_byteAt_4 : decode MX9_byteAt.2.1 4 = .ok (.iload_n 1, 1) := by decide +kernel
theorem eX9_byteAt_5 : decode MX9_byteAt.2.1 5 = .ok (.aload_n 0, 1) := by decide +kernel
theorem eX9_byteAt_6 : decode MX9_byteAt.2.1 6 = .ok (.getfield 15, 3) := by decide +kernel
theorem eX9_byteAt_9 : decode MX9_byteAt.2.1 9 = .ok (.if_icmp .ge 25, 3) := by decide +kernel
theorem eX9_byteAt_12 : decode MX9_byteAt.2.1 12 = .ok (.iload_n 1, 1) := by decide +kernel
theorem eX9_byteAt_13 : decode MX9_byteAt.2.1 13 = .ok (.aload_n 0, 1) := by decide +kernel
theorem eX9_byteAt_14 : decode MX9_byteAt.2.1 14 = .ok (.getfield 9, 3) := by decide +kernel
theorem eX9_byteAt_17 : decode MX9_byteAt.2.1 17 = .ok (.arraylength, 1) := by decide +kernel
theorem eX9_byteAt_18 : decode MX9_byteAt.2.1 18 = .ok (.if_icmp .ge 16, 3) := by decide +kernel
theorem eX9_byteAt_21 : decode MX9_byteAt.2.1 21 = .ok (.aload_n 0, 1) := by decide +kernel
theorem eX9_byteAt_22 : decode MX9_byteAt.2.1 22 = .ok (.getfield 9, 3) := by decide +kernel
theorem eX9_byteAt_25 : decode MX9_byteAt.2.1 25 = .ok (.iload_n 1, 1) := by decide +kernel
theorem eX9_byteAt_26 : decode MX9_byteAt.2.1 26 = .ok (.baload, 1) := by decide +kernel
theorem eX9_byteAt_27 : decode MX9_byteAt.2.1 27 = .ok (.sipush 255, 3) := by decide +kernel
theorem eX9_byteAt_30 : decode MX9_byteAt.2.1 30 = .ok (.iand, 1) := by decide +kernel
theorem eX9_byteAt_31 : decode MX9_byteAt.2.1 31 = .ok (.goto 4, 3) := by decide +kernel
theorem eX9_byteAt_34 : decode MX9_byteAt.2.1 34 = .ok (.iconst (-1), 1) := by decide +kernel
theorem eX9_byteAt_35 : decode MX9_byteAt.2.1 35 = .ok (.ireturn, 1) := by decide +kernel
set_option maxRecDepth 20000 in
theorem bX9_byteAt_0 {d : Nat} {Q : Option Value → St → Prop} (x1 : Int32) (σ : St) 
    (g1 : (0 : Int32) ≤ x1 → x1 < (σ.1 2 0) → x1 < 240 → vp_in x1 240)
    (k1 : Q (some (.int (if x1 < 0 then (-1 : Int32) else (if (σ.1 2 0) ≤ x1 then (-1 : Int32) else (if (240 : Int32) ≤ x1 then (-1 : Int32) else ((σ.1 3 x1.toNatClampNeg) &&& 255)))))) σ)
    : Run MX9_byteAt d 0 [some (.ref 2), some (.int x1)] [] σ Q := by
  refine (go_iload_n 1 eX9_byteAt_0 rfl rfl).run ?_
  have hJh1 : Run MX9_byteAt d 35 [none, none] [.int (if x1 < 0 then (-1 : Int32) else (if (σ.1 2 0) ≤ x1 then (-1 : Int32) else (if (240 : Int32) ≤ x1 then (-1 : Int32) else ((σ.1 3 x1.toNatClampNeg) &&& 255))))] σ Q := by
    exact Run.ret (v := some (.int (if x1 < 0 then (-1 : Int32) else (if (σ.1 2 0) ≤ x1 then (-1 : Int32) else (if (240 : Int32) ≤ x1 then (-1 : Int32) else ((σ.1 3 x1.toNatClampNeg) &&& 255)))))) k1 ⟨Or.inl rfl, eX9_byteAt_35⟩ rfl
  refine (bz_lt 34 eX9_byteAt_1 rfl).run (fun h1 => ?_) (fun h1 => ?_)
  · refine (go_iconst (v := -1) eX9_byteAt_34 rfl).run ?_
    refine (go_sub (L' := [none, none]) (lsub_drop (lsub_drop lsub_nil))).run ?_
    first | exact hJh1 | (simp only [if_pos h1] at hJh1; exact hJh1) | (simp only [eq_true h1, eq_false (i32_nle.mpr h1), true_and, and_true, false_and, and_false, true_or, or_true, false_or, or_false, not_true_eq_false, not_false_eq_true] at hJh1; exact hJh1) | exact Run.eq (by simp [eq_true h1, eq_false (i32_nle.mpr h1), bI]) (by simp [eq_true h1, eq_false (i32_nle.mpr h1), bI]) rfl hJh1
  · refine (go_iload_n 1 eX9_byteAt_4 rfl rfl).run ?_
    refine (go_aload_n 0 eX9_byteAt_5 rfl rfl).run ?_
    refine (go_geti flX9_15 rf_8_0 kd_2 eX9_byteAt_6).run ?_
    have hJh2 : Run MX9_byteAt d 35 [none, none] [.int (if (σ.1 2 0) ≤ x1 then (-1 : Int32) else (if (240 : Int32) ≤ x1 then (-1 : Int32) else ((σ.1 3 x1.toNatClampNeg) &&& 255)))] σ Q := by
      first | exact hJh1 | (simp only [if_neg (i32_nlt.mpr h1)] at hJh1; exact hJh1) | (simp only [eq_true h1, eq_false (i32_nlt.mpr h1), true_and, and_true, false_and, and_false, true_or, or_true, false_or, or_false, not_true_eq_false, not_false_eq_true] at hJh1; exact hJh1) | exact Run.eq (by simp [eq_true h1, eq_false (i32_nlt.mpr h1), bI]) (by simp [eq_true h1, eq_false (i32_nlt.mpr h1), bI]) rfl hJh1
    refine (bi_ge 34 eX9_byteAt_9 rfl).run (fun h2 => ?_) (fun h2 => ?_)
    · refine (go_iconst (v := -1) eX9_byteAt_34 rfl).run ?_
      refine (go_sub (L' := [none, none]) (lsub_drop (lsub_drop lsub_nil))).run ?_
      first | exact hJh2 | (simp only [if_pos h2] at hJh2; exact hJh2) | (simp only [eq_true h2, eq_false (i32_nlt.mpr h2), true_and, and_true, false_and, and_false, true_or, or_true, false_or, or_false, not_true_eq_false, not_false_eq_true] at hJh2; exact hJh2) | exact Run.eq (by simp [eq_true h2, eq_false (i32_nlt.mpr h2), bI]) (by simp [eq_true h2, eq_false (i32_nlt.mpr h2), bI]) rfl hJh2
    · refine (go_iload_n 1 eX9_byteAt_12 rfl rfl).run ?_
      refine (go_aload_n 0 eX9_byteAt_13 rfl rfl).run ?_
      refine (go_getr flX9_9 rf_8_2 kd_2 gr_2_2 eX9_byteAt_14).run ?_
      refine (go_alen102 (v := 240) kd_3 ln_3 rfl eX9_byteAt_17).run ?_
      have hJh3 : Run MX9_byteAt d 35 [none, none] [.int (if (240 : Int32) ≤ x1 then (-1 : Int32) else ((σ.1 3 x1.toNatClampNeg) &&& 255))] σ Q := by
        first | exact hJh2 | (simp only [if_neg (i32_nle.mpr h2)] at hJh2; exact hJh2) | (simp only [eq_true h2, eq_false (i32_nle.mpr h2), true_and, and_true, false_and, and_false, true_or, or_true, false_or, or_false, not_true_eq_false, not_false_eq_true] at hJh2; exact hJh2) | exact Run.eq (by simp [eq_true h2, eq_false (i32_nle.mpr h2), bI]) (by simp [eq_true h2, eq_false (i32_nle.mpr h2), bI]) rfl hJh2
      refine (bi_ge 34 eX9_byteAt_18 rfl).run (fun h3 => ?_) (fun h3 => ?_)
      · refine (go_iconst (v := -1) eX9_byteAt_34 rfl).run ?_
        refine (go_sub (L' := [none, none]) (lsub_drop (lsub_drop lsub_nil))).run ?_
        first | exact hJh3 | (simp only [if_pos h3] at hJh3; exact hJh3) | (simp only [eq_true h3, eq_false (i32_nlt.mpr h3), true_and, and_true, false_and, and_false, true_or, or_true, false_or, or_false, not_true_eq_false, not_false_eq_true] at hJh3; exact hJh3) | exact Run.eq (by simp [eq_true h3, eq_false (i32_nlt.mpr h3), bI]) (by simp [eq_true h3, eq_false (i32_nlt.mpr h3), bI]) rfl hJh3
      · refine (go_aload_n 0 eX9_byteAt_21 rfl rfl).run ?_
        refine (go_getr flX9_9 rf_8_2 kd_2 gr_2_2 eX9_byteAt_22).run ?_
        refine (go_iload_n 1 eX9_byteAt_25 rfl rfl).run ?_
        refine (go_bald kd_3 ln_3 (g1 h1 h2 h3) eX9_byteAt_26).run ?_
        refine (go_sipush (v := 255) eX9_byteAt_27 rfl).run ?_
        refine (go_iand eX9_byteAt_30).run ?_
        refine (go_goto 35 eX9_byteAt_31 rfl).run ?_
        refine (go_sub (L' := [none, none]) (lsub_drop (lsub_drop lsub_nil))).run ?_
        first | exact hJh3 | (simp only [if_neg (i32_nle.mpr h3)] at hJh3; exact hJh3) | (simp only [eq_true h3, eq_false (i32_nle.mpr h3), true_and, and_true, false_and, and_false, true_or, or_true, false_or, or_false, not_true_eq_false, not_false_eq_true] at hJh3; exact hJh3) | exact Run.eq (by simp [eq_true h3, eq_false (i32_nle.mpr h3), bI]) (by simp [eq_true h3, eq_false (i32_nle.mpr h3), bI]) rfl hJh3

def rX9_byteAt (x1 : Int32) (σ : St) : Int32 := (if x1 < 0 then (-1 : Int32) else (if (σ.1 2 0) ≤ x1 then (-1 : Int32) else (if (240 : Int32) ≤ x1 then (-1 : Int32) else ((σ.1 3 x1.toNatClampNeg) &&& 255))))
theorem qX9_byteAt (d : Nat) (x1 : Int32) (σ : St) (g1 : (0 : Int32) ≤ x1 → x1 < (σ.1 2 0) → x1 < 240 → vp_in x1 240) : Ct yX9_byteAt MX9_byteAt d [.ref 2, .int x1] σ (fun v σ1 => v = some (.int (rX9_byteAt x1 σ)) ∧ σ1 = σ) :=
  Ct.of mX9_byteAt.1 (Nat.le_of_ble_eq_true rfl) (bX9_byteAt_0 x1 σ  g1 (⟨by first | rfl | (simp only [rX9_byteAt, true_and, and_true, false_and, and_false, true_or, or_true, false_or, or_false, not_true_eq_false, not_false_eq_true, if_true, if_false]; done) | (simp [rX9_byteAt, bI]; done), by first | rfl | (simp only [rX9_byteAt, true_and, and_true, false_and, and_false, true_or, or_true, false_or, or_false, not_true_eq_false, not_false_eq_true, if_true, if_false]; done) | (simp [rX9_byteAt, bI]; done)⟩))

/-! CarryNets$Tape.isFigure -/
theorem eX9_isFigure_0 : decode MX9_isFigure.2.1 0 = .ok (.iload_n 0, 1) := by decide +kernel
theorem eX9_isFigure_1 : decode MX9_isFigure.2.1 1 = .ok (.bipush 48, 2) := by decide +kernel
theorem eX9_isFigure_3 : decode MX9_isFigure.2.1 3 = .ok (.if_icmp .lt 13, 3) := by decide +kernel
theorem eX9_isFigure_6 : decode MX9_isFigure.2.1 6 = .ok (.iload_n 0, 1) := by decide +kernel
theorem eX9_isFigure_7 : decode MX9_isFigure.2.1 7 = .ok (.bipush 57, 2) := by decide +kernel
theorem eX9_isFigure_9 : decode MX9_isFigure.2.1 9 = .ok (.if_icmp .gt 7, 3) := by decide +kernel
theorem eX9_isFigure_12 : decode MX9_isFigure.2.1 12 = .ok (.iconst 1, 1) := by decide +kernel
theorem eX9_isFigure_13 : decode MX9_isFigure.2.1 13 = .ok (.goto 4, 3) := by decide +kernel
theorem eX9_isFigure_16 : decode MX9_isFigure.2.1 16 = .ok (.iconst 0, 1) := by decide +kernel
theorem eX9_isFigure_17 : decode MX9_isFigure.2.1 17 = .ok (.ireturn, 1) := by decide +kernel
set_option maxRecDepth 20000 in
theorem bX9_isFigure_0 {d : Nat} {Q : Option Value → St → Prop} (x0 : Int32) (σ : St) 
    (k1 : Q (some (.int (bI ((48 : Int32) ≤ x0 ∧ x0 ≤ 57)))) σ)
    : Run MX9_isFigure d 0 [some (.int x0)] [] σ Q := by
  refine (go_iload_n 0 eX9_isFigure_0 rfl rfl).run ?_
  refine (go_bipush (v := 48) eX9_isFigure_1 rfl).run ?_
  have hJh1 : Run MX9_isFigure d 17 [none] [.int (bI ((48 : Int32) ≤ x0 ∧ x0 ≤ 57))] σ Q := by
    exact Run.ret (v := some (.int (bI ((48 : Int32) ≤ x0 ∧ x0 ≤ 57)))) k1 ⟨Or.inr ⟨rfl, bI_01⟩, eX9_isFigure_17⟩ rfl
  refine (bi_lt 16 eX9_isFigure_3 rfl).run (fun h1 => ?_) (fun h1 => ?_)
  · refine (go_iconst (v := 0) eX9_isFigure_16 rfl).run ?_
    refine (go_sub (L' := [none]) (lsub_drop lsub_nil)).run ?_
    first | exact hJh1 | (simp only [if_pos h1] at hJh1; exact hJh1) | (simp only [eq_true h1, eq_false (i32_nle.mpr h1), true_and, and_true, false_and, and_false, true_or, or_true, false_or, or_false, not_true_eq_false, not_false_eq_true] at hJh1; exact hJh1) | exact Run.eq (by simp [eq_true h1, eq_false (i32_nle.mpr h1), bI]) (by simp [eq_true h1, eq_false (i32_nle.mpr h1), bI]) rfl hJh1
  · refine (go_iload_n 0 eX9_isFigure_6 rfl rfl).run ?_
    refine (go_bipush (v := 57) eX9_isFigure_7 rfl).run ?_
    have hJh2 : Run MX9_isFigure d 17 [none] [.int (bI (x0 ≤ 57))] σ Q := by
      first | exact hJh1 | (simp only [if_neg (i32_nlt.mpr h1)] at hJh1; exact hJh1) | (simp only [eq_true h1, eq_false (i32_nlt.mpr h1), true_and, and_true, false_and, and_false, true_or, or_true, false_or, or_false, not_true_eq_false, not_false_eq_true] at hJh1; exact hJh1) | exact Run.eq (by simp [eq_true h1, eq_false (i32_nlt.mpr h1), bI]) (by simp [eq_true h1, eq_false (i32_nlt.mpr h1), bI]) rfl hJh1
    refine (bi_gt 16 eX9_isFigure_9 rfl).run (fun h2 => ?_) (fun h2 => ?_)
    · refine (go_iconst (v := 0) eX9_isFigure_16 rfl).run ?_
      refine (go_sub (L' := [none]) (lsub_drop lsub_nil)).run ?_
      first | exact hJh2 | (simp only [if_pos h2] at hJh2; exact hJh2) | (simp only [eq_true h2, eq_false (i32_nle.mpr h2), true_and, and_true, false_and, and_false, true_or, or_true, false_or, or_false, not_true_eq_false, not_false_eq_true] at hJh2; exact hJh2) | exact Run.eq (by simp [eq_true h2, eq_false (i32_nle.mpr h2), bI]) (by simp [eq_true h2, eq_false (i32_nle.mpr h2), bI]) rfl hJh2
    · refine (go_iconst (v := 1) eX9_isFigure_12 rfl).run ?_
      refine (go_goto 17 eX9_isFigure_13 rfl).run ?_
      refine (go_sub (L' := [none]) (lsub_drop lsub_nil)).run ?_
      first | exact hJh2 | (simp only [if_neg (i32_nlt.mpr h2)] at hJh2; exact hJh2) | (simp only [eq_true h2, eq_false (i32_nlt.mpr h2), true_and, and_true, false_and, and_false, true_or, or_true, false_or, or_false, not_true_eq_false, not_false_eq_true] at hJh2; exact hJh2) | exact Run.eq (by simp [eq_true h2, eq_false (i32_nlt.mpr h2), bI]) (by simp [eq_true h2, eq_false (i32_nlt.mpr h2), bI]) rfl hJh2

theorem qX9_isFigure (d : Nat) (x0 : Int32) (σ : St) : Ct yX9_isFigure MX9_isFigure d [.int x0] σ (fun v σ1 => v = some (.int (bI ((48 : Int32) ≤ x0 ∧ x0 ≤ 57))) ∧ σ1 = σ) :=
  Ct.of mX9_isFigure.1 (Nat.le_of_ble_eq_true rfl) (bX9_isFigure_0 x0 σ   (⟨by first | rfl | (simp only [bI, true_and, and_true, false_and, and_false, true_or, or_true, false_or, or_false, not_true_eq_false, not_false_eq_true, if_true, if_false]; done) | (simp [bI]; done), by first | rfl | (simp only [bI, true_and, and_true, false_and, and_false, true_or, or_true, false_or, or_false, not_true_eq_false, not_false_eq_true, if_true, if_false]; done) | (simp [bI]; done)⟩))

/-! CarryNets$Tape.readNumber -/
theorem eX9_readNumber_0 : decode MX9_readNumber.2.1 0 = .ok (.aload_n 0, 1) := by decide +kernel
theorem eX9_readNumber_1 : decode MX9_readNumber.2.1 1 = .ok (.iconst 0, 1) := by decide +kernel
theorem eX9_readNumber_2 : decode MX9_readNumber.2.1 2 = .ok (.putfield 35, 3) := by decide +kernel
theorem eX9_readNumber_5 : decode MX9_readNumber.2.1 5 = .ok (.aload_n 0, 1) := by decide +kernel
theorem eX9_readNumber_6 : decode MX9_readNumber.2.1 6 = .ok (.getfield 22, 3) := by decide +kernel
theorem eX9_readNumber_9 : decode MX9_readNumber.2.1 9 = .ok (.aload_n 0, 1) := by decide +kernel
theorem eX9_readNumber_10 : decode MX9_readNumber.2.1 10 = .ok (.getfield 15, 3) := by decide +kernel
theorem eX9_readNumber_13 : decode MX9_readNumber.2.1 13 = .ok (.if_icmp .ge 59, 3) := by decide +kernel
theorem eX9_readNumber_16 : decode MX9_readNumber.2.1 16 = .ok (.aload_n 0, 1) := by decide +kernel
theorem eX9_readNumber_17 : decode MX9_readNumber.2.1 17 = .ok (.aload_n 0, 1) := by decide +kernel
theorem eX9_readNumber_18 : decode MX9_readNumber.2.1 18 = .ok (.getfield 22, 3) := by decide +kernel
theorem eX9_readNumber_21 : decode MX9_readNumber.2.1 21 = .ok (.invokevirtual 71, 3) := by decide +kernel
theorem eX9_readNumber_24 : decode MX9_readNumber.2.1 24 = .ok (.invokestatic 75, 3) := by decide +kernel
theorem eX9_readNumber_27 : decode MX9_readNumber.2.1 27 = .ok (.ifCond .eq 45, 3) := by decide +kernel
theorem eX9_readNumber_30 : decode MX9_readNumber.2.1 30 = .ok (.aload_n 0, 1) := by decide +kernel
theorem eX9_readNumber_31 : decode MX9_readNumber.2.1 31 = .ok (.bipush 10, 2) := by decide +kernel
theorem eX9_readNumber_33 : decode MX9_readNumber.2.1 33 = .ok (.aload_n 0, 1) := by decide +kernel
theorem eX9_readNumber_34 : decode MX9_readNumber.2.1 34 = .ok (.getfield 35, 3) := by decide +kernel
theorem eX9_readNumber_37 : decode MX9_readNumber.2.1 37 = .ok (.imul, 1) := by decide +kernel
theorem eX9_readNumber_38 : decode MX9_readNumber.2.1 38 = .ok (.aload_n 0, 1) := by decide +kernel
theorem eX9_readNumber_39 : decode MX9_readNumber.2.1 39 = .ok (.aload_n 0, 1) := by decide +kernel
theorem eX9_readNumber_40 : decode MX9_readNumber.2.1 40 = .ok (.getfield 22, 3) := by decide +kernel
theorem eX9_readNumber_43 : decode MX9_readNumber.2.1 43 = .ok (.invokevirtual 71, 3) := by decide +kernel
theorem eX9_readNumber_46 : decode MX9_readNumber.2.1 46 = .ok (.iadd, 1) := by decide +kernel
theorem eX9_readNumber_47 : decode MX9_readNumber.2.1 47 = .ok (.bipush 48, 2) := by decide +kernel
theorem eX9_readNumber_49 : decode MX9_readNumber.2.1 49 = .ok (.isub, 1) := by decide +kernel
theorem eX9_readNumber_50 : decode MX9_readNumber.2.1 50 = .ok (.sipush 999, 3) := by decide +kernel
theorem eX9_readNumber_53 : decode MX9_readNumber.2.1 53 = .ok (.invokestatic 81, 3) := by decide +kernel
theorem eX9_readNumber_56 : decode MX9_readNumber.2.1 56 = .ok (.putfield 35, 3) := by decide +kernel
theorem eX9_readNumber_59 : decode MX9_readNumber.2.1 59 = .ok (.aload_n 0, 1) := by decide +kernel
theorem eX9_readNumber_60 : decode MX9_readNumber.2.1 60 = .ok (.dup, 1) := by decide +kernel
theorem eX9_readNumber_61 : decode MX9_readNumber.2.1 61 = .ok (.getfield 22, 3) := by decide +kernel
theorem eX9_readNumber_64 : decode MX9_readNumber.2.1 64 = .ok (.iconst 1, 1) := by decide +kernel
theorem eX9_readNumber_65 : decode MX9_readNumber.2.1 65 = .ok (.iadd, 1) := by decide +kernel
theorem eX9_readNumber_66 : decode MX9_readNumber.2.1 66 = .ok (.putfield 22, 3) := by decide +kernel
theorem eX9_readNumber_69 : decode MX9_readNumber.2.1 69 = .ok (.goto (-64), 3) := by decide +kernel
theorem eX9_readNumber_72 : decode MX9_readNumber.2.1 72 = .ok (.aload_n 0, 1) := by decide +kernel
theorem eX9_readNumber_73 : decode MX9_readNumber.2.1 73 = .ok (.aload_n 0, 1) := by decide +kernel
theorem eX9_readNumber_74 : decode MX9_readNumber.2.1 74 = .ok (.getfield 22, 3) := by decide +kernel
theorem eX9_readNumber_77 : decode MX9_readNumber.2.1 77 = .ok (.aload_n 0, 1) := by decide +kernel
theorem eX9_readNumber_78 : decode MX9_readNumber.2.1 78 = .ok (.getfield 52, 3) := by decide +kernel
theorem eX9_readNumber_81 : decode MX9_readNumber.2.1 81 = .ok (.isub, 1) := by decide +kernel
theorem eX9_readNumber_82 : decode MX9_readNumber.2.1 82 = .ok (.iconst 2, 1) := by decide +kernel
theorem eX9_readNumber_83 : decode MX9_readNumber.2.1 83 = .ok (.if_icmp .le 8, 3) := by decide +kernel
theorem eX9_readNumber_86 : decode MX9_readNumber.2.1 86 = .ok (.bipush (-3), 2) := by decide +kernel
theorem eX9_readNumber_88 : decode MX9_readNumber.2.1 88 = .ok (.goto 5, 3) := by decide +kernel
theorem eX9_readNumber_91 : decode MX9_readNumber.2.1 91 = .ok (.bipush (-2), 2) := by decide +kernel
theorem eX9_readNumber_93 : decode MX9_readNumber.2.1 93 = .ok (.putfield 28, 3) := by decide +kernel
theorem eX9_readNumber_96 : decode MX9_readNumber.2.1 96 = .ok (.return_, 1) := by decide +kernel
set_option maxRecDepth 20000 in
theorem bX9_readNumber_0 {d : Nat} {Q : Option Value → St → Prop} (σ : St) 
    (k1 : Run MX9_readNumber (d + 1) 5 [some (.ref 2)] [] (sA σ 2 (upd (σ.1 2) 6 0)) Q)
    : Run MX9_readNumber (d + 1) 0 [some (.ref 2)] [] σ Q := by
  refine (go_aload_n 0 eX9_readNumber_0 rfl rfl).run ?_
  refine (go_iconst (v := 0) eX9_readNumber_1 rfl).run ?_
  refine (go_puti flX9_35 rf_8_6 rfl pf_8_6 rfl rfl kd_2 eX9_readNumber_2).run ?_
  exact k1

set_option maxRecDepth 20000 in
theorem bX9_readNumber_5 {d : Nat} {Q : Option Value → St → Prop} (σ : St) 
    (g1 : (σ.1 2 3) < (σ.1 2 0) → (0 : Int32) ≤ (σ.1 2 3) → (σ.1 2 3) < (σ.1 2 0) → (σ.1 2 3) < 240 → vp_in (σ.1 2 3) 240)
    (k1 : (σ.1 2 0) ≤ (σ.1 2 3) → Q (none) (sA σ 2 (upd (σ.1 2) 4 (if ((σ.1 2 3) - (σ.1 2 5)) ≤ 2 then (-2 : Int32) else (-3)))))
    (k2 : (σ.1 2 3) < (σ.1 2 0) → (¬ ((48 : Int32) ≤ ((rX9_byteAt (σ.1 2 3) σ)) ∧ ((rX9_byteAt (σ.1 2 3) σ)) ≤ 57)) → Q (none) (sA σ 2 (upd (σ.1 2) 4 (if ((σ.1 2 3) - (σ.1 2 5)) ≤ 2 then (-2 : Int32) else (-3)))))
    (k3 : (σ.1 2 3) < (σ.1 2 0) → ((48 : Int32) ≤ ((rX9_byteAt (σ.1 2 3) σ)) ∧ ((rX9_byteAt (σ.1 2 3) σ)) ≤ 57) → Run MX9_readNumber (d + 1) 5 [some (.ref 2)] [] (sA (sA σ 2 (upd (σ.1 2) 6 (mnI ((((10 : Int32) * (σ.1 2 6)) + ((rX9_byteAt (σ.1 2 3) σ))) - 48) 999))) 2 (upd (upd (σ.1 2) 6 (mnI ((((10 : Int32) * (σ.1 2 6)) + ((rX9_byteAt (σ.1 2 3) σ))) - 48) 999)) 3 ((σ.1 2 3) + 1))) Q)
    : Run MX9_readNumber (d + 1) 5 [some (.ref 2)] [] σ Q := by
  refine (go_aload_n 0 eX9_readNumber_5 rfl rfl).run ?_
  refine (go_geti flX9_22 rf_8_3 kd_2 eX9_readNumber_6).run ?_
  refine (go_aload_n 0 eX9_readNumber_9 rfl rfl).run ?_
  refine (go_geti flX9_15 rf_8_0 kd_2 eX9_readNumber_10).run ?_
  refine (bi_ge 72 eX9_readNumber_13 rfl).run (fun h1 => ?_) (fun h1 => ?_)
  · refine (go_aload_n 0 eX9_readNumber_72 rfl rfl).run ?_
    refine (go_aload_n 0 eX9_readNumber_73 rfl rfl).run ?_
    refine (go_geti flX9_22 rf_8_3 kd_2 eX9_readNumber_74).run ?_
    refine (go_aload_n 0 eX9_readNumber_77 rfl rfl).run ?_
    refine (go_geti flX9_52 rf_8_5 kd_2 eX9_readNumber_78).run ?_
    refine (go_isub eX9_readNumber_81).run ?_
    refine (go_iconst (v := 2) eX9_readNumber_82 rfl).run ?_
    have hJh2 : Run MX9_readNumber (d + 1) 93 [none] [.int (if ((σ.1 2 3) - (σ.1 2 5)) ≤ 2 then (-2 : Int32) else (-3)), .ref 2] σ Q := by
      refine (go_puti flX9_28 rf_8_4 rfl pf_8_4 rfl rfl kd_2 eX9_readNumber_93).run ?_
      exact Run.ret (v := none) (k1 h1) ⟨rfl, eX9_readNumber_96⟩ rfl
    refine (bi_le 91 eX9_readNumber_83 rfl).run (fun h2 => ?_) (fun h2 => ?_)
    · refine (go_bipush (v := -2) eX9_readNumber_91 rfl).run ?_
      refine (go_sub (L' := [none]) (lsub_drop lsub_nil)).run ?_
      first | exact hJh2 | (simp only [if_pos h2] at hJh2; exact hJh2) | (simp only [eq_true h2, eq_false (i32_nlt.mpr h2), true_and, and_true, false_and, and_false, true_or, or_true, false_or, or_false, not_true_eq_false, not_false_eq_true] at hJh2; exact hJh2) | exact Run.eq (by simp [eq_true h2, eq_false (i32_nlt.mpr h2), bI]) (by simp [eq_true h2, eq_false (i32_nlt.mpr h2), bI]) rfl hJh2
    · refine (go_bipush (v := -3) eX9_readNumber_86 rfl).run ?_
      refine (go_goto 93 eX9_readNumber_88 rfl).run ?_
      refine (go_sub (L' := [none]) (lsub_drop lsub_nil)).run ?_
      first | exact hJh2 | (simp only [if_neg (i32_nle.mpr h2)] at hJh2; exact hJh2) | (simp only [eq_true h2, eq_false (i32_nle.mpr h2), true_and, and_true, false_and, and_false, true_or, or_true, false_or, or_false, not_true_eq_false, not_false_eq_true] at hJh2; exact hJh2) | exact Run.eq (by simp [eq_true h2, eq_false (i32_nle.mpr h2), bI]) (by simp [eq_true h2, eq_false (i32_nle.mpr h2), bI]) rfl hJh2
  · refine (go_aload_n 0 eX9_readNumber_16 rfl rfl).run ?_
    refine (go_aload_n 0 eX9_readNumber_17 rfl rfl).run ?_
    refine (go_geti flX9_22 rf_8_3 kd_2 eX9_readNumber_18).run ?_
    refine Run.callV1 (d := d) (As := [.int (σ.1 2 3)]) (r := .int ((rX9_byteAt (σ.1 2 3) σ))) mX9_byteAt lkX9_71 kd_2 (by decide) rfl rfl rfl rfl rfl (Nat.le_of_ble_eq_true rfl) eX9_readNumber_21 (qX9_byteAt d (σ.1 2 3) σ  (g1 h1)) ?_
    refine Run.callS1 (d := d) (As := [.int ((rX9_byteAt (σ.1 2 3) σ))]) (r := .int (bI ((48 : Int32) ≤ ((rX9_byteAt (σ.1 2 3) σ)) ∧ ((rX9_byteAt (σ.1 2 3) σ)) ≤ 57))) mX9_isFigure lkX9_75 rfl rfl rfl (Nat.le_of_ble_eq_true rfl) eX9_readNumber_24 (qX9_isFigure d ((rX9_byteAt (σ.1 2 3) σ)) σ  ) ?_
    refine (br_ifeq_b 72 eX9_readNumber_27 rfl).run (fun h3 => ?_) (fun h3 => ?_)
    · refine (go_aload_n 0 eX9_readNumber_72 rfl rfl).run ?_
      refine (go_aload_n 0 eX9_readNumber_73 rfl rfl).run ?_
      refine (go_geti flX9_22 rf_8_3 kd_2 eX9_readNumber_74).run ?_
      refine (go_aload_n 0 eX9_readNumber_77 rfl rfl).run ?_
      refine (go_geti flX9_52 rf_8_5 kd_2 eX9_readNumber_78).run ?_
      refine (go_isub eX9_readNumber_81).run ?_
      refine (go_iconst (v := 2) eX9_readNumber_82 rfl).run ?_
      have hJh4 : Run MX9_readNumber (d + 1) 93 [none] [.int (if ((σ.1 2 3) - (σ.1 2 5)) ≤ 2 then (-2 : Int32) else (-3)), .ref 2] σ Q := by
        refine (go_puti flX9_28 rf_8_4 rfl pf_8_4 rfl rfl kd_2 eX9_readNumber_93).run ?_
        exact Run.ret (v := none) (k2 h1 h3) ⟨rfl, eX9_readNumber_96⟩ rfl
      refine (bi_le 91 eX9_readNumber_83 rfl).run (fun h4 => ?_) (fun h4 => ?_)
      · refine (go_bipush (v := -2) eX9_readNumber_91 rfl).run ?_
        refine (go_sub (L' := [none]) (lsub_drop lsub_nil)).run ?_
        first | exact hJh4 | (simp only [if_pos h4] at hJh4; exact hJh4) | (simp only [eq_true h4, eq_false (i32_nlt.mpr h4), true_and, and_true, false_and, and_false, true_or, or_true, false_or, or_false, not_true_eq_false, not_false_eq_true] at hJh4; exact hJh4) | exact Run.eq (by simp [eq_true h4, eq_false (i32_nlt.mpr h4), bI]) (by simp [eq_true h4, eq_false (i32_nlt.mpr h4), bI]) rfl hJh4
      · refine (go_bipush (v := -3) eX9_readNumber_86 rfl).run ?_
        refine (go_goto 93 eX9_readNumber_88 rfl).run ?_
        refine (go_sub (L' := [none]) (lsub_drop lsub_nil)).run ?_
        first | exact hJh4 | (simp only [if_neg (i32_nle.mpr h4)] at hJh4; exact hJh4) | (simp only [eq_true h4, eq_false (i32_nle.mpr h4), true_and, and_true, false_and, and_false, true_or, or_true, false_or, or_false, not_true_eq_false, not_false_eq_true] at hJh4; exact hJh4) | exact Run.eq (by simp [eq_true h4, eq_false (i32_nle.mpr h4), bI]) (by simp [eq_true h4, eq_false (i32_nle.mpr h4), bI]) rfl hJh4
    · refine (go_aload_n 0 eX9_readNumber_30 rfl rfl).run ?_
      refine (go_bipush (v := 10) eX9_readNumber_31 rfl).run ?_
      refine (go_aload_n 0 eX9_readNumber_33 rfl rfl).run ?_
      refine (go_geti flX9_35 rf_8_6 kd_2 eX9_readNumber_34).run ?_
      refine (go_imul eX9_readNumber_37).run ?_
      refine (go_aload_n 0 eX9_readNumber_38 rfl rfl).run ?_
      refine (go_aload_n 0 eX9_readNumber_39 rfl rfl).run ?_
      refine (go_geti flX9_22 rf_8_3 kd_2 eX9_readNumber_40).run ?_
      refine Run.callV1 (d := d) (As := [.int (σ.1 2 3)]) (r := .int ((rX9_byteAt (σ.1 2 3) σ))) mX9_byteAt lkX9_71 kd_2 (by decide) rfl rfl rfl rfl rfl (Nat.le_of_ble_eq_true rfl) eX9_readNumber_43 (qX9_byteAt d (σ.1 2 3) σ  (g1 h1)) ?_
      refine (go_iadd eX9_readNumber_46).run ?_
      refine (go_bipush (v := 48) eX9_readNumber_47 rfl).run ?_
      refine (go_isub eX9_readNumber_49).run ?_
      refine (go_sipush (v := 999) eX9_readNumber_50 rfl).run ?_
      refine (go_minN mm_ok lkX9_81 rfl (Nat.le_of_ble_eq_true rfl) (by omega) eX9_readNumber_53).run ?_
      refine (go_puti flX9_35 rf_8_6 rfl pf_8_6 rfl rfl kd_2 eX9_readNumber_56).run ?_
      refine (go_aload_n 0 eX9_readNumber_59 rfl rfl).run ?_
      refine (go_dup eX9_readNumber_60 rfl).run ?_
      refine (go_geti flX9_22 rf_8_3 kd_2 eX9_readNumber_61).run ?_
      refine (go_iconst (v := 1) eX9_readNumber_64 rfl).run ?_
      refine (go_iadd eX9_readNumber_65).run ?_
      refine (go_puti flX9_22 rf_8_3 rfl pf_8_3 rfl rfl kd_2 eX9_readNumber_66).run ?_
      refine (go_goto 5 eX9_readNumber_69 rfl).run ?_
      exact (k3 h1 h3)

/-! CarryNets$Tape.readToken -/
theorem eX9_readToken_0 : decode MX9_readToken.2.1 0 = .ok (.aload_n 0, 1) := by decide +kernel
theorem eX9_readToken_1 : decode MX9_readToken.2.1 1 = .ok (.getfield 22, 3) := by decide +kernel
theorem eX9_readToken_4 : decode MX9_readToken.2.1 4 = .ok (.aload_n 0, 1) := by decide +kernel
theorem eX9_readToken_5 : decode MX9_readToken.2.1 5 = .ok (.getfield 15, 3) := by decide +kernel
theorem eX9_readToken_8 : decode MX9_readToken.2.1 8 = .ok (.if_icmp .ge 29, 3) := by decide +kernel
theorem eX9_readToken_11 : decode MX9_readToken.2.1 11 = .ok (.aload_n 0, 1) := by decide +kernel
theorem eX9_readToken_12 : decode MX9_readToken.2.1 12 = .ok (.aload_n 0, 1) := by decide +kernel
theorem eX9_readToken_13 : decode MX9_readToken.2.1 13 = .ok (.getfield 22, 3) := by decide +kernel
theorem eX9_readToken_16 : decode MX9_readToken.2.1 16 = .ok (.invokevirtual 71, 3) := by decide +kernel
theorem eX9_readToken_19 : decode MX9_readToken.2.1 19 = .ok (.bipush 32, 2) := by decide +kernel
theorem eX9_readToken_21 : decode MX9_readToken.2.1 21 = .ok (.if_icmp .ne 16, 3) := by decide +kernel
theorem eX9_readToken_24 : decode MX9_readToken.2.1 24 = .ok (.aload_n 0, 1) := by decide +kernel
theorem eX9_readToken_25 : decode MX9_readToken.2.1 25 = .ok (.dup, 1) := by decide +kernel
theorem eX9_readToken_26 : decode MX9_readToken.2.1 26 = .ok (.getfield 22, 3) := by decide +kernel
theorem eX9_readToken_29 : decode MX9_readToken.2.1 29 = .ok (.iconst 1, 1) := by decide +kernel
theorem eX9_readToken_30 : decode MX9_readToken.2.1 30 = .ok (.iadd, 1) := by decide +kernel
theorem eX9_readToken_31 : decode MX9_readToken.2.1 31 = .ok (.putfield 22, 3) := by decide +kernel
theorem eX9_readToken_34 : decode MX9_readToken.2.1 34 = .ok (.goto (-34), 3) := by decide +kernel
theorem eX9_readToken_37 : decode MX9_readToken.2.1 37 = .ok (.aload_n 0, 1) := by decide +kernel
theorem eX9_readToken_38 : decode MX9_readToken.2.1 38 = .ok (.aload_n 0, 1) := by decide +kernel
theorem eX9_readToken_39 : decode MX9_readToken.2.1 39 = .ok (.getfield 22, 3) := by decide +kernel
theorem eX9_readToken_42 : decode MX9_readToken.2.1 42 = .ok (.putfield 52, 3) := by decide +kernel
theorem eX9_readToken_45 : decode MX9_readToken.2.1 45 = .ok (.aload_n 0, 1) := by decide +kernel
theorem eX9_readToken_46 : decode MX9_readToken.2.1 46 = .ok (.aload_n 0, 1) := by decide +kernel
theorem eX9_readToken_47 : decode MX9_readToken.2.1 47 = .ok (.getfield 22, 3) := by decide +kernel
theorem eX9_readToken_50 : decode MX9_readToken.2.1 50 = .ok (.invokevirtual 71, 3) := by decide +kernel
theorem eX9_readToken_53 : decode MX9_readToken.2.1 53 = .ok (.istore_n 1, 1) := by decide +kernel
theorem eX9_readToken_54 : decode MX9_readToken.2.1 54 = .ok (.iload_n 1, 1) := by decide +kernel
theorem eX9_readToken_55 : decode MX9_readToken.2.1 55 = .ok (.invokestatic 75, 3) := by decide +kernel
theorem eX9_readToken_58 : decode MX9_readToken.2.1 58 = .ok (.ifCond .eq 8, 3) := by decide +kernel
theorem eX9_readToken_61 : decode MX9_readToken.2.1 61 = .ok (.aload_n 0, 1) := by decide +kernel
theorem eX9_readToken_62 : decode MX9_readToken.2.1 62 = .ok (.invokevirtual 78, 3) := by decide +kernel
theorem eX9_readToken_65 : decode MX9_readToken.2.1 65 = .ok (.return_, 1) := by decide +kernel
theorem eX9_readToken_66 : decode MX9_readToken.2.1 66 = .ok (.iload_n 1, 1) := by decide +kernel
theorem eX9_readToken_67 : decode MX9_readToken.2.1 67 = .ok (.iconst (-1), 1) := by decide +kernel
theorem eX9_readToken_68 : decode MX9_readToken.2.1 68 = .ok (.if_icmp .eq 21, 3) := by decide +kernel
theorem eX9_readToken_71 : decode MX9_readToken.2.1 71 = .ok (.iload_n 1, 1) := by decide +kernel
theorem eX9_readToken_72 : decode MX9_readToken.2.1 72 = .ok (.bipush 58, 2) := by decide +kernel
theorem eX9_readToken_74 : decode MX9_readToken.2.1 74 = .ok (.if_icmp .eq 15, 3) := by decide +kernel
theorem eX9_readToken_77 : decode MX9_readToken.2.1 77 = .ok (.iload_n 1, 1) := by decide +kernel
theorem eX9_readToken_78 : decode MX9_readToken.2.1 78 = .ok (.bipush 44, 2) := by decide +kernel
theorem eX9_readToken_80 : decode MX9_readToken.2.1 80 = .ok (.if_icmp .eq 9, 3) := by decide +kernel
theorem eX9_readToken_83 : decode MX9_readToken.2.1 83 = .ok (.iload_n 1, 1) := by decide +kernel
theorem eX9_readToken_84 : decode MX9_readToken.2.1 84 = .ok (.bipush 59, 2) := by decide +kernel
theorem eX9_readToken_86 : decode MX9_readToken.2.1 86 = .ok (.if_icmp .ne 7, 3) := by decide +kernel
theorem eX9_readToken_89 : decode MX9_readToken.2.1 89 = .ok (.iconst 1, 1) := by decide +kernel
theorem eX9_readToken_90 : decode MX9_readToken.2.1 90 = .ok (.goto 4, 3) := by decide +kernel
theorem eX9_readToken_93 : decode MX9_readToken.2.1 93 = .ok (.iconst 0, 1) := by decide +kernel
theorem eX9_readToken_94 : decode MX9_readToken.2.1 94 = .ok (.istore_n 2, 1) := by decide +kernel
theorem eX9_readToken_95 : decode MX9_readToken.2.1 95 = .ok (.aload_n 0, 1) := by decide +kernel
theorem eX9_readToken_96 : decode MX9_readToken.2.1 96 = .ok (.iload_n 2, 1) := by decide +kernel
theorem eX9_readToken_97 : decode MX9_readToken.2.1 97 = .ok (.ifCond .eq 7, 3) := by decide +kernel
theorem eX9_readToken_100 : decode MX9_readToken.2.1 100 = .ok (.iload_n 1, 1) := by decide +kernel
theorem eX9_readToken_101 : decode MX9_readToken.2.1 101 = .ok (.goto 5, 3) := by decide +kernel
theorem eX9_readToken_104 : decode MX9_readToken.2.1 104 = .ok (.bipush (-3), 2) := by decide +kernel
theorem eX9_readToken_106 : decode MX9_readToken.2.1 106 = .ok (.putfield 28, 3) := by decide +kernel
theorem eX9_readToken_109 : decode MX9_readToken.2.1 109 = .ok (.aload_n 0, 1) := by decide +kernel
theorem eX9_readToken_110 : decode MX9_readToken.2.1 110 = .ok (.dup, 1) := by decide +kernel
theorem eX9_readToken_111 : decode MX9_readToken.2.1 111 = .ok (.getfield 22, 3) := by decide +kernel
theorem eX9_readToken_114 : decode MX9_readToken.2.1 114 = .ok (.iconst 1, 1) := by decide +kernel
theorem eX9_readToken_115 : decode MX9_readToken.2.1 115 = .ok (.iadd, 1) := by decide +kernel
theorem eX9_readToken_116 : decode MX9_readToken.2.1 116 = .ok (.putfield 22, 3) := by decide +kernel
theorem eX9_readToken_119 : decode MX9_readToken.2.1 119 = .ok (.return_, 1) := by decide +kernel
set_option maxRecDepth 20000 in
theorem bX9_readToken_0 {d : Nat} {Q : Option Value → St → Prop} (σ : St) 
    (g1 : (σ.1 2 0) ≤ (σ.1 2 3) → (0 : Int32) ≤ (σ.1 2 3) → (σ.1 2 3) < (upd (σ.1 2) 5 (σ.1 2 3) 0) → (σ.1 2 3) < 240 → vp_in (σ.1 2 3) 240)
    (g2 : (σ.1 2 3) < (σ.1 2 0) → (0 : Int32) ≤ (σ.1 2 3) → (σ.1 2 3) < (σ.1 2 0) → (σ.1 2 3) < 240 → vp_in (σ.1 2 3) 240)
    (g3 : (σ.1 2 3) < (σ.1 2 0) → ¬ ((rX9_byteAt (σ.1 2 3) σ)) = 32 → (0 : Int32) ≤ (σ.1 2 3) → (σ.1 2 3) < (upd (σ.1 2) 5 (σ.1 2 3) 0) → (σ.1 2 3) < 240 → vp_in (σ.1 2 3) 240)
    (k1 : (σ.1 2 0) ≤ (σ.1 2 3) → (¬ ((48 : Int32) ≤ ((rX9_byteAt (σ.1 2 3) (sA σ 2 (upd (σ.1 2) 5 (σ.1 2 3))))) ∧ ((rX9_byteAt (σ.1 2 3) (sA σ 2 (upd (σ.1 2) 5 (σ.1 2 3))))) ≤ 57)) → Q (none) (sA (sA (sA σ 2 (upd (σ.1 2) 5 (σ.1 2 3))) 2 (upd (upd (σ.1 2) 5 (σ.1 2 3)) 4 (if ((rX9_byteAt (σ.1 2 3) (sA σ 2 (upd (σ.1 2) 5 (σ.1 2 3))))) = (-1) ∨ (((rX9_byteAt (σ.1 2 3) (sA σ 2 (upd (σ.1 2) 5 (σ.1 2 3))))) = 58 ∨ (((rX9_byteAt (σ.1 2 3) (sA σ 2 (upd (σ.1 2) 5 (σ.1 2 3))))) = 44 ∨ ((rX9_byteAt (σ.1 2 3) (sA σ 2 (upd (σ.1 2) 5 (σ.1 2 3))))) = 59)) then ((rX9_byteAt (σ.1 2 3) (sA σ 2 (upd (σ.1 2) 5 (σ.1 2 3))))) else (-3)))) 2 (upd (upd (upd (σ.1 2) 5 (σ.1 2 3)) 4 (if ((rX9_byteAt (σ.1 2 3) (sA σ 2 (upd (σ.1 2) 5 (σ.1 2 3))))) = (-1) ∨ (((rX9_byteAt (σ.1 2 3) (sA σ 2 (upd (σ.1 2) 5 (σ.1 2 3))))) = 58 ∨ (((rX9_byteAt (σ.1 2 3) (sA σ 2 (upd (σ.1 2) 5 (σ.1 2 3))))) = 44 ∨ ((rX9_byteAt (σ.1 2 3) (sA σ 2 (upd (σ.1 2) 5 (σ.1 2 3))))) = 59)) then ((rX9_byteAt (σ.1 2 3) (sA σ 2 (upd (σ.1 2) 5 (σ.1 2 3))))) else (-3))) 3 ((σ.1 2 3) + 1))))
    (k2 : (σ.1 2 0) ≤ (σ.1 2 3) → ((48 : Int32) ≤ ((rX9_byteAt (σ.1 2 3) (sA σ 2 (upd (σ.1 2) 5 (σ.1 2 3))))) ∧ ((rX9_byteAt (σ.1 2 3) (sA σ 2 (upd (σ.1 2) 5 (σ.1 2 3))))) ≤ 57) → Ct yX9_readNumber MX9_readNumber (d + 1) [.ref 2] (sA σ 2 (upd (σ.1 2) 5 (σ.1 2 3))) (fun v σ1 => Run MX9_readToken (d + 2) 65 [none, none, none] (v.toList ++ []) σ1 Q))
    (k3 : (σ.1 2 3) < (σ.1 2 0) → ¬ ((rX9_byteAt (σ.1 2 3) σ)) = 32 → (¬ ((48 : Int32) ≤ ((rX9_byteAt (σ.1 2 3) (sA σ 2 (upd (σ.1 2) 5 (σ.1 2 3))))) ∧ ((rX9_byteAt (σ.1 2 3) (sA σ 2 (upd (σ.1 2) 5 (σ.1 2 3))))) ≤ 57)) → Q (none) (sA (sA (sA σ 2 (upd (σ.1 2) 5 (σ.1 2 3))) 2 (upd (upd (σ.1 2) 5 (σ.1 2 3)) 4 (if ((rX9_byteAt (σ.1 2 3) (sA σ 2 (upd (σ.1 2) 5 (σ.1 2 3))))) = (-1) ∨ (((rX9_byteAt (σ.1 2 3) (sA σ 2 (upd (σ.1 2) 5 (σ.1 2 3))))) = 58 ∨ (((rX9_byteAt (σ.1 2 3) (sA σ 2 (upd (σ.1 2) 5 (σ.1 2 3))))) = 44 ∨ ((rX9_byteAt (σ.1 2 3) (sA σ 2 (upd (σ.1 2) 5 (σ.1 2 3))))) = 59)) then ((rX9_byteAt (σ.1 2 3) (sA σ 2 (upd (σ.1 2) 5 (σ.1 2 3))))) else (-3)))) 2 (upd (upd (upd (σ.1 2) 5 (σ.1 2 3)) 4 (if ((rX9_byteAt (σ.1 2 3) (sA σ 2 (upd (σ.1 2) 5 (σ.1 2 3))))) = (-1) ∨ (((rX9_byteAt (σ.1 2 3) (sA σ 2 (upd (σ.1 2) 5 (σ.1 2 3))))) = 58 ∨ (((rX9_byteAt (σ.1 2 3) (sA σ 2 (upd (σ.1 2) 5 (σ.1 2 3))))) = 44 ∨ ((rX9_byteAt (σ.1 2 3) (sA σ 2 (upd (σ.1 2) 5 (σ.1 2 3))))) = 59)) then ((rX9_byteAt (σ.1 2 3) (sA σ 2 (upd (σ.1 2) 5 (σ.1 2 3))))) else (-3))) 3 ((σ.1 2 3) + 1))))
    (k4 : (σ.1 2 3) < (σ.1 2 0) → ¬ ((rX9_byteAt (σ.1 2 3) σ)) = 32 → ((48 : Int32) ≤ ((rX9_byteAt (σ.1 2 3) (sA σ 2 (upd (σ.1 2) 5 (σ.1 2 3))))) ∧ ((rX9_byteAt (σ.1 2 3) (sA σ 2 (upd (σ.1 2) 5 (σ.1 2 3))))) ≤ 57) → Ct yX9_readNumber MX9_readNumber (d + 1) [.ref 2] (sA σ 2 (upd (σ.1 2) 5 (σ.1 2 3))) (fun v σ1 => Run MX9_readToken (d + 2) 65 [none, none, none] (v.toList ++ []) σ1 Q))
    (k5 : (σ.1 2 3) < (σ.1 2 0) → ((rX9_byteAt (σ.1 2 3) σ)) = 32 → Run MX9_readToken (d + 2) 0 [some (.ref 2), none, none] [] (sA σ 2 (upd (σ.1 2) 3 ((σ.1 2 3) + 1))) Q)
    : Run MX9_readToken (d + 2) 0 [some (.ref 2), none, none] [] σ Q := by
  refine (go_aload_n 0 eX9_readToken_0 rfl rfl).run ?_
  refine (go_geti flX9_22 rf_8_3 kd_2 eX9_readToken_1).run ?_
  refine (go_aload_n 0 eX9_readToken_4 rfl rfl).run ?_
  refine (go_geti flX9_15 rf_8_0 kd_2 eX9_readToken_5).run ?_
  refine (bi_ge 37 eX9_readToken_8 rfl).run (fun h1 => ?_) (fun h1 => ?_)
  · refine (go_aload_n 0 eX9_readToken_37 rfl rfl).run ?_
    refine (go_aload_n 0 eX9_readToken_38 rfl rfl).run ?_
    refine (go_geti flX9_22 rf_8_3 kd_2 eX9_readToken_39).run ?_
    refine (go_puti flX9_52 rf_8_5 rfl pf_8_5 rfl rfl kd_2 eX9_readToken_42).run ?_
    refine (go_aload_n 0 eX9_readToken_45 rfl rfl).run ?_
    refine (go_aload_n 0 eX9_readToken_46 rfl rfl).run ?_
    refine (go_geti flX9_22 rf_8_3 kd_2 eX9_readToken_47).run ?_
    refine Run.callV1 (d := (d + 1)) (As := [.int (σ.1 2 3)]) (r := .int ((rX9_byteAt (σ.1 2 3) (sA σ 2 (upd (σ.1 2) 5 (σ.1 2 3)))))) mX9_byteAt lkX9_71 kd_2 (by decide) rfl rfl rfl rfl rfl (Nat.le_of_ble_eq_true rfl) eX9_readToken_50 (qX9_byteAt (d + 1) (σ.1 2 3) (sA σ 2 (upd (σ.1 2) 5 (σ.1 2 3)))  (g1 h1)) ?_
    refine (go_istore_n 1 (L' := [some (.ref 2), some (.int ((rX9_byteAt (σ.1 2 3) (sA σ 2 (upd (σ.1 2) 5 (σ.1 2 3)))))), none]) eX9_readToken_53 rfl (Nat.le_of_ble_eq_true rfl) rfl).run ?_
    refine (go_iload_n 1 eX9_readToken_54 rfl rfl).run ?_
    refine Run.callS1 (d := (d + 1)) (As := [.int ((rX9_byteAt (σ.1 2 3) (sA σ 2 (upd (σ.1 2) 5 (σ.1 2 3)))))]) (r := .int (bI ((48 : Int32) ≤ ((rX9_byteAt (σ.1 2 3) (sA σ 2 (upd (σ.1 2) 5 (σ.1 2 3))))) ∧ ((rX9_byteAt (σ.1 2 3) (sA σ 2 (upd (σ.1 2) 5 (σ.1 2 3))))) ≤ 57))) mX9_isFigure lkX9_75 rfl rfl rfl (Nat.le_of_ble_eq_true rfl) eX9_readToken_55 (qX9_isFigure (d + 1) ((rX9_byteAt (σ.1 2 3) (sA σ 2 (upd (σ.1 2) 5 (σ.1 2 3))))) (sA σ 2 (upd (σ.1 2) 5 (σ.1 2 3)))  ) ?_
    refine (br_ifeq_b 66 eX9_readToken_58 rfl).run (fun h2 => ?_) (fun h2 => ?_)
    · refine (go_iload_n 1 eX9_readToken_66 rfl rfl).run ?_
      refine (go_iconst (v := -1) eX9_readToken_67 rfl).run ?_
      have hJh3 : Run MX9_readToken (d + 2) 94 [some (.ref 2), some (.int ((rX9_byteAt (σ.1 2 3) (sA σ 2 (upd (σ.1 2) 5 (σ.1 2 3)))))), none] [.int (bI (((rX9_byteAt (σ.1 2 3) (sA σ 2 (upd (σ.1 2) 5 (σ.1 2 3))))) = (-1) ∨ (((rX9_byteAt (σ.1 2 3) (sA σ 2 (upd (σ.1 2) 5 (σ.1 2 3))))) = 58 ∨ (((rX9_byteAt (σ.1 2 3) (sA σ 2 (upd (σ.1 2) 5 (σ.1 2 3))))) = 44 ∨ ((rX9_byteAt (σ.1 2 3) (sA σ 2 (upd (σ.1 2) 5 (σ.1 2 3))))) = 59))))] (sA σ 2 (upd (σ.1 2) 5 (σ.1 2 3))) Q := by
        refine (go_istore_n 2 (L' := [some (.ref 2), some (.int ((rX9_byteAt (σ.1 2 3) (sA σ 2 (upd (σ.1 2) 5 (σ.1 2 3)))))), some (.int (bI (((rX9_byteAt (σ.1 2 3) (sA σ 2 (upd (σ.1 2) 5 (σ.1 2 3))))) = (-1) ∨ (((rX9_byteAt (σ.1 2 3) (sA σ 2 (upd (σ.1 2) 5 (σ.1 2 3))))) = 58 ∨ (((rX9_byteAt (σ.1 2 3) (sA σ 2 (upd (σ.1 2) 5 (σ.1 2 3))))) = 44 ∨ ((rX9_byteAt (σ.1 2 3) (sA σ 2 (upd (σ.1 2) 5 (σ.1 2 3))))) = 59)))))]) eX9_readToken_94 rfl (Nat.le_of_ble_eq_true rfl) rfl).run ?_
        refine (go_aload_n 0 eX9_readToken_95 rfl rfl).run ?_
        refine (go_iload_n 2 eX9_readToken_96 rfl rfl).run ?_
        have hJh7 : Run MX9_readToken (d + 2) 106 [some (.ref 2), none, none] [.int (if ((rX9_byteAt (σ.1 2 3) (sA σ 2 (upd (σ.1 2) 5 (σ.1 2 3))))) = (-1) ∨ (((rX9_byteAt (σ.1 2 3) (sA σ 2 (upd (σ.1 2) 5 (σ.1 2 3))))) = 58 ∨ (((rX9_byteAt (σ.1 2 3) (sA σ 2 (upd (σ.1 2) 5 (σ.1 2 3))))) = 44 ∨ ((rX9_byteAt (σ.1 2 3) (sA σ 2 (upd (σ.1 2) 5 (σ.1 2 3))))) = 59)) then ((rX9_byteAt (σ.1 2 3) (sA σ 2 (upd (σ.1 2) 5 (σ.1 2 3))))) else (-3)), .ref 2] (sA σ 2 (upd (σ.1 2) 5 (σ.1 2 3))) Q := by
          refine (go_puti flX9_28 rf_8_4 rfl pf_8_4 rfl rfl kd_2 eX9_readToken_106).run ?_
          refine (go_aload_n 0 eX9_readToken_109 rfl rfl).run ?_
          refine (go_dup eX9_readToken_110 rfl).run ?_
          refine (go_geti flX9_22 rf_8_3 kd_2 eX9_readToken_111).run ?_
          refine (go_iconst (v := 1) eX9_readToken_114 rfl).run ?_
          refine (go_iadd eX9_readToken_115).run ?_
          refine (go_puti flX9_22 rf_8_3 rfl pf_8_3 rfl rfl kd_2 eX9_readToken_116).run ?_
          exact Run.ret (v := none) (k1 h1 h2) ⟨rfl, eX9_readToken_119⟩ rfl
        refine (br_ifeq_b 104 eX9_readToken_97 rfl).run (fun (h7 : ¬ (((rX9_byteAt (σ.1 2 3) (sA σ 2 (upd (σ.1 2) 5 (σ.1 2 3))))) = (-1) ∨ (((rX9_byteAt (σ.1 2 3) (sA σ 2 (upd (σ.1 2) 5 (σ.1 2 3))))) = 58 ∨ (((rX9_byteAt (σ.1 2 3) (sA σ 2 (upd (σ.1 2) 5 (σ.1 2 3))))) = 44 ∨ ((rX9_byteAt (σ.1 2 3) (sA σ 2 (upd (σ.1 2) 5 (σ.1 2 3))))) = 59)))) => ?_) (fun (h7 : ((rX9_byteAt (σ.1 2 3) (sA σ 2 (upd (σ.1 2) 5 (σ.1 2 3))))) = (-1) ∨ (((rX9_byteAt (σ.1 2 3) (sA σ 2 (upd (σ.1 2) 5 (σ.1 2 3))))) = 58 ∨ (((rX9_byteAt (σ.1 2 3) (sA σ 2 (upd (σ.1 2) 5 (σ.1 2 3))))) = 44 ∨ ((rX9_byteAt (σ.1 2 3) (sA σ 2 (upd (σ.1 2) 5 (σ.1 2 3))))) = 59))) => ?_)
        · refine (go_bipush (v := -3) eX9_readToken_104 rfl).run ?_
          refine (go_sub (L' := [some (.ref 2), none, none]) (lsub_keep (lsub_drop (lsub_drop lsub_nil)))).run ?_
          first | exact hJh7 | (simp only [if_neg (h7)] at hJh7; exact hJh7) | (simp only [eq_false h7, not_false_eq_true, true_and, and_true, false_and, and_false, true_or, or_true, false_or, or_false, not_true_eq_false, not_false_eq_true] at hJh7; exact hJh7) | exact Run.eq (by simp [eq_false h7, not_false_eq_true, bI]) (by simp [eq_false h7, not_false_eq_true, bI]) rfl hJh7
        · refine (go_iload_n 1 eX9_readToken_100 rfl rfl).run ?_
          refine (go_goto 106 eX9_readToken_101 rfl).run ?_
          refine (go_sub (L' := [some (.ref 2), none, none]) (lsub_keep (lsub_drop (lsub_drop lsub_nil)))).run ?_
          first | exact hJh7 | (simp only [if_pos h7] at hJh7; exact hJh7) | (simp only [eq_true h7, not_true_eq_false, true_and, and_true, false_and, and_false, true_or, or_true, false_or, or_false, not_true_eq_false, not_false_eq_true] at hJh7; exact hJh7) | exact Run.eq (by simp [eq_true h7, not_true_eq_false, bI]) (by simp [eq_true h7, not_true_eq_false, bI]) rfl hJh7
      refine (bi_eq 89 eX9_readToken_68 rfl).run (fun (h3 : ((rX9_byteAt (σ.1 2 3) (sA σ 2 (upd (σ.1 2) 5 (σ.1 2 3))))) = (-1)) => ?_) (fun (h3 : ¬ ((rX9_byteAt (σ.1 2 3) (sA σ 2 (upd (σ.1 2) 5 (σ.1 2 3))))) = (-1)) => ?_)
      · refine (go_iconst (v := 1) eX9_readToken_89 rfl).run ?_
        refine (go_goto 94 eX9_readToken_90 rfl).run ?_
        first | exact hJh3 | (simp only [if_pos h3] at hJh3; exact hJh3) | (simp only [eq_true h3, not_true_eq_false, true_and, and_true, false_and, and_false, true_or, or_true, false_or, or_false, not_true_eq_false, not_false_eq_true] at hJh3; exact hJh3) | exact Run.eq (by simp [eq_true h3, not_true_eq_false, bI]) (by simp [eq_true h3, not_true_eq_false, bI]) rfl hJh3
      · refine (go_iload_n 1 eX9_readToken_71 rfl rfl).run ?_
        refine (go_bipush (v := 58) eX9_readToken_72 rfl).run ?_
        have hJh4 : Run MX9_readToken (d + 2) 94 [some (.ref 2), some (.int ((rX9_byteAt (σ.1 2 3) (sA σ 2 (upd (σ.1 2) 5 (σ.1 2 3)))))), none] [.int (bI (((rX9_byteAt (σ.1 2 3) (sA σ 2 (upd (σ.1 2) 5 (σ.1 2 3))))) = 58 ∨ (((rX9_byteAt (σ.1 2 3) (sA σ 2 (upd (σ.1 2) 5 (σ.1 2 3))))) = 44 ∨ ((rX9_byteAt (σ.1 2 3) (sA σ 2 (upd (σ.1 2) 5 (σ.1 2 3))))) = 59)))] (sA σ 2 (upd (σ.1 2) 5 (σ.1 2 3))) Q := by
          first | exact hJh3 | (simp only [if_neg (h3)] at hJh3; exact hJh3) | (simp only [eq_false h3, not_false_eq_true, true_and, and_true, false_and, and_false, true_or, or_true, false_or, or_false, not_true_eq_false, not_false_eq_true] at hJh3; exact hJh3) | exact Run.eq (by simp [eq_false h3, not_false_eq_true, bI]) (by simp [eq_false h3, not_false_eq_true, bI]) rfl hJh3
        refine (bi_eq 89 eX9_readToken_74 rfl).run (fun (h4 : ((rX9_byteAt (σ.1 2 3) (sA σ 2 (upd (σ.1 2) 5 (σ.1 2 3))))) = 58) => ?_) (fun (h4 : ¬ ((rX9_byteAt (σ.1 2 3) (sA σ 2 (upd (σ.1 2) 5 (σ.1 2 3))))) = 58) => ?_)
        · refine (go_iconst (v := 1) eX9_readToken_89 rfl).run ?_
          refine (go_goto 94 eX9_readToken_90 rfl).run ?_
          first | exact hJh4 | (simp only [if_pos h4] at hJh4; exact hJh4) | (simp only [eq_true h4, not_true_eq_false, true_and, and_true, false_and, and_false, true_or, or_true, false_or, or_false, not_true_eq_false, not_false_eq_true] at hJh4; exact hJh4) | exact Run.eq (by simp [eq_true h4, not_true_eq_false, bI]) (by simp [eq_true h4, not_true_eq_false, bI]) rfl hJh4
        · refine (go_iload_n 1 eX9_readToken_77 rfl rfl).run ?_
          refine (go_bipush (v := 44) eX9_readToken_78 rfl).run ?_
          have hJh5 : Run MX9_readToken (d + 2) 94 [some (.ref 2), some (.int ((rX9_byteAt (σ.1 2 3) (sA σ 2 (upd (σ.1 2) 5 (σ.1 2 3)))))), none] [.int (bI (((rX9_byteAt (σ.1 2 3) (sA σ 2 (upd (σ.1 2) 5 (σ.1 2 3))))) = 44 ∨ ((rX9_byteAt (σ.1 2 3) (sA σ 2 (upd (σ.1 2) 5 (σ.1 2 3))))) = 59))] (sA σ 2 (upd (σ.1 2) 5 (σ.1 2 3))) Q := by
            first | exact hJh4 | (simp only [if_neg (h4)] at hJh4; exact hJh4) | (simp only [eq_false h4, not_false_eq_true, true_and, and_true, false_and, and_false, true_or, or_true, false_or, or_false, not_true_eq_false, not_false_eq_true] at hJh4; exact hJh4) | exact Run.eq (by simp [eq_false h4, not_false_eq_true, bI]) (by simp [eq_false h4, not_false_eq_true, bI]) rfl hJh4
          refine (bi_eq 89 eX9_readToken_80 rfl).run (fun (h5 : ((rX9_byteAt (σ.1 2 3) (sA σ 2 (upd (σ.1 2) 5 (σ.1 2 3))))) = 44) => ?_) (fun (h5 : ¬ ((rX9_byteAt (σ.1 2 3) (sA σ 2 (upd (σ.1 2) 5 (σ.1 2 3))))) = 44) => ?_)
          · refine (go_iconst (v := 1) eX9_readToken_89 rfl).run ?_
            refine (go_goto 94 eX9_readToken_90 rfl).run ?_
            first | exact hJh5 | (simp only [if_pos h5] at hJh5; exact hJh5) | (simp only [eq_true h5, not_true_eq_false, true_and, and_true, false_and, and_false, true_or, or_true, false_or, or_false, not_true_eq_false, not_false_eq_true] at hJh5; exact hJh5) | exact Run.eq (by simp [eq_true h5, not_true_eq_false, bI]) (by simp [eq_true h5, not_true_eq_false, bI]) rfl hJh5
          · refine (go_iload_n 1 eX9_readToken_83 rfl rfl).run ?_
            refine (go_bipush (v := 59) eX9_readToken_84 rfl).run ?_
            have hJh6 : Run MX9_readToken (d + 2) 94 [some (.ref 2), some (.int ((rX9_byteAt (σ.1 2 3) (sA σ 2 (upd (σ.1 2) 5 (σ.1 2 3)))))), none] [.int (bI (((rX9_byteAt (σ.1 2 3) (sA σ 2 (upd (σ.1 2) 5 (σ.1 2 3))))) = 59))] (sA σ 2 (upd (σ.1 2) 5 (σ.1 2 3))) Q := by
              first | exact hJh5 | (simp only [if_neg (h5)] at hJh5; exact hJh5) | (simp only [eq_false h5, not_false_eq_true, true_and, and_true, false_and, and_false, true_or, or_true, false_or, or_false, not_true_eq_false, not_false_eq_true] at hJh5; exact hJh5) | exact Run.eq (by simp [eq_false h5, not_false_eq_true, bI]) (by simp [eq_false h5, not_false_eq_true, bI]) rfl hJh5
            refine (bi_ne 93 eX9_readToken_86 rfl).run (fun (h6 : ¬ ((rX9_byteAt (σ.1 2 3) (sA σ 2 (upd (σ.1 2) 5 (σ.1 2 3))))) = 59) => ?_) (fun (h6 : ((rX9_byteAt (σ.1 2 3) (sA σ 2 (upd (σ.1 2) 5 (σ.1 2 3))))) = 59) => ?_)
            · refine (go_iconst (v := 0) eX9_readToken_93 rfl).run ?_
              first | exact hJh6 | (simp only [if_neg (h6)] at hJh6; exact hJh6) | (simp only [eq_false h6, not_false_eq_true, true_and, and_true, false_and, and_false, true_or, or_true, false_or, or_false, not_true_eq_false, not_false_eq_true] at hJh6; exact hJh6) | exact Run.eq (by simp [eq_false h6, not_false_eq_true, bI]) (by simp [eq_false h6, not_false_eq_true, bI]) rfl hJh6
            · refine (go_iconst (v := 1) eX9_readToken_89 rfl).run ?_
              refine (go_goto 94 eX9_readToken_90 rfl).run ?_
              first | exact hJh6 | (simp only [if_pos h6] at hJh6; exact hJh6) | (simp only [eq_true h6, not_true_eq_false, true_and, and_true, false_and, and_false, true_or, or_true, false_or, or_false, not_true_eq_false, not_false_eq_true] at hJh6; exact hJh6) | exact Run.eq (by simp [eq_true h6, not_true_eq_false, bI]) (by simp [eq_true h6, not_true_eq_false, bI]) rfl hJh6
    · refine (go_aload_n 0 eX9_readToken_61 rfl rfl).run ?_
      refine (go_sub (L' := [none, none, none]) (lsub_drop (lsub_drop (lsub_keep lsub_nil)))).run ?_
      exact Run.callV (d := (d + 1)) (As := []) mX9_readNumber lkX9_78 kd_2 (by decide) rfl rfl rfl rfl rfl (Nat.le_of_ble_eq_true rfl) eX9_readToken_62 (k2 h1 h2)
  · refine (go_aload_n 0 eX9_readToken_11 rfl rfl).run ?_
    refine (go_aload_n 0 eX9_readToken_12 rfl rfl).run ?_
    refine (go_geti flX9_22 rf_8_3 kd_2 eX9_readToken_13).run ?_
    refine Run.callV1 (d := (d + 1)) (As := [.int (σ.1 2 3)]) (r := .int ((rX9_byteAt (σ.1 2 3) σ))) mX9_byteAt lkX9_71 kd_2 (by decide) rfl rfl rfl rfl rfl (Nat.le_of_ble_eq_true rfl) eX9_readToken_16 (qX9_byteAt (d + 1) (σ.1 2 3) σ  (g2 h1)) ?_
    refine (go_bipush (v := 32) eX9_readToken_19 rfl).run ?_
    refine (bi_ne 37 eX9_readToken_21 rfl).run (fun h8 => ?_) (fun h8 => ?_)
    · refine (go_aload_n 0 eX9_readToken_37 rfl rfl).run ?_
      refine (go_aload_n 0 eX9_readToken_38 rfl rfl).run ?_
      refine (go_geti flX9_22 rf_8_3 kd_2 eX9_readToken_39).run ?_
      refine (go_puti flX9_52 rf_8_5 rfl pf_8_5 rfl rfl kd_2 eX9_readToken_42).run ?_
      refine (go_aload_n 0 eX9_readToken_45 rfl rfl).run ?_
      refine (go_aload_n 0 eX9_readToken_46 rfl rfl).run ?_
      refine (go_geti flX9_22 rf_8_3 kd_2 eX9_readToken_47).run ?_
      refine Run.callV1 (d := (d + 1)) (As := [.int (σ.1 2 3)]) (r := .int ((rX9_byteAt (σ.1 2 3) (sA σ 2 (upd (σ.1 2) 5 (σ.1 2 3)))))) mX9_byteAt lkX9_71 kd_2 (by decide) rfl rfl rfl rfl rfl (Nat.le_of_ble_eq_true rfl) eX9_readToken_50 (qX9_byteAt (d + 1) (σ.1 2 3) (sA σ 2 (upd (σ.1 2) 5 (σ.1 2 3)))  (g3 h1 h8)) ?_
      refine (go_istore_n 1 (L' := [some (.ref 2), some (.int ((rX9_byteAt (σ.1 2 3) (sA σ 2 (upd (σ.1 2) 5 (σ.1 2 3)))))), none]) eX9_readToken_53 rfl (Nat.le_of_ble_eq_true rfl) rfl).run ?_
      refine (go_iload_n 1 eX9_readToken_54 rfl rfl).run ?_
      refine Run.callS1 (d := (d + 1)) (As := [.int ((rX9_byteAt (σ.1 2 3) (sA σ 2 (upd (σ.1 2) 5 (σ.1 2 3)))))]) (r := .int (bI ((48 : Int32) ≤ ((rX9_byteAt (σ.1 2 3) (sA σ 2 (upd (σ.1 2) 5 (σ.1 2 3))))) ∧ ((rX9_byteAt (σ.1 2 3) (sA σ 2 (upd (σ.1 2) 5 (σ.1 2 3))))) ≤ 57))) mX9_isFigure lkX9_75 rfl rfl rfl (Nat.le_of_ble_eq_true rfl) eX9_readToken_55 (qX9_isFigure (d + 1) ((rX9_byteAt (σ.1 2 3) (sA σ 2 (upd (σ.1 2) 5 (σ.1 2 3))))) (sA σ 2 (upd (σ.1 2) 5 (σ.1 2 3)))  ) ?_
      refine (br_ifeq_b 66 eX9_readToken_58 rfl).run (fun h9 => ?_) (fun h9 => ?_)
      · refine (go_iload_n 1 eX9_readToken_66 rfl rfl).run ?_
        refine (go_iconst (v := -1) eX9_readToken_67 rfl).run ?_
        have hJh10 : Run MX9_readToken (d + 2) 94 [some (.ref 2), some (.int ((rX9_byteAt (σ.1 2 3) (sA σ 2 (upd (σ.1 2) 5 (σ.1 2 3)))))), none] [.int (bI (((rX9_byteAt (σ.1 2 3) (sA σ 2 (upd (σ.1 2) 5 (σ.1 2 3))))) = (-1) ∨ (((rX9_byteAt (σ.1 2 3) (sA σ 2 (upd (σ.1 2) 5 (σ.1 2 3))))) = 58 ∨ (((rX9_byteAt (σ.1 2 3) (sA σ 2 (upd (σ.1 2) 5 (σ.1 2 3))))) = 44 ∨ ((rX9_byteAt (σ.1 2 3) (sA σ 2 (upd (σ.1 2) 5 (σ.1 2 3))))) = 59))))] (sA σ 2 (upd (σ.1 2) 5 (σ.1 2 3))) Q := by
          refine (go_istore_n 2 (L' := [some (.ref 2), some (.int ((rX9_byteAt (σ.1 2 3) (sA σ 2 (upd (σ.1 2) 5 (σ.1 2 3)))))), some (.int (bI (((rX9_byteAt (σ.1 2 3) (sA σ 2 (upd (σ.1 2) 5 (σ.1 2 3))))) = (-1) ∨ (((rX9_byteAt (σ.1 2 3) (sA σ 2 (upd (σ.1 2) 5 (σ.1 2 3))))) = 58 ∨ (((rX9_byteAt (σ.1 2 3) (sA σ 2 (upd (σ.1 2) 5 (σ.1 2 3))))) = 44 ∨ ((rX9_byteAt (σ.1 2 3) (sA σ 2 (upd (σ.1 2) 5 (σ.1 2 3))))) = 59)))))]) eX9_readToken_94 rfl (Nat.le_of_ble_eq_true rfl) rfl).run ?_
          refine (go_aload_n 0 eX9_readToken_95 rfl rfl).run ?_
          refine (go_iload_n 2 eX9_readToken_96 rfl rfl).run ?_
          have hJh14 : Run MX9_readToken (d + 2) 106 [some (.ref 2), none, none] [.int (if ((rX9_byteAt (σ.1 2 3) (sA σ 2 (upd (σ.1 2) 5 (σ.1 2 3))))) = (-1) ∨ (((rX9_byteAt (σ.1 2 3) (sA σ 2 (upd (σ.1 2) 5 (σ.1 2 3))))) = 58 ∨ (((rX9_byteAt (σ.1 2 3) (sA σ 2 (upd (σ.1 2) 5 (σ.1 2 3))))) = 44 ∨ ((rX9_byteAt (σ.1 2 3) (sA σ 2 (upd (σ.1 2) 5 (σ.1 2 3))))) = 59)) then ((rX9_byteAt (σ.1 2 3) (sA σ 2 (upd (σ.1 2) 5 (σ.1 2 3))))) else (-3)), .ref 2] (sA σ 2 (upd (σ.1 2) 5 (σ.1 2 3))) Q := by
            refine (go_puti flX9_28 rf_8_4 rfl pf_8_4 rfl rfl kd_2 eX9_readToken_106).run ?_
            refine (go_aload_n 0 eX9_readToken_109 rfl rfl).run ?_
            refine (go_dup eX9_readToken_110 rfl).run ?_
            refine (go_geti flX9_22 rf_8_3 kd_2 eX9_readToken_111).run ?_
            refine (go_iconst (v := 1) eX9_readToken_114 rfl).run ?_
            refine (go_iadd eX9_readToken_115).run ?_
            refine (go_puti flX9_22 rf_8_3 rfl pf_8_3 rfl rfl kd_2 eX9_readToken_116).run ?_
            exact Run.ret (v := none) (k3 h1 h8 h9) ⟨rfl, eX9_readToken_119⟩ rfl
          refine (br_ifeq_b 104 eX9_readToken_97 rfl).run (fun (h14 : ¬ (((rX9_byteAt (σ.1 2 3) (sA σ 2 (upd (σ.1 2) 5 (σ.1 2 3))))) = (-1) ∨ (((rX9_byteAt (σ.1 2 3) (sA σ 2 (upd (σ.1 2) 5 (σ.1 2 3))))) = 58 ∨ (((rX9_byteAt (σ.1 2 3) (sA σ 2 (upd (σ.1 2) 5 (σ.1 2 3))))) = 44 ∨ ((rX9_byteAt (σ.1 2 3) (sA σ 2 (upd (σ.1 2) 5 (σ.1 2 3))))) = 59)))) => ?_) (fun (h14 : ((rX9_byteAt (σ.1 2 3) (sA σ 2 (upd (σ.1 2) 5 (σ.1 2 3))))) = (-1) ∨ (((rX9_byteAt (σ.1 2 3) (sA σ 2 (upd (σ.1 2) 5 (σ.1 2 3))))) = 58 ∨ (((rX9_byteAt (σ.1 2 3) (sA σ 2 (upd (σ.1 2) 5 (σ.1 2 3))))) = 44 ∨ ((rX9_byteAt (σ.1 2 3) (sA σ 2 (upd (σ.1 2) 5 (σ.1 2 3))))) = 59))) => ?_)
          · refine (go_bipush (v := -3) eX9_readToken_104 rfl).run ?_
            refine (go_sub (L' := [some (.ref 2), none, none]) (lsub_keep (lsub_drop (lsub_drop lsub_nil)))).run ?_
            first | exact hJh14 | (simp only [if_neg (h14)] at hJh14; exact hJh14) | (simp only [eq_false h14, not_false_eq_true, true_and, and_true, false_and, and_false, true_or, or_true, false_or, or_false, not_true_eq_false, not_false_eq_true] at hJh14; exact hJh14) | exact Run.eq (by simp [eq_false h14, not_false_eq_true, bI]) (by simp [eq_false h14, not_false_eq_true, bI]) rfl hJh14
          · refine (go_iload_n 1 eX9_readToken_100 rfl rfl).run ?_
            refine (go_goto 106 eX9_readToken_101 rfl).run ?_
            refine (go_sub (L' := [some (.ref 2), none, none]) (lsub_keep (lsub_drop (lsub_drop lsub_nil)))).run ?_
            first | exact hJh14 | (simp only [if_pos h14] at hJh14; exact hJh14) | (simp only [eq_true h14, not_true_eq_false, true_and, and_true, false_and, and_false, true_or, or_true, false_or, or_false, not_true_eq_false, not_false_eq_true] at hJh14; exact hJh14) | exact Run.eq (by simp [eq_true h14, not_true_eq_false, bI]) (by simp [eq_true h14, not_true_eq_false, bI]) rfl hJh14
        refine (bi_eq 89 eX9_readToken_68 rfl).run (fun (h10 : ((rX9_byteAt (σ.1 2 3) (sA σ 2 (upd (σ.1 2) 5 (σ.1 2 3))))) = (-1)) => ?_) (fun (h10 : ¬ ((rX9_byteAt (σ.1 2 3) (sA σ 2 (upd (σ.1 2) 5 (σ.1 2 3))))) = (-1)) => ?_)
        · refine (go_iconst (v := 1) eX9_readToken_89 rfl).run ?_
          refine (go_goto 94 eX9_readToken_90 rfl).run ?_
          first | exact hJh10 | (simp only [if_pos h10] at hJh10; exact hJh10) | (simp only [eq_true h10, not_true_eq_false, true_and, and_true, false_and, and_false, true_or, or_true, false_or, or_false, not_true_eq_false, not_false_eq_true] at hJh10; exact hJh10) | exact Run.eq (by simp [eq_true h10, not_true_eq_false, bI]) (by simp [eq_true h10, not_true_eq_false, bI]) rfl hJh10
        · refine (go_iload_n 1 eX9_readToken_71 rfl rfl).run ?_
          refine (go_bipush (v := 58) eX9_readToken_72 rfl).run ?_
          have hJh11 : Run MX9_readToken (d + 2) 94 [some (.ref 2), some (.int ((rX9_byteAt (σ.1 2 3) (sA σ 2 (upd (σ.1 2) 5 (σ.1 2 3)))))), none] [.int (bI (((rX9_byteAt (σ.1 2 3) (sA σ 2 (upd (σ.1 2) 5 (σ.1 2 3))))) = 58 ∨ (((rX9_byteAt (σ.1 2 3) (sA σ 2 (upd (σ.1 2) 5 (σ.1 2 3))))) = 44 ∨ ((rX9_byteAt (σ.1 2 3) (sA σ 2 (upd (σ.1 2) 5 (σ.1 2 3))))) = 59)))] (sA σ 2 (upd (σ.1 2) 5 (σ.1 2 3))) Q := by
            first | exact hJh10 | (simp only [if_neg (h10)] at hJh10; exact hJh10) | (simp only [eq_false h10, not_false_eq_true, true_and, and_true, false_and, and_false, true_or, or_true, false_or, or_false, not_true_eq_false, not_false_eq_true] at hJh10; exact hJh10) | exact Run.eq (by simp [eq_false h10, not_false_eq_true, bI]) (by simp [eq_false h10, not_false_eq_true, bI]) rfl hJh10
          refine (bi_eq 89 eX9_readToken_74 rfl).run (fun (h11 : ((rX9_byteAt (σ.1 2 3) (sA σ 2 (upd (σ.1 2) 5 (σ.1 2 3))))) = 58) => ?_) (fun (h11 : ¬ ((rX9_byteAt (σ.1 2 3) (sA σ 2 (upd (σ.1 2) 5 (σ.1 2 3))))) = 58) => ?_)
          · refine (go_iconst (v := 1) eX9_readToken_89 rfl).run ?_
            refine (go_goto 94 eX9_readToken_90 rfl).run ?_
            first | exact hJh11 | (simp only [if_pos h11] at hJh11; exact hJh11) | (simp only [eq_true h11, not_true_eq_false, true_and, and_true, false_and, and_false, true_or, or_true, false_or, or_false, not_true_eq_false, not_false_eq_true] at hJh11; exact hJh11) | exact Run.eq (by simp [eq_true h11, not_true_eq_false, bI]) (by simp [eq_true h11, not_true_eq_false, bI]) rfl hJh11
          · refine (go_iload_n 1 eX9_readToken_77 rfl rfl).run ?_
            refine (go_bipush (v := 44) eX9_readToken_78 rfl).run ?_
            have hJh12 : Run MX9_readToken (d + 2) 94 [some (.ref 2), some (.int ((rX9_byteAt (σ.1 2 3) (sA σ 2 (upd (σ.1 2) 5 (σ.1 2 3)))))), none] [.int (bI (((rX9_byteAt (σ.1 2 3) (sA σ 2 (upd (σ.1 2) 5 (σ.1 2 3))))) = 44 ∨ ((rX9_byteAt (σ.1 2 3) (sA σ 2 (upd (σ.1 2) 5 (σ.1 2 3))))) = 59))] (sA σ 2 (upd (σ.1 2) 5 (σ.1 2 3))) Q := by
              first | exact hJh11 | (simp only [if_neg (h11)] at hJh11; exact hJh11) | (simp only [eq_false h11, not_false_eq_true, true_and, and_true, false_and, and_false, true_or, or_true, false_or, or_false, not_true_eq_false, not_false_eq_true] at hJh11; exact hJh11) | exact Run.eq (by simp [eq_false h11, not_false_eq_true, bI]) (by simp [eq_false h11, not_false_eq_true, bI]) rfl hJh11
            refine (bi_eq 89 eX9_readToken_80 rfl).run (fun (h12 : ((rX9_byteAt (σ.1 2 3) (sA σ 2 (upd (σ.1 2) 5 (σ.1 2 3))))) = 44) => ?_) (fun (h12 : ¬ ((rX9_byteAt (σ.1 2 3) (sA σ 2 (upd (σ.1 2) 5 (σ.1 2 3))))) = 44) => ?_)
            · refine (go_iconst (v := 1) eX9_readToken_89 rfl).run ?_
              refine (go_goto 94 eX9_readToken_90 rfl).run ?_
              first | exact hJh12 | (simp only [if_pos h12] at hJh12; exact hJh12) | (simp only [eq_true h12, not_true_eq_false, true_and, and_true, false_and, and_false, true_or, or_true, false_or, or_false, not_true_eq_false, not_false_eq_true] at hJh12; exact hJh12) | exact Run.eq (by simp [eq_true h12, not_true_eq_false, bI]) (by simp [eq_true h12, not_true_eq_false, bI]) rfl hJh12
            · refine (go_iload_n 1 eX9_readToken_83 rfl rfl).run ?_
              refine (go_bipush (v := 59) eX9_readToken_84 rfl).run ?_
              have hJh13 : Run MX9_readToken (d + 2) 94 [some (.ref 2), some (.int ((rX9_byteAt (σ.1 2 3) (sA σ 2 (upd (σ.1 2) 5 (σ.1 2 3)))))), none] [.int (bI (((rX9_byteAt (σ.1 2 3) (sA σ 2 (upd (σ.1 2) 5 (σ.1 2 3))))) = 59))] (sA σ 2 (upd (σ.1 2) 5 (σ.1 2 3))) Q := by
                first | exact hJh12 | (simp only [if_neg (h12)] at hJh12; exact hJh12) | (simp only [eq_false h12, not_false_eq_true, true_and, and_true, false_and, and_false, true_or, or_true, false_or, or_false, not_true_eq_false, not_false_eq_true] at hJh12; exact hJh12) | exact Run.eq (by simp [eq_false h12, not_false_eq_true, bI]) (by simp [eq_false h12, not_false_eq_true, bI]) rfl hJh12
              refine (bi_ne 93 eX9_readToken_86 rfl).run (fun (h13 : ¬ ((rX9_byteAt (σ.1 2 3) (sA σ 2 (upd (σ.1 2) 5 (σ.1 2 3))))) = 59) => ?_) (fun (h13 : ((rX9_byteAt (σ.1 2 3) (sA σ 2 (upd (σ.1 2) 5 (σ.1 2 3))))) = 59) => ?_)
              · refine (go_iconst (v := 0) eX9_readToken_93 rfl).run ?_
                first | exact hJh13 | (simp only [if_neg (h13)] at hJh13; exact hJh13) | (simp only [eq_false h13, not_false_eq_true, true_and, and_true, false_and, and_false, true_or, or_true, false_or, or_false, not_true_eq_false, not_false_eq_true] at hJh13; exact hJh13) | exact Run.eq (by simp [eq_false h13, not_false_eq_true, bI]) (by simp [eq_false h13, not_false_eq_true, bI]) rfl hJh13
              · refine (go_iconst (v := 1) eX9_readToken_89 rfl).run ?_
                refine (go_goto 94 eX9_readToken_90 rfl).run ?_
                first | exact hJh13 | (simp only [if_pos h13] at hJh13; exact hJh13) | (simp only [eq_true h13, not_true_eq_false, true_and, and_true, false_and, and_false, true_or, or_true, false_or, or_false, not_true_eq_false, not_false_eq_true] at hJh13; exact hJh13) | exact Run.eq (by simp [eq_true h13, not_true_eq_false, bI]) (by simp [eq_true h13, not_true_eq_false, bI]) rfl hJh13
      · refine (go_aload_n 0 eX9_readToken_61 rfl rfl).run ?_
        refine (go_sub (L' := [none, none, none]) (lsub_drop (lsub_drop (lsub_keep lsub_nil)))).run ?_
        exact Run.callV (d := (d + 1)) (As := []) mX9_readNumber lkX9_78 kd_2 (by decide) rfl rfl rfl rfl rfl (Nat.le_of_ble_eq_true rfl) eX9_readToken_62 (k4 h1 h8 h9)
    · refine (go_aload_n 0 eX9_readToken_24 rfl rfl).run ?_
      refine (go_dup eX9_readToken_25 rfl).run ?_
      refine (go_geti flX9_22 rf_8_3 kd_2 eX9_readToken_26).run ?_
      refine (go_iconst (v := 1) eX9_readToken_29 rfl).run ?_
      refine (go_iadd eX9_readToken_30).run ?_
      refine (go_puti flX9_22 rf_8_3 rfl pf_8_3 rfl rfl kd_2 eX9_readToken_31).run ?_
      refine (go_goto 0 eX9_readToken_34 rfl).run ?_
      exact (k5 h1 h8)

set_option maxRecDepth 20000 in
theorem bX9_readToken_65 {d : Nat} {Q : Option Value → St → Prop} (σ : St) 
    (k1 : Q (none) σ)
    : Run MX9_readToken (d + 2) 65 [none, none, none] [] σ Q := by
  exact Run.ret (v := none) k1 ⟨rfl, eX9_readToken_65⟩ rfl

/-! CarryNets$Tape.refuse -/
theorem eX9_refuse_0 : decode MX9_refuse.2.1 0 = .ok (.aload_n 0, 1) := by decide +kernel
theorem eX9_refuse_1 : decode MX9_refuse.2.1 1 = .ok (.iload_n 1, 1) := by decide +kernel
theorem eX9_refuse_2 : decode MX9_refuse.2.1 2 = .ok (.putfield 19, 3) := by decide +kernel
theorem eX9_refuse_5 : decode MX9_refuse.2.1 5 = .ok (.iconst 0, 1) := by decide +kernel
theorem eX9_refuse_6 : decode MX9_refuse.2.1 6 = .ok (.ireturn, 1) := by decide +kernel
set_option maxRecDepth 20000 in
theorem bX9_refuse_0 {d : Nat} {Q : Option Value → St → Prop} (x1 : Int32) (σ : St) 
    (k1 : Q (some (.int 0)) (sA σ 2 (upd (σ.1 2) 1 x1)))
    : Run MX9_refuse d 0 [some (.ref 2), some (.int x1)] [] σ Q := by
  refine (go_aload_n 0 eX9_refuse_0 rfl rfl).run ?_
  refine (go_iload_n 1 eX9_refuse_1 rfl rfl).run ?_
  refine (go_puti flX9_19 rf_8_1 rfl pf_8_1 rfl rfl kd_2 eX9_refuse_2).run ?_
  refine (go_iconst (v := 0) eX9_refuse_5 rfl).run ?_
  exact Run.ret (v := some (.int 0)) k1 ⟨Or.inr ⟨rfl, Or.inl rfl⟩, eX9_refuse_6⟩ rfl

def sX9_refuse (x1 : Int32) (σ : St) : St := sA σ 2 (upd (σ.1 2) 1 x1)
theorem qX9_refuse (d : Nat) (x1 : Int32) (σ : St) : Ct yX9_refuse MX9_refuse d [.ref 2, .int x1] σ (fun v σ1 => v = some (.int (bI (False))) ∧ σ1 = sX9_refuse x1 σ) :=
  Ct.of mX9_refuse.1 (Nat.le_of_ble_eq_true rfl) (bX9_refuse_0 x1 σ   (⟨by first | rfl | (simp only [sX9_refuse, bI, true_and, and_true, false_and, and_false, true_or, or_true, false_or, or_false, not_true_eq_false, not_false_eq_true, if_true, if_false]; done) | (simp [sX9_refuse, bI]; done), by first | rfl | (simp only [sX9_refuse, bI, true_and, and_true, false_and, and_false, true_or, or_true, false_or, or_false, not_true_eq_false, not_false_eq_true, if_true, if_false]; done) | (simp [sX9_refuse, bI]; done)⟩))

/-! CarryNets$Tape.refuseToken -/
theorem eX9_refuseToken_0 : decode MX9_refuseToken.2.1 0 = .ok (.aload_n 0, 1) := by decide +kernel
theorem eX9_refuseToken_1 : decode MX9_refuseToken.2.1 1 = .ok (.aload_n 0, 1) := by decide +kernel
theorem eX9_refuseToken_2 : decode MX9_refuseToken.2.1 2 = .ok (.getfield 28, 3) := by decide +kernel
theorem eX9_refuseToken_5 : decode MX9_refuseToken.2.1 5 = .ok (.bipush (-3), 2) := by decide +kernel
theorem eX9_refuseToken_7 : decode MX9_refuseToken.2.1 7 = .ok (.if_icmp .ne 7, 3) := by decide +kernel
theorem eX9_refuseToken_10 : decode MX9_refuseToken.2.1 10 = .ok (.iconst 1, 1) := by decide +kernel
theorem eX9_refuseToken_11 : decode MX9_refuseToken.2.1 11 = .ok (.goto 4, 3) := by decide +kernel
theorem eX9_refuseToken_14 : decode MX9_refuseToken.2.1 14 = .ok (.iconst 2, 1) := by decide +kernel
theorem eX9_refuseToken_15 : decode MX9_refuseToken.2.1 15 = .ok (.invokevirtual 38, 3) := by decide +kernel
theorem eX9_refuseToken_18 : decode MX9_refuseToken.2.1 18 = .ok (.ireturn, 1) := by decide +kernel
set_option maxRecDepth 20000 in
theorem bX9_refuseToken_0 {d : Nat} {Q : Option Value → St → Prop} (σ : St) 
    (k1 : Q (some (.int (bI (False)))) (sX9_refuse (if (σ.1 2 4) = (-3) then (1 : Int32) else 2) σ))
    : Run MX9_refuseToken (d + 1) 0 [some (.ref 2)] [] σ Q := by
  refine (go_aload_n 0 eX9_refuseToken_0 rfl rfl).run ?_
  refine (go_aload_n 0 eX9_refuseToken_1 rfl rfl).run ?_
  refine (go_geti flX9_28 rf_8_4 kd_2 eX9_refuseToken_2).run ?_
  refine (go_bipush (v := -3) eX9_refuseToken_5 rfl).run ?_
  have hJh1 : Run MX9_refuseToken (d + 1) 15 [none] [.int (if (σ.1 2 4) = (-3) then (1 : Int32) else 2), .ref 2] σ Q := by
    refine Run.callV1 (d := d) (As := [.int (if (σ.1 2 4) = (-3) then (1 : Int32) else 2)]) (r := .int (bI (False))) mX9_refuse lkX9_38 kd_2 (by decide) rfl rfl rfl rfl rfl (Nat.le_of_ble_eq_true rfl) eX9_refuseToken_15 (qX9_refuse d (if (σ.1 2 4) = (-3) then (1 : Int32) else 2) σ  ) ?_
    exact Run.ret (v := some (.int (bI (False)))) k1 ⟨Or.inr ⟨rfl, bI_01⟩, eX9_refuseToken_18⟩ rfl
  refine (bi_ne 14 eX9_refuseToken_7 rfl).run (fun h1 => ?_) (fun h1 => ?_)
  · refine (go_iconst (v := 2) eX9_refuseToken_14 rfl).run ?_
    refine (go_sub (L' := [none]) (lsub_drop lsub_nil)).run ?_
    first | exact hJh1 | (simp only [if_neg (h1)] at hJh1; exact hJh1) | (simp only [eq_false h1, not_false_eq_true, true_and, and_true, false_and, and_false, true_or, or_true, false_or, or_false, not_true_eq_false, not_false_eq_true] at hJh1; exact hJh1) | exact Run.eq (by simp [eq_false h1, not_false_eq_true, bI]) (by simp [eq_false h1, not_false_eq_true, bI]) rfl hJh1
  · refine (go_iconst (v := 1) eX9_refuseToken_10 rfl).run ?_
    refine (go_goto 15 eX9_refuseToken_11 rfl).run ?_
    refine (go_sub (L' := [none]) (lsub_drop lsub_nil)).run ?_
    first | exact hJh1 | (simp only [if_pos h1] at hJh1; exact hJh1) | (simp only [eq_true h1, not_true_eq_false, true_and, and_true, false_and, and_false, true_or, or_true, false_or, or_false, not_true_eq_false, not_false_eq_true] at hJh1; exact hJh1) | exact Run.eq (by simp [eq_true h1, not_true_eq_false, bI]) (by simp [eq_true h1, not_true_eq_false, bI]) rfl hJh1

def sX9_refuseToken (σ : St) : St := sX9_refuse (if (σ.1 2 4) = (-3) then (1 : Int32) else 2) σ
theorem qX9_refuseToken (d : Nat) (σ : St) : Ct yX9_refuseToken MX9_refuseToken (d + 1) [.ref 2] σ (fun v σ1 => v = some (.int (bI (False))) ∧ σ1 = sX9_refuseToken  σ) :=
  Ct.of mX9_refuseToken.1 (Nat.le_of_ble_eq_true rfl) (bX9_refuseToken_0  σ   (⟨by first | rfl | (simp only [sX9_refuseToken, bI, true_and, and_true, false_and, and_false, true_or, or_true, false_or, or_false, not_true_eq_false, not_false_eq_true, if_true, if_false]; done) | (simp [sX9_refuseToken, bI]; done), by first | rfl | (simp only [sX9_refuseToken, bI, true_and, and_true, false_and, and_false, true_or, or_true, false_or, or_false, not_true_eq_false, not_false_eq_true, if_true, if_false]; done) | (simp [sX9_refuseToken, bI]; done)⟩))

/-! CarryNets$Tape.readRow -/
theorem eX9_readRow_0 : decode MX9_readRow.2.1 0 = .ok (.iconst 0, 1) := by decide +kernel
theorem eX9_readRow_1 : decode MX9_readRow.2.1 1 = .ok (.istore_n 3, 1) := by decide +kernel
theorem eX9_readRow_2 : decode MX9_readRow.2.1 2 = .ok (.iconst 0, 1) := by decide +kernel
theorem eX9_readRow_3 : decode MX9_readRow.2.1 3 = .ok (.istore 4, 2) := by decide +kernel
theorem eX9_readRow_5 : decode MX9_readRow.2.1 5 = .ok (.iload 4, 2) := by decide +kernel
theorem eX9_readRow_7 : decode MX9_readRow.2.1 7 = .ok (.sipush 240, 3) := by decide +kernel
theorem eX9_readRow_10 : decode MX9_readRow.2.1 10 = .ok (.if_icmp .ge 126, 3) := by decide +kernel
theorem eX9_readRow_13 : decode MX9_readRow.2.1 13 = .ok (.aload_n 0, 1) := by decide +kernel
theorem eX9_readRow_14 : decode MX9_readRow.2.1 14 = .ok (.getfield 28, 3) := by decide +kernel
theorem eX9_readRow_17 : decode MX9_readRow.2.1 17 = .ok (.bipush (-2), 2) := by decide +kernel
theorem eX9_readRow_19 : decode MX9_readRow.2.1 19 = .ok (.if_icmp .eq 8, 3) := by decide +kernel
theorem eX9_readRow_22 : decode MX9_readRow.2.1 22 = .ok (.aload_n 0, 1) := by decide +kernel
theorem eX9_readRow_23 : decode MX9_readRow.2.1 23 = .ok (.invokevirtual 31, 3) := by decide +kernel
theorem eX9_readRow_26 : decode MX9_readRow.2.1 26 = .ok (.ireturn, 1) := by decide +kernel
theorem eX9_readRow_27 : decode MX9_readRow.2.1 27 = .ok (.iload_n 2, 1) := by decide +kernel
theorem eX9_readRow_28 : decode MX9_readRow.2.1 28 = .ok (.bipush 32, 2) := by decide +kernel
theorem eX9_readRow_30 : decode MX9_readRow.2.1 30 = .ok (.if_icmp .lt 9, 3) := by decide +kernel
theorem eX9_readRow_33 : decode MX9_readRow.2.1 33 = .ok (.aload_n 0, 1) := by decide +kernel
theorem eX9_readRow_34 : decode MX9_readRow.2.1 34 = .ok (.iconst 5, 1) := by decide +kernel
theorem eX9_readRow_35 : decode MX9_readRow.2.1 35 = .ok (.invokevirtual 38, 3) := by decide +kernel
theorem eX9_readRow_38 : decode MX9_readRow.2.1 38 = .ok (.ireturn, 1) := by decide +kernel
theorem eX9_readRow_39 : decode MX9_readRow.2.1 39 = .ok (.aload_n 0, 1) := by decide +kernel
theorem eX9_readRow_40 : decode MX9_readRow.2.1 40 = .ok (.getfield 35, 3) := by decide +kernel
theorem eX9_readRow_43 : decode MX9_readRow.2.1 43 = .ok (.aload_n 1, 1) := by decide +kernel
theorem eX9_readRow_44 : decode MX9_readRow.2.1 44 = .ok (.getfield 55, 3) := by decide +kernel
theorem eX9_readRow_47 : decode MX9_readRow.2.1 47 = .ok (.if_icmp .lt 9, 3) := by decide +kernel
theorem eX9_readRow_50 : decode MX9_readRow.2.1 50 = .ok (.aload_n 0, 1) := by decide +kernel
theorem eX9_readRow_51 : decode MX9_readRow.2.1 51 = .ok (.iconst 3, 1) := by decide +kernel
theorem eX9_readRow_52 : decode MX9_readRow.2.1 52 = .ok (.invokevirtual 38, 3) := by decide +kernel
theorem eX9_readRow_55 : decode MX9_readRow.2.1 55 = .ok (.ireturn, 1) := by decide +kernel
theorem eX9_readRow_56 : decode MX9_readRow.2.1 56 = .ok (.aload_n 1, 1) := by decide +kernel
theorem eX9_readRow_57 : decode MX9_readRow.2.1 57 = .ok (.getfield 58, 3) := by decide +kernel
theorem eX9_readRow_60 : decode MX9_readRow.2.1 60 = .ok (.invokevirtual 62, 3) := by decide +kernel
theorem eX9_readRow_63 : decode MX9_readRow.2.1 63 = .ok (.iload_n 3, 1) := by decide +kernel
theorem eX9_readRow_64 : decode MX9_readRow.2.1 64 = .ok (.iconst (-1), 1) := by decide +kernel
theorem eX9_readRow_65 : decode MX9_readRow.2.1 65 = .ok (.ixor, 1) := by decide +kernel
theorem eX9_readRow_66 : decode MX9_readRow.2.1 66 = .ok (.iand, 1) := by decide +kernel
theorem eX9_readRow_67 : decode MX9_readRow.2.1 67 = .ok (.aload_n 0, 1) := by decide +kernel
theorem eX9_readRow_68 : decode MX9_readRow.2.1 68 = .ok (.getfield 35, 3) := by decide +kernel
theorem eX9_readRow_71 : decode MX9_readRow.2.1 71 = .ok (.iushr, 1) := by decide +kernel
theorem eX9_readRow_72 : decode MX9_readRow.2.1 72 = .ok (.iconst 1, 1) := by decide +kernel
theorem eX9_readRow_73 : decode MX9_readRow.2.1 73 = .ok (.iand, 1) := by decide +kernel
theorem eX9_readRow_74 : decode MX9_readRow.2.1 74 = .ok (.ifCond .ne 9, 3) := by decide +kernel
theorem eX9_readRow_77 : decode MX9_readRow.2.1 77 = .ok (.aload_n 0, 1) := by decide +kernel
theorem eX9_readRow_78 : decode MX9_readRow.2.1 78 = .ok (.iconst 4, 1) := by decide +kernel
theorem eX9_readRow_79 : decode MX9_readRow.2.1 79 = .ok (.invokevirtual 38, 3) := by decide +kernel
theorem eX9_readRow_82 : decode MX9_readRow.2.1 82 = .ok (.ireturn, 1) := by decide +kernel
theorem eX9_readRow_83 : decode MX9_readRow.2.1 83 = .ok (.iload_n 3, 1) := by decide +kernel
theorem eX9_readRow_84 : decode MX9_readRow.2.1 84 = .ok (.iconst 1, 1) := by decide +kernel
theorem eX9_readRow_85 : decode MX9_readRow.2.1 85 = .ok (.aload_n 0, 1) := by decide +kernel
theorem eX9_readRow_86 : decode MX9_readRow.2.1 86 = .ok (.getfield 35, 3) := by decide +kernel
theorem eX9_readRow_89 : decode MX9_readRow.2.1 89 = .ok (.ishl, 1) := by decide +kernel
theorem eX9_readRow_90 : decode MX9_readRow.2.1 90 = .ok (.ior, 1) := by decide +kernel
theorem eX9_readRow_91 : decode MX9_readRow.2.1 91 = .ok (.istore_n 3, 1) := by decide +kernel
theorem eX9_readRow_92 : decode MX9_readRow.2.1 92 = .ok (.aload_n 0, 1) := by decide +kernel
theorem eX9_readRow_93 : decode MX9_readRow.2.1 93 = .ok (.invokevirtual 25, 3) := by decide +kernel
theorem eX9_readRow_96 : decode MX9_readRow.2.1 96 = .ok (.aload_n 0, 1) := by decide +kernel
theorem eX9_readRow_97 : decode MX9_readRow.2.1 97 = .ok (.getfield 28, 3) := by decide +kernel
theorem eX9_readRow_100 : decode MX9_readRow.2.1 100 = .ok (.bipush 59, 2) := by decide +kernel
theorem eX9_readRow_102 : decode MX9_readRow.2.1 102 = .ok (.if_icmp .ne 10, 3) := by decide +kernel
theorem eX9_readRow_105 : decode MX9_readRow.2.1 105 = .ok (.aload_n 1, 1) := by decide +kernel
theorem eX9_readRow_106 : decode MX9_readRow.2.1 106 = .ok (.iload_n 3, 1) := by decide +kernel
theorem eX9_readRow_107 : decode MX9_readRow.2.1 107 = .ok (.invokevirtual 68, 3) := by decide +kernel
theorem eX9_readRow_110 : decode MX9_readRow.2.1 110 = .ok (.iconst 1, 1) := by decide +kernel
theorem eX9_readRow_111 : decode MX9_readRow.2.1 111 = .ok (.ireturn, 1) := by decide +kernel
theorem eX9_readRow_112 : decode MX9_readRow.2.1 112 = .ok (.aload_n 0, 1) := by decide +kernel
theorem eX9_readRow_113 : decode MX9_readRow.2.1 113 = .ok (.getfield 28, 3) := by decide +kernel
theorem eX9_readRow_116 : decode MX9_readRow.2.1 116 = .ok (.bipush 44, 2) := by decide +kernel
theorem eX9_readRow_118 : decode MX9_readRow.2.1 118 = .ok (.if_icmp .eq 8, 3) := by decide +kernel
theorem eX9_readRow_121 : decode MX9_readRow.2.1 121 = .ok (.aload_n 0, 1) := by decide +kernel
theorem eX9_readRow_122 : decode MX9_readRow.2.1 122 = .ok (.invokevirtual 31, 3) := by decide +kernel
theorem eX9_readRow_125 : decode MX9_readRow.2.1 125 = .ok (.ireturn, 1) := by decide +kernel
theorem eX9_readRow_126 : decode MX9_readRow.2.1 126 = .ok (.aload_n 0, 1) := by decide +kernel
theorem eX9_readRow_127 : decode MX9_readRow.2.1 127 = .ok (.invokevirtual 25, 3) := by decide +kernel
theorem eX9_readRow_130 : decode MX9_readRow.2.1 130 = .ok (.iinc 4 1, 3) := by decide +kernel
theorem eX9_readRow_133 : decode MX9_readRow.2.1 133 = .ok (.goto (-128), 3) := by decide +kernel
theorem eX9_readRow_136 : decode MX9_readRow.2.1 136 = .ok (.aload_n 0, 1) := by decide +kernel
theorem eX9_readRow_137 : decode MX9_readRow.2.1 137 = .ok (.iconst 4, 1) := by decide +kernel
theorem eX9_readRow_138 : decode MX9_readRow.2.1 138 = .ok (.invokevirtual 38, 3) := by decide +kernel
theorem eX9_readRow_141 : decode MX9_readRow.2.1 141 = .ok (.ireturn, 1) := by decide +kernel
set_option maxRecDepth 20000 in
theorem bX9_readRow_0 {d : Nat} {Q : Option Value → St → Prop} (o1 : Nat) (x2 : Int32) (σ : St) (ho1 : kd o1 = 5) 
    (k1 : Run MX9_readRow (d + 3) 5 [some (.ref 2), some (.ref o1), some (.int x2), some (.int 0), some (.int 0)] [] σ Q)
    : Run MX9_readRow (d + 3) 0 [some (.ref 2), some (.ref o1), some (.int x2), none, none] [] σ Q := by
  refine (go_iconst (v := 0) eX9_readRow_0 rfl).run ?_
  refine (go_istore_n 3 (L' := [some (.ref 2), some (.ref o1), some (.int x2), some (.int 0), none]) eX9_readRow_1 rfl (Nat.le_of_ble_eq_true rfl) rfl).run ?_
  refine (go_iconst (v := 0) eX9_readRow_2 rfl).run ?_
  refine (go_istore 4 (L' := [some (.ref 2), some (.ref o1), some (.int x2), some (.int 0), some (.int 0)]) eX9_readRow_3 (Nat.le_of_ble_eq_true rfl) rfl).run ?_
  exact k1

set_option maxRecDepth 20000 in
theorem bX9_readRow_5 {d : Nat} {Q : Option Value → St → Prop} (o1 : Nat) (x2 : Int32) (x3 : Int32) (x4 : Int32) (σ : St) (ho1 : kd o1 = 5) 
    (k1 : (240 : Int32) ≤ x4 → Q (some (.int (bI (False)))) (sX9_refuse (4 : Int32) σ))
    (k2 : x4 < 240 → (σ.1 2 4) = (-2) → x2 < 32 → (σ.1 2 6) < (σ.1 o1 0) → Ct yX8_openPlaces MX8_openPlaces (d + 2) [.ref (gr o1 2)] σ (fun v σ1 => Run MX9_readRow (d + 3) 63 [some (.ref 2), some (.ref o1), some (.int x2), some (.int x3), some (.int x4)] (v.toList ++ []) σ1 Q))
    (k3 : x4 < 240 → (σ.1 2 4) = (-2) → x2 < 32 → (σ.1 o1 0) ≤ (σ.1 2 6) → Q (some (.int (bI (False)))) (sX9_refuse (3 : Int32) σ))
    (k4 : x4 < 240 → (σ.1 2 4) = (-2) → (32 : Int32) ≤ x2 → Q (some (.int (bI (False)))) (sX9_refuse (5 : Int32) σ))
    (k5 : x4 < 240 → ¬ (σ.1 2 4) = (-2) → Q (some (.int (bI (False)))) (sX9_refuseToken  σ))
    : Run MX9_readRow (d + 3) 5 [some (.ref 2), some (.ref o1), some (.int x2), some (.int x3), some (.int x4)] [] σ Q := by
  refine (go_iload 4 eX9_readRow_5 rfl).run ?_
  refine (go_sipush (v := 240) eX9_readRow_7 rfl).run ?_
  refine (bi_ge 136 eX9_readRow_10 rfl).run (fun h1 => ?_) (fun h1 => ?_)
  · refine (go_aload_n 0 eX9_readRow_136 rfl rfl).run ?_
    refine (go_iconst (v := 4) eX9_readRow_137 rfl).run ?_
    refine Run.callV1 (d := (d + 2)) (As := [.int 4]) (r := .int (bI (False))) mX9_refuse lkX9_38 kd_2 (by decide) rfl rfl rfl rfl rfl (Nat.le_of_ble_eq_true rfl) eX9_readRow_138 (qX9_refuse (d + 2) (4 : Int32) σ  ) ?_
    exact Run.ret (v := some (.int (bI (False)))) (k1 h1) ⟨Or.inr ⟨rfl, bI_01⟩, eX9_readRow_141⟩ rfl
  · refine (go_aload_n 0 eX9_readRow_13 rfl rfl).run ?_
    refine (go_geti flX9_28 rf_8_4 kd_2 eX9_readRow_14).run ?_
    refine (go_bipush (v := -2) eX9_readRow_17 rfl).run ?_
    refine (bi_eq 27 eX9_readRow_19 rfl).run (fun h2 => ?_) (fun h2 => ?_)
    · refine (go_iload_n 2 eX9_readRow_27 rfl rfl).run ?_
      refine (go_bipush (v := 32) eX9_readRow_28 rfl).run ?_
      refine (bi_lt 39 eX9_readRow_30 rfl).run (fun h3 => ?_) (fun h3 => ?_)
      · refine (go_aload_n 0 eX9_readRow_39 rfl rfl).run ?_
        refine (go_geti flX9_35 rf_8_6 kd_2 eX9_readRow_40).run ?_
        refine (go_aload_n 1 eX9_readRow_43 rfl rfl).run ?_
        refine (go_geti flX9_55 rf_5_0 ho1 eX9_readRow_44).run ?_
        refine (bi_lt 56 eX9_readRow_47 rfl).run (fun h4 => ?_) (fun h4 => ?_)
        · refine (go_aload_n 1 eX9_readRow_56 rfl rfl).run ?_
          refine (go_getr (r := gr o1 2) flX9_58 rf_5_2 ho1 rfl eX9_readRow_57).run ?_
          exact Run.callV (d := (d + 2)) (As := []) mX8_openPlaces lkX9_62 (kf_5_2 ho1).1 (by decide) rfl rfl rfl rfl rfl (Nat.le_of_ble_eq_true rfl) eX9_readRow_60 (k2 h1 h2 h3 h4)
        · refine (go_aload_n 0 eX9_readRow_50 rfl rfl).run ?_
          refine (go_iconst (v := 3) eX9_readRow_51 rfl).run ?_
          refine Run.callV1 (d := (d + 2)) (As := [.int 3]) (r := .int (bI (False))) mX9_refuse lkX9_38 kd_2 (by decide) rfl rfl rfl rfl rfl (Nat.le_of_ble_eq_true rfl) eX9_readRow_52 (qX9_refuse (d + 2) (3 : Int32) σ  ) ?_
          exact Run.ret (v := some (.int (bI (False)))) (k3 h1 h2 h3 h4) ⟨Or.inr ⟨rfl, bI_01⟩, eX9_readRow_55⟩ rfl
      · refine (go_aload_n 0 eX9_readRow_33 rfl rfl).run ?_
        refine (go_iconst (v := 5) eX9_readRow_34 rfl).run ?_
        refine Run.callV1 (d := (d + 2)) (As := [.int 5]) (r := .int (bI (False))) mX9_refuse lkX9_38 kd_2 (by decide) rfl rfl rfl rfl rfl (Nat.le_of_ble_eq_true rfl) eX9_readRow_35 (qX9_refuse (d + 2) (5 : Int32) σ  ) ?_
        exact Run.ret (v := some (.int (bI (False)))) (k4 h1 h2 h3) ⟨Or.inr ⟨rfl, bI_01⟩, eX9_readRow_38⟩ rfl
    · refine (go_aload_n 0 eX9_readRow_22 rfl rfl).run ?_
      refine Run.callV1 (d := (d + 2)) (As := []) (r := .int (bI (False))) mX9_refuseToken lkX9_31 kd_2 (by decide) rfl rfl rfl rfl rfl (Nat.le_of_ble_eq_true rfl) eX9_readRow_23 (qX9_refuseToken (d + 1)  σ  ) ?_
      exact Run.ret (v := some (.int (bI (False)))) (k5 h1 h2) ⟨Or.inr ⟨rfl, bI_01⟩, eX9_readRow_26⟩ rfl

set_option maxRecDepth 20000 in
theorem bX9_readRow_63 {d : Nat} {Q : Option Value → St → Prop} (o1 : Nat) (x2 : Int32) (x3 : Int32) (x4 : Int32) (s0 : Int32) (σ : St) (ho1 : kd o1 = 5) 
    (k1 : ¬ ((((s0 &&& (x3 ^^^ (-1))).toUInt32 >>> ((σ.1 2 6).toUInt32 &&& Int32.toUInt32 31)).toInt32) &&& 1) = 0 → Ct yX9_readToken MX9_readToken (d + 2) [.ref 2] σ (fun v σ1 => Run MX9_readRow (d + 3) 96 [some (.ref 2), some (.ref o1), some (.int x2), some (.int (x3 ||| ((1 : Int32) <<< ((σ.1 2 6) &&& 31)))), some (.int x4)] (v.toList ++ []) σ1 Q))
    (k2 : ((((s0 &&& (x3 ^^^ (-1))).toUInt32 >>> ((σ.1 2 6).toUInt32 &&& Int32.toUInt32 31)).toInt32) &&& 1) = 0 → Q (some (.int (bI (False)))) (sX9_refuse (4 : Int32) σ))
    : Run MX9_readRow (d + 3) 63 [some (.ref 2), some (.ref o1), some (.int x2), some (.int x3), some (.int x4)] [.int s0] σ Q := by
  refine (go_iload_n 3 eX9_readRow_63 rfl rfl).run ?_
  refine (go_iconst (v := -1) eX9_readRow_64 rfl).run ?_
  refine (go_ixor eX9_readRow_65).run ?_
  refine (go_iand eX9_readRow_66).run ?_
  refine (go_aload_n 0 eX9_readRow_67 rfl rfl).run ?_
  refine (go_geti flX9_35 rf_8_6 kd_2 eX9_readRow_68).run ?_
  refine (go_iushr eX9_readRow_71).run ?_
  refine (go_iconst (v := 1) eX9_readRow_72 rfl).run ?_
  refine (go_iand eX9_readRow_73).run ?_
  refine (bz_ne 83 eX9_readRow_74 rfl).run (fun h1 => ?_) (fun h1 => ?_)
  · refine (go_iload_n 3 eX9_readRow_83 rfl rfl).run ?_
    refine (go_iconst (v := 1) eX9_readRow_84 rfl).run ?_
    refine (go_aload_n 0 eX9_readRow_85 rfl rfl).run ?_
    refine (go_geti flX9_35 rf_8_6 kd_2 eX9_readRow_86).run ?_
    refine (go_ishl eX9_readRow_89).run ?_
    refine (go_ior eX9_readRow_90).run ?_
    refine (go_istore_n 3 (L' := [some (.ref 2), some (.ref o1), some (.int x2), some (.int (x3 ||| ((1 : Int32) <<< ((σ.1 2 6) &&& 31)))), some (.int x4)]) eX9_readRow_91 rfl (Nat.le_of_ble_eq_true rfl) rfl).run ?_
    refine (go_aload_n 0 eX9_readRow_92 rfl rfl).run ?_
    exact Run.callV (d := (d + 2)) (As := []) mX9_readToken lkX9_25 kd_2 (by decide) rfl rfl rfl rfl rfl (Nat.le_of_ble_eq_true rfl) eX9_readRow_93 (k1 h1)
  · refine (go_aload_n 0 eX9_readRow_77 rfl rfl).run ?_
    refine (go_iconst (v := 4) eX9_readRow_78 rfl).run ?_
    refine Run.callV1 (d := (d + 2)) (As := [.int 4]) (r := .int (bI (False))) mX9_refuse lkX9_38 kd_2 (by decide) rfl rfl rfl rfl rfl (Nat.le_of_ble_eq_true rfl) eX9_readRow_79 (qX9_refuse (d + 2) (4 : Int32) σ  ) ?_
    exact Run.ret (v := some (.int (bI (False)))) (k2 h1) ⟨Or.inr ⟨rfl, bI_01⟩, eX9_readRow_82⟩ rfl

set_option maxRecDepth 20000 in
theorem bX9_readRow_96 {d : Nat} {Q : Option Value → St → Prop} (o1 : Nat) (x2 : Int32) (x3 : Int32) (x4 : Int32) (σ : St) (ho1 : kd o1 = 5) 
    (k1 : ¬ (σ.1 2 4) = 59 → (σ.1 2 4) = 44 → Ct yX9_readToken MX9_readToken (d + 2) [.ref 2] σ (fun v σ1 => Run MX9_readRow (d + 3) 130 [some (.ref 2), some (.ref o1), some (.int x2), some (.int x3), some (.int x4)] (v.toList ++ []) σ1 Q))
    (k2 : ¬ (σ.1 2 4) = 59 → ¬ (σ.1 2 4) = 44 → Q (some (.int (bI (False)))) (sX9_refuseToken  σ))
    (k3 : (σ.1 2 4) = 59 → Ct yX6_addRow MX6_addRow (d + 2) [.ref o1, .int x3] σ (fun v σ1 => Run MX9_readRow (d + 3) 110 [none, none, none, none, none] (v.toList ++ []) σ1 Q))
    : Run MX9_readRow (d + 3) 96 [some (.ref 2), some (.ref o1), some (.int x2), some (.int x3), some (.int x4)] [] σ Q := by
  refine (go_aload_n 0 eX9_readRow_96 rfl rfl).run ?_
  refine (go_geti flX9_28 rf_8_4 kd_2 eX9_readRow_97).run ?_
  refine (go_bipush (v := 59) eX9_readRow_100 rfl).run ?_
  refine (bi_ne 112 eX9_readRow_102 rfl).run (fun h1 => ?_) (fun h1 => ?_)
  · refine (go_aload_n 0 eX9_readRow_112 rfl rfl).run ?_
    refine (go_geti flX9_28 rf_8_4 kd_2 eX9_readRow_113).run ?_
    refine (go_bipush (v := 44) eX9_readRow_116 rfl).run ?_
    refine (bi_eq 126 eX9_readRow_118 rfl).run (fun h2 => ?_) (fun h2 => ?_)
    · refine (go_aload_n 0 eX9_readRow_126 rfl rfl).run ?_
      exact Run.callV (d := (d + 2)) (As := []) mX9_readToken lkX9_25 kd_2 (by decide) rfl rfl rfl rfl rfl (Nat.le_of_ble_eq_true rfl) eX9_readRow_127 (k1 h1 h2)
    · refine (go_aload_n 0 eX9_readRow_121 rfl rfl).run ?_
      refine Run.callV1 (d := (d + 2)) (As := []) (r := .int (bI (False))) mX9_refuseToken lkX9_31 kd_2 (by decide) rfl rfl rfl rfl rfl (Nat.le_of_ble_eq_true rfl) eX9_readRow_122 (qX9_refuseToken (d + 1)  σ  ) ?_
      exact Run.ret (v := some (.int (bI (False)))) (k2 h1 h2) ⟨Or.inr ⟨rfl, bI_01⟩, eX9_readRow_125⟩ rfl
  · refine (go_aload_n 1 eX9_readRow_105 rfl rfl).run ?_
    refine (go_iload_n 3 eX9_readRow_106 rfl rfl).run ?_
    refine (go_sub (L' := [none, none, none, none, none]) (lsub_drop (lsub_drop (lsub_drop (lsub_drop (lsub_drop lsub_nil)))))).run ?_
    exact Run.callV (d := (d + 2)) (As := [.int x3]) mX6_addRow lkX9_68 ho1 (by decide) rfl rfl rfl rfl rfl (Nat.le_of_ble_eq_true rfl) eX9_readRow_107 (k3 h1)

set_option maxRecDepth 20000 in
theorem bX9_readRow_130 {d : Nat} {Q : Option Value → St → Prop} (o1 : Nat) (x2 : Int32) (x3 : Int32) (x4 : Int32) (σ : St) (ho1 : kd o1 = 5) 
    (k1 : Run MX9_readRow (d + 3) 5 [some (.ref 2), some (.ref o1), some (.int x2), some (.int x3), some (.int (x4 + 1))] [] σ Q)
    : Run MX9_readRow (d + 3) 130 [some (.ref 2), some (.ref o1), some (.int x2), some (.int x3), some (.int x4)] [] σ Q := by
  refine (go_iinc 4 (v := (x4 + 1)) (L' := [some (.ref 2), some (.ref o1), some (.int x2), some (.int x3), some (.int (x4 + 1))]) eX9_readRow_130 rfl rfl (Nat.le_of_ble_eq_true rfl) rfl).run ?_
  refine (go_goto 5 eX9_readRow_133 rfl).run ?_
  exact k1

set_option maxRecDepth 20000 in
theorem bX9_readRow_110 {d : Nat} {Q : Option Value → St → Prop} (σ : St) 
    (k1 : Q (some (.int 1)) σ)
    : Run MX9_readRow (d + 3) 110 [none, none, none, none, none] [] σ Q := by
  refine (go_iconst (v := 1) eX9_readRow_110 rfl).run ?_
  exact Run.ret (v := some (.int 1)) k1 ⟨Or.inr ⟨rfl, Or.inr rfl⟩, eX9_readRow_111⟩ rfl

/-! CarryNets$Tape.tells -/
theorem eX9_tells_0 : decode MX9_tells.2.1 0 = .ok (.aload_n 0, 1) := by decide +kernel
theorem eX9_tells_1 : decode MX9_tells.2.1 1 = .ok (.iconst 0, 1) := by decide +kernel
theorem eX9_tells_2 : decode MX9_tells.2.1 2 = .ok (.putfield 19, 3) := by decide +kernel
theorem eX9_tells_5 : decode MX9_tells.2.1 5 = .ok (.aload_n 0, 1) := by decide +kernel
theorem eX9_tells_6 : decode MX9_tells.2.1 6 = .ok (.iconst 0, 1) := by decide +kernel
theorem eX9_tells_7 : decode MX9_tells.2.1 7 = .ok (.putfield 22, 3) := by decide +kernel
theorem eX9_tells_10 : decode MX9_tells.2.1 10 = .ok (.aload_n 0, 1) := by decide +kernel
theorem eX9_tells_11 : decode MX9_tells.2.1 11 = .ok (.invokevirtual 25, 3) := by decide +kernel
theorem eX9_tells_14 : decode MX9_tells.2.1 14 = .ok (.aload_n 0, 1) := by decide +kernel
theorem eX9_tells_15 : decode MX9_tells.2.1 15 = .ok (.getfield 28, 3) := by decide +kernel
theorem eX9_tells_18 : decode MX9_tells.2.1 18 = .ok (.bipush (-2), 2) := by decide +kernel
theorem eX9_tells_20 : decode MX9_tells.2.1 20 = .ok (.if_icmp .eq 8, 3) := by decide +kernel
theorem eX9_tells_23 : decode MX9_tells.2.1 23 = .ok (.aload_n 0, 1) := by decide +kernel
theorem eX9_tells_24 : decode MX9_tells.2.1 24 = .ok (.invokevirtual 31, 3) := by decide +kernel
theorem eX9_tells_27 : decode MX9_tells.2.1 27 = .ok (.ireturn, 1) := by decide +kernel
theorem eX9_tells_28 : decode MX9_tells.2.1 28 = .ok (.aload_n 0, 1) := by decide +kernel
theorem eX9_tells_29 : decode MX9_tells.2.1 29 = .ok (.getfield 35, 3) := by decide +kernel
theorem eX9_tells_32 : decode MX9_tells.2.1 32 = .ok (.iconst 2, 1) := by decide +kernel
theorem eX9_tells_33 : decode MX9_tells.2.1 33 = .ok (.if_icmp .lt 12, 3) := by decide +kernel
theorem eX9_tells_36 : decode MX9_tells.2.1 36 = .ok (.aload_n 0, 1) := by decide +kernel
theorem eX9_tells_37 : decode MX9_tells.2.1 37 = .ok (.getfield 35, 3) := by decide +kernel
theorem eX9_tells_40 : decode MX9_tells.2.1 40 = .ok (.bipush 32, 2) := by decide +kernel
theorem eX9_tells_42 : decode MX9_tells.2.1 42 = .ok (.if_icmp .le 9, 3) := by decide +kernel
theorem eX9_tells_45 : decode MX9_tells.2.1 45 = .ok (.aload_n 0, 1) := by decide +kernel
theorem eX9_tells_46 : decode MX9_tells.2.1 46 = .ok (.iconst 3, 1) := by decide +kernel
theorem eX9_tells_47 : decode MX9_tells.2.1 47 = .ok (.invokevirtual 38, 3) := by decide +kernel
theorem eX9_tells_50 : decode MX9_tells.2.1 50 = .ok (.ireturn, 1) := by decide +kernel
theorem eX9_tells_51 : decode MX9_tells.2.1 51 = .ok (.aload_n 1, 1) := by decide +kernel
theorem eX9_tells_52 : decode MX9_tells.2.1 52 = .ok (.aload_n 0, 1) := by decide +kernel
theorem eX9_tells_53 : decode MX9_tells.2.1 53 = .ok (.getfield 35, 3) := by decide +kernel
theorem eX9_tells_56 : decode MX9_tells.2.1 56 = .ok (.invokevirtual 42, 3) := by decide +kernel
theorem eX9_tells_59 : decode MX9_tells.2.1 59 = .ok (.aload_n 0, 1) := by decide +kernel
theorem eX9_tells_60 : decode MX9_tells.2.1 60 = .ok (.invokevirtual 25, 3) := by decide +kernel
theorem eX9_tells_63 : decode MX9_tells.2.1 63 = .ok (.aload_n 0, 1) := by decide +kernel
theorem eX9_tells_64 : decode MX9_tells.2.1 64 = .ok (.getfield 28, 3) := by decide +kernel
theorem eX9_tells_67 : decode MX9_tells.2.1 67 = .ok (.bipush 58, 2) := by decide +kernel
theorem eX9_tells_69 : decode MX9_tells.2.1 69 = .ok (.if_icmp .eq 8, 3) := by decide +kernel
theorem eX9_tells_72 : decode MX9_tells.2.1 72 = .ok (.aload_n 0, 1) := by decide +kernel
theorem eX9_tells_73 : decode MX9_tells.2.1 73 = .ok (.invokevirtual 31, 3) := by decide +kernel
theorem eX9_tells_76 : decode MX9_tells.2.1 76 = .ok (.ireturn, 1) := by decide +kernel
theorem eX9_tells_77 : decode MX9_tells.2.1 77 = .ok (.iconst 0, 1) := by decide +kernel
theorem eX9_tells_78 : decode MX9_tells.2.1 78 = .ok (.istore_n 2, 1) := by decide +kernel
theorem eX9_tells_79 : decode MX9_tells.2.1 79 = .ok (.iload_n 2, 1) := by decide +kernel
theorem eX9_tells_80 : decode MX9_tells.2.1 80 = .ok (.bipush 32, 2) := by decide +kernel
theorem eX9_tells_82 : decode MX9_tells.2.1 82 = .ok (.if_icmp .gt 34, 3) := by decide +kernel
theorem eX9_tells_85 : decode MX9_tells.2.1 85 = .ok (.aload_n 0, 1) := by decide +kernel
theorem eX9_tells_86 : decode MX9_tells.2.1 86 = .ok (.invokevirtual 25, 3) := by decide +kernel
theorem eX9_tells_89 : decode MX9_tells.2.1 89 = .ok (.aload_n 0, 1) := by decide +kernel
theorem eX9_tells_90 : decode MX9_tells.2.1 90 = .ok (.getfield 28, 3) := by decide +kernel
theorem eX9_tells_93 : decode MX9_tells.2.1 93 = .ok (.iconst (-1), 1) := by decide +kernel
theorem eX9_tells_94 : decode MX9_tells.2.1 94 = .ok (.if_icmp .ne 5, 3) := by decide +kernel
theorem eX9_tells_97 : decode MX9_tells.2.1 97 = .ok (.iconst 1, 1) := by decide +kernel
theorem eX9_tells_98 : decode MX9_tells.2.1 98 = .ok (.ireturn, 1) := by decide +kernel
theorem eX9_tells_99 : decode MX9_tells.2.1 99 = .ok (.aload_n 0, 1) := by decide +kernel
theorem eX9_tells_100 : decode MX9_tells.2.1 100 = .ok (.aload_n 1, 1) := by decide +kernel
theorem eX9_tells_101 : decode MX9_tells.2.1 101 = .ok (.iload_n 2, 1) := by decide +kernel
theorem eX9_tells_102 : decode MX9_tells.2.1 102 = .ok (.invokevirtual 48, 3) := by decide +kernel
theorem eX9_tells_105 : decode MX9_tells.2.1 105 = .ok (.ifCond .ne 5, 3) := by decide +kernel
theorem eX9_tells_108 : decode MX9_tells.2.1 108 = .ok (.iconst 0, 1) := by decide +kernel
theorem eX9_tells_109 : decode MX9_tells.2.1 109 = .ok (.ireturn, 1) := by decide +kernel
theorem eX9_tells_110 : decode MX9_tells.2.1 110 = .ok (.iinc 2 1, 3) := by decide +kernel
theorem eX9_tells_113 : decode MX9_tells.2.1 113 = .ok (.goto (-34), 3) := by decide +kernel
theorem eX9_tells_116 : decode MX9_tells.2.1 116 = .ok (.aload_n 0, 1) := by decide +kernel
theorem eX9_tells_117 : decode MX9_tells.2.1 117 = .ok (.iconst 5, 1) := by decide +kernel
theorem eX9_tells_118 : decode MX9_tells.2.1 118 = .ok (.invokevirtual 38, 3) := by decide +kernel
theorem eX9_tells_121 : decode MX9_tells.2.1 121 = .ok (.ireturn, 1) := by decide +kernel
set_option maxRecDepth 20000 in
theorem bX9_tells_0 {d : Nat} {Q : Option Value → St → Prop} (o1 : Nat) (σ : St) (ho1 : kd o1 = 5) 
    (k1 : Ct yX9_readToken MX9_readToken (d + 3) [.ref 2] (sA (sA σ 2 (upd (σ.1 2) 1 0)) 2 (upd (upd (σ.1 2) 1 0) 3 0)) (fun v σ1 => Run MX9_tells (d + 4) 14 [some (.ref 2), some (.ref o1), none] (v.toList ++ []) σ1 Q))
    : Run MX9_tells (d + 4) 0 [some (.ref 2), some (.ref o1), none] [] σ Q := by
  refine (go_aload_n 0 eX9_tells_0 rfl rfl).run ?_
  refine (go_iconst (v := 0) eX9_tells_1 rfl).run ?_
  refine (go_puti flX9_19 rf_8_1 rfl pf_8_1 rfl rfl kd_2 eX9_tells_2).run ?_
  refine (go_aload_n 0 eX9_tells_5 rfl rfl).run ?_
  refine (go_iconst (v := 0) eX9_tells_6 rfl).run ?_
  refine (go_puti flX9_22 rf_8_3 rfl pf_8_3 rfl rfl kd_2 eX9_tells_7).run ?_
  refine (go_aload_n 0 eX9_tells_10 rfl rfl).run ?_
  exact Run.callV (d := (d + 3)) (As := []) mX9_readToken lkX9_25 kd_2 (by decide) rfl rfl rfl rfl rfl (Nat.le_of_ble_eq_true rfl) eX9_tells_11 k1

set_option maxRecDepth 20000 in
theorem bX9_tells_14 {d : Nat} {Q : Option Value → St → Prop} (o1 : Nat) (σ : St) (ho1 : kd o1 = 5) 
    (k1 : (σ.1 2 4) = (-2) → (σ.1 2 6) < 2 → Q (some (.int (bI (False)))) (sX9_refuse (3 : Int32) σ))
    (k2 : (σ.1 2 4) = (-2) → (2 : Int32) ≤ (σ.1 2 6) → (σ.1 2 6) ≤ 32 → Ct yX6_begin MX6_begin (d + 3) [.ref o1, .int (σ.1 2 6)] σ (fun v σ1 => Run MX9_tells (d + 4) 59 [some (.ref 2), some (.ref o1), none] (v.toList ++ []) σ1 Q))
    (k3 : (σ.1 2 4) = (-2) → (2 : Int32) ≤ (σ.1 2 6) → (32 : Int32) < (σ.1 2 6) → Q (some (.int (bI (False)))) (sX9_refuse (3 : Int32) σ))
    (k4 : ¬ (σ.1 2 4) = (-2) → Q (some (.int (bI (False)))) (sX9_refuseToken  σ))
    : Run MX9_tells (d + 4) 14 [some (.ref 2), some (.ref o1), none] [] σ Q := by
  refine (go_aload_n 0 eX9_tells_14 rfl rfl).run ?_
  refine (go_geti flX9_28 rf_8_4 kd_2 eX9_tells_15).run ?_
  refine (go_bipush (v := -2) eX9_tells_18 rfl).run ?_
  refine (bi_eq 28 eX9_tells_20 rfl).run (fun h1 => ?_) (fun h1 => ?_)
  · refine (go_aload_n 0 eX9_tells_28 rfl rfl).run ?_
    refine (go_geti flX9_35 rf_8_6 kd_2 eX9_tells_29).run ?_
    refine (go_iconst (v := 2) eX9_tells_32 rfl).run ?_
    refine (bi_lt 45 eX9_tells_33 rfl).run (fun h2 => ?_) (fun h2 => ?_)
    · refine (go_aload_n 0 eX9_tells_45 rfl rfl).run ?_
      refine (go_iconst (v := 3) eX9_tells_46 rfl).run ?_
      refine Run.callV1 (d := (d + 3)) (As := [.int 3]) (r := .int (bI (False))) mX9_refuse lkX9_38 kd_2 (by decide) rfl rfl rfl rfl rfl (Nat.le_of_ble_eq_true rfl) eX9_tells_47 (qX9_refuse (d + 3) (3 : Int32) σ  ) ?_
      exact Run.ret (v := some (.int (bI (False)))) (k1 h1 h2) ⟨Or.inr ⟨rfl, bI_01⟩, eX9_tells_50⟩ rfl
    · refine (go_aload_n 0 eX9_tells_36 rfl rfl).run ?_
      refine (go_geti flX9_35 rf_8_6 kd_2 eX9_tells_37).run ?_
      refine (go_bipush (v := 32) eX9_tells_40 rfl).run ?_
      refine (bi_le 51 eX9_tells_42 rfl).run (fun h3 => ?_) (fun h3 => ?_)
      · refine (go_aload_n 1 eX9_tells_51 rfl rfl).run ?_
        refine (go_aload_n 0 eX9_tells_52 rfl rfl).run ?_
        refine (go_geti flX9_35 rf_8_6 kd_2 eX9_tells_53).run ?_
        exact Run.callV (d := (d + 3)) (As := [.int (σ.1 2 6)]) mX6_begin lkX9_42 ho1 (by decide) rfl rfl rfl rfl rfl (Nat.le_of_ble_eq_true rfl) eX9_tells_56 (k2 h1 h2 h3)
      · refine (go_aload_n 0 eX9_tells_45 rfl rfl).run ?_
        refine (go_iconst (v := 3) eX9_tells_46 rfl).run ?_
        refine Run.callV1 (d := (d + 3)) (As := [.int 3]) (r := .int (bI (False))) mX9_refuse lkX9_38 kd_2 (by decide) rfl rfl rfl rfl rfl (Nat.le_of_ble_eq_true rfl) eX9_tells_47 (qX9_refuse (d + 3) (3 : Int32) σ  ) ?_
        exact Run.ret (v := some (.int (bI (False)))) (k3 h1 h2 h3) ⟨Or.inr ⟨rfl, bI_01⟩, eX9_tells_50⟩ rfl
  · refine (go_aload_n 0 eX9_tells_23 rfl rfl).run ?_
    refine Run.callV1 (d := (d + 3)) (As := []) (r := .int (bI (False))) mX9_refuseToken lkX9_31 kd_2 (by decide) rfl rfl rfl rfl rfl (Nat.le_of_ble_eq_true rfl) eX9_tells_24 (qX9_refuseToken (d + 2)  σ  ) ?_
    exact Run.ret (v := some (.int (bI (False)))) (k4 h1) ⟨Or.inr ⟨rfl, bI_01⟩, eX9_tells_27⟩ rfl

set_option maxRecDepth 20000 in
theorem bX9_tells_59 {d : Nat} {Q : Option Value → St → Prop} (o1 : Nat) (σ : St) (ho1 : kd o1 = 5) 
    (k1 : Ct yX9_readToken MX9_readToken (d + 3) [.ref 2] σ (fun v σ1 => Run MX9_tells (d + 4) 63 [some (.ref 2), some (.ref o1), none] (v.toList ++ []) σ1 Q))
    : Run MX9_tells (d + 4) 59 [some (.ref 2), some (.ref o1), none] [] σ Q := by
  refine (go_aload_n 0 eX9_tells_59 rfl rfl).run ?_
  exact Run.callV (d := (d + 3)) (As := []) mX9_readToken lkX9_25 kd_2 (by decide) rfl rfl rfl rfl rfl (Nat.le_of_ble_eq_true rfl) eX9_tells_60 k1

set_option maxRecDepth 20000 in
theorem bX9_tells_63 {d : Nat} {Q : Option Value → St → Prop} (o1 : Nat) (σ : St) (ho1 : kd o1 = 5) 
    (k1 : (σ.1 2 4) = 58 → Run MX9_tells (d + 4) 79 [some (.ref 2), some (.ref o1), some (.int 0)] [] σ Q)
    (k2 : ¬ (σ.1 2 4) = 58 → Q (some (.int (bI (False)))) (sX9_refuseToken  σ))
    : Run MX9_tells (d + 4) 63 [some (.ref 2), some (.ref o1), none] [] σ Q := by
  refine (go_aload_n 0 eX9_tells_63 rfl rfl).run ?_
  refine (go_geti flX9_28 rf_8_4 kd_2 eX9_tells_64).run ?_
  refine (go_bipush (v := 58) eX9_tells_67 rfl).run ?_
  refine (bi_eq 77 eX9_tells_69 rfl).run (fun h1 => ?_) (fun h1 => ?_)
  · refine (go_iconst (v := 0) eX9_tells_77 rfl).run ?_
    refine (go_istore_n 2 (L' := [some (.ref 2), some (.ref o1), some (.int 0)]) eX9_tells_78 rfl (Nat.le_of_ble_eq_true rfl) rfl).run ?_
    exact (k1 h1)
  · refine (go_aload_n 0 eX9_tells_72 rfl rfl).run ?_
    refine Run.callV1 (d := (d + 3)) (As := []) (r := .int (bI (False))) mX9_refuseToken lkX9_31 kd_2 (by decide) rfl rfl rfl rfl rfl (Nat.le_of_ble_eq_true rfl) eX9_tells_73 (qX9_refuseToken (d + 2)  σ  ) ?_
    exact Run.ret (v := some (.int (bI (False)))) (k2 h1) ⟨Or.inr ⟨rfl, bI_01⟩, eX9_tells_76⟩ rfl

set_option maxRecDepth 20000 in
theorem bX9_tells_79 {d : Nat} {Q : Option Value → St → Prop} (o1 : Nat) (x2 : Int32) (σ : St) (ho1 : kd o1 = 5) 
    (k1 : (32 : Int32) < x2 → Q (some (.int (bI (False)))) (sX9_refuse (5 : Int32) σ))
    (k2 : x2 ≤ 32 → Ct yX9_readToken MX9_readToken (d + 3) [.ref 2] σ (fun v σ1 => Run MX9_tells (d + 4) 89 [some (.ref 2), some (.ref o1), some (.int x2)] (v.toList ++ []) σ1 Q))
    : Run MX9_tells (d + 4) 79 [some (.ref 2), some (.ref o1), some (.int x2)] [] σ Q := by
  refine (go_iload_n 2 eX9_tells_79 rfl rfl).run ?_
  refine (go_bipush (v := 32) eX9_tells_80 rfl).run ?_
  refine (bi_gt 116 eX9_tells_82 rfl).run (fun h1 => ?_) (fun h1 => ?_)
  · refine (go_aload_n 0 eX9_tells_116 rfl rfl).run ?_
    refine (go_iconst (v := 5) eX9_tells_117 rfl).run ?_
    refine Run.callV1 (d := (d + 3)) (As := [.int 5]) (r := .int (bI (False))) mX9_refuse lkX9_38 kd_2 (by decide) rfl rfl rfl rfl rfl (Nat.le_of_ble_eq_true rfl) eX9_tells_118 (qX9_refuse (d + 3) (5 : Int32) σ  ) ?_
    exact Run.ret (v := some (.int (bI (False)))) (k1 h1) ⟨Or.inr ⟨rfl, bI_01⟩, eX9_tells_121⟩ rfl
  · refine (go_aload_n 0 eX9_tells_85 rfl rfl).run ?_
    exact Run.callV (d := (d + 3)) (As := []) mX9_readToken lkX9_25 kd_2 (by decide) rfl rfl rfl rfl rfl (Nat.le_of_ble_eq_true rfl) eX9_tells_86 (k2 h1)

set_option maxRecDepth 20000 in
theorem bX9_tells_89 {d : Nat} {Q : Option Value → St → Prop} (o1 : Nat) (x2 : Int32) (σ : St) (ho1 : kd o1 = 5) 
    (k1 : ¬ (σ.1 2 4) = (-1) → Ct yX9_readRow MX9_readRow (d + 3) [.ref 2, .ref o1, .int x2] σ (fun v σ1 => Run MX9_tells (d + 4) 105 [some (.ref 2), some (.ref o1), some (.int x2)] (v.toList ++ []) σ1 Q))
    (k2 : (σ.1 2 4) = (-1) → Q (some (.int 1)) σ)
    : Run MX9_tells (d + 4) 89 [some (.ref 2), some (.ref o1), some (.int x2)] [] σ Q := by
  refine (go_aload_n 0 eX9_tells_89 rfl rfl).run ?_
  refine (go_geti flX9_28 rf_8_4 kd_2 eX9_tells_90).run ?_
  refine (go_iconst (v := -1) eX9_tells_93 rfl).run ?_
  refine (bi_ne 99 eX9_tells_94 rfl).run (fun h1 => ?_) (fun h1 => ?_)
  · refine (go_aload_n 0 eX9_tells_99 rfl rfl).run ?_
    refine (go_aload_n 1 eX9_tells_100 rfl rfl).run ?_
    refine (go_iload_n 2 eX9_tells_101 rfl rfl).run ?_
    exact Run.callV (d := (d + 3)) (As := [.ref o1, .int x2]) mX9_readRow lkX9_48 kd_2 (by decide) rfl rfl rfl rfl rfl (Nat.le_of_ble_eq_true rfl) eX9_tells_102 (k1 h1)
  · refine (go_iconst (v := 1) eX9_tells_97 rfl).run ?_
    exact Run.ret (v := some (.int 1)) (k2 h1) ⟨Or.inr ⟨rfl, Or.inr rfl⟩, eX9_tells_98⟩ rfl

set_option maxRecDepth 20000 in
theorem bX9_tells_105 {d : Nat} {Q : Option Value → St → Prop} (o1 : Nat) (x2 : Int32) (s0 : Int32) (σ : St) (ho1 : kd o1 = 5) 
    (k1 : ¬ s0 = 0 → Run MX9_tells (d + 4) 79 [some (.ref 2), some (.ref o1), some (.int (x2 + 1))] [] σ Q)
    (k2 : s0 = 0 → Q (some (.int 0)) σ)
    : Run MX9_tells (d + 4) 105 [some (.ref 2), some (.ref o1), some (.int x2)] [.int s0] σ Q := by
  refine (bz_ne 110 eX9_tells_105 rfl).run (fun h1 => ?_) (fun h1 => ?_)
  · refine (go_iinc 2 (v := (x2 + 1)) (L' := [some (.ref 2), some (.ref o1), some (.int (x2 + 1))]) eX9_tells_110 rfl rfl (Nat.le_of_ble_eq_true rfl) rfl).run ?_
    refine (go_goto 79 eX9_tells_113 rfl).run ?_
    exact (k1 h1)
  · refine (go_iconst (v := 0) eX9_tells_108 rfl).run ?_
    exact Run.ret (v := some (.int 0)) (k2 h1) ⟨Or.inr ⟨rfl, Or.inl rfl⟩, eX9_tells_109⟩ rfl

/-! CarryNets$Tape.faultPlace -/
theorem eX9_faultPlace_0 : decode MX9_faultPlace.2.1 0 = .ok (.aload_n 0, 1) := by decide +kernel
theorem eX9_faultPlace_1 : decode MX9_faultPlace.2.1 1 = .ok (.getfield 52, 3) := by decide +kernel
theorem eX9_faultPlace_4 : decode MX9_faultPlace.2.1 4 = .ok (.ireturn, 1) := by decide +kernel
set_option maxRecDepth 20000 in
theorem bX9_faultPlace_0 {d : Nat} {Q : Option Value → St → Prop} (σ : St) 
    (k1 : Q (some (.int (σ.1 2 5))) σ)
    : Run MX9_faultPlace d 0 [some (.ref 2)] [] σ Q := by
  refine (go_aload_n 0 eX9_faultPlace_0 rfl rfl).run ?_
  refine (go_geti flX9_52 rf_8_5 kd_2 eX9_faultPlace_1).run ?_
  exact Run.ret (v := some (.int (σ.1 2 5))) k1 ⟨Or.inl rfl, eX9_faultPlace_4⟩ rfl

theorem qX9_faultPlace (d : Nat) (σ : St) : Ct yX9_faultPlace MX9_faultPlace d [.ref 2] σ (fun v σ1 => v = some (.int (σ.1 2 5)) ∧ σ1 = σ) :=
  Ct.of mX9_faultPlace.1 (Nat.le_of_ble_eq_true rfl) (bX9_faultPlace_0  σ   (⟨by first | rfl | (simp only [true_and, and_true, false_and, and_false, true_or, or_true, false_or, or_false, not_true_eq_false, not_false_eq_true, if_true, if_false]; done) | (simp [bI]; done), by first | rfl | (simp only [true_and, and_true, false_and, and_false, true_or, or_true, false_or, or_false, not_true_eq_false, not_false_eq_true, if_true, if_false]; done) | (simp [bI]; done)⟩))

/-! CarryNets.feed -/
theorem eX10_feed_0 : decode MX10_feed.2.1 0 = .ok (.aload_n 0, 1) := by decide +kernel
theorem eX10_feed_1 : decode MX10_feed.2.1 1 = .ok (.getfield 18, 3) := by decide +kernel
theorem eX10_feed_4 : decode MX10_feed.2.1 4 = .ok (.lload_n 1, 1) := by decide +kernel
theorem eX10_feed_5 : decode MX10_feed.2.1 5 = .ok (.invokevirtual 79, 3) := by decide +kernel
theorem eX10_feed_8 : decode MX10_feed.2.1 8 = .ok (.ifCond .eq 13, 3) := by decide +kernel
theorem eX10_feed_11 : decode MX10_feed.2.1 11 = .ok (.aload_n 0, 1) := by decide +kernel
theorem eX10_feed_12 : decode MX10_feed.2.1 12 = .ok (.getfield 18, 3) := by decide +kernel
theorem eX10_feed_15 : decode MX10_feed.2.1 15 = .ok (.getfield 83, 3) := by decide +kernel
theorem eX10_feed_18 : decode MX10_feed.2.1 18 = .ok (.goto 5, 3) := by decide +kernel
theorem eX10_feed_21 : decode MX10_feed.2.1 21 = .ok (.bipush (-3), 2) := by decide +kernel
theorem eX10_feed_23 : decode MX10_feed.2.1 23 = .ok (.ireturn, 1) := by decide +kernel
set_option maxRecDepth 20000 in
theorem bX10_feed_0 {d : Nat} {Q : Option Value → St → Prop} (x1 : Int64) (σ : St) 
    (k1 : Ct yX9_append MX9_append d [.ref 2, .long x1] σ (fun v σ1 => Run MX10_feed (d + 1) 8 [some (.ref 0), none, none] (v.toList ++ []) σ1 Q))
    : Run MX10_feed (d + 1) 0 [some (.ref 0), some (.long x1), none] [] σ Q := by
  refine (go_aload_n 0 eX10_feed_0 rfl rfl).run ?_
  refine (go_getr flX10_18 rf_9_2 kd_0 gr_0_2 eX10_feed_1).run ?_
  refine (go_lload_n 1 eX10_feed_4 rfl rfl).run ?_
  refine (go_sub (L' := [some (.ref 0), none, none]) (lsub_keep (lsub_drop (lsub_keep lsub_nil)))).run ?_
  exact Run.callV (d := d) (As := [.long x1]) mX9_append lkX10_79 kd_2 (by decide) rfl rfl rfl rfl rfl (Nat.le_of_ble_eq_true rfl) eX10_feed_5 k1

set_option maxRecDepth 20000 in
theorem bX10_feed_8 {d : Nat} {Q : Option Value → St → Prop} (s0 : Int32) (σ : St) 
    (k1 : Q (some (.int (if s0 = 0 then (-3 : Int32) else (σ.1 2 0)))) σ)
    : Run MX10_feed (d + 1) 8 [some (.ref 0), none, none] [.int s0] σ Q := by
  have hJh1 : Run MX10_feed (d + 1) 23 [none, none, none] [.int (if s0 = 0 then (-3 : Int32) else (σ.1 2 0))] σ Q := by
    exact Run.ret (v := some (.int (if s0 = 0 then (-3 : Int32) else (σ.1 2 0)))) k1 ⟨Or.inl rfl, eX10_feed_23⟩ rfl
  refine (bz_eq 21 eX10_feed_8 rfl).run (fun h1 => ?_) (fun h1 => ?_)
  · refine (go_bipush (v := -3) eX10_feed_21 rfl).run ?_
    refine (go_sub (L' := [none, none, none]) (lsub_drop (lsub_keep (lsub_keep lsub_nil)))).run ?_
    first | exact hJh1 | (simp only [if_pos h1] at hJh1; exact hJh1) | (simp only [eq_true h1, not_true_eq_false, true_and, and_true, false_and, and_false, true_or, or_true, false_or, or_false, not_true_eq_false, not_false_eq_true] at hJh1; exact hJh1) | exact Run.eq (by simp [eq_true h1, not_true_eq_false, bI]) (by simp [eq_true h1, not_true_eq_false, bI]) rfl hJh1
  · refine (go_aload_n 0 eX10_feed_11 rfl rfl).run ?_
    refine (go_getr flX10_18 rf_9_2 kd_0 gr_0_2 eX10_feed_12).run ?_
    refine (go_geti flX10_83 rf_8_0 kd_2 eX10_feed_15).run ?_
    refine (go_goto 23 eX10_feed_18 rfl).run ?_
    refine (go_sub (L' := [none, none, none]) (lsub_drop (lsub_keep (lsub_keep lsub_nil)))).run ?_
    first | exact hJh1 | (simp only [if_neg (h1)] at hJh1; exact hJh1) | (simp only [eq_false h1, not_false_eq_true, true_and, and_true, false_and, and_false, true_or, or_true, false_or, or_false, not_true_eq_false, not_false_eq_true] at hJh1; exact hJh1) | exact Run.eq (by simp [eq_false h1, not_false_eq_true, bI]) (by simp [eq_false h1, not_false_eq_true, bI]) rfl hJh1

/-! CarryNets.end -/
theorem eX10_end_0 : decode MX10_end.2.1 0 = .ok (.iload_n 1, 1) := by decide +kernel
theorem eX10_end_1 : decode MX10_end.2.1 1 = .ok (.ifCond .lt 14, 3) := by decide +kernel
theorem eX10_end_4 : decode MX10_end.2.1 4 = .ok (.iload_n 1, 1) := by decide +kernel
theorem eX10_end_5 : decode MX10_end.2.1 5 = .ok (.aload_n 0, 1) := by decide +kernel
theorem eX10_end_6 : decode MX10_end.2.1 6 = .ok (.getfield 18, 3) := by decide +kernel
theorem eX10_end_9 : decode MX10_end.2.1 9 = .ok (.getfield 83, 3) := by decide +kernel
theorem eX10_end_12 : decode MX10_end.2.1 12 = .ok (.if_icmp .le 5, 3) := by decide +kernel
theorem eX10_end_15 : decode MX10_end.2.1 15 = .ok (.iconst (-1), 1) := by decide +kernel
theorem eX10_end_16 : decode MX10_end.2.1 16 = .ok (.ireturn, 1) := by decide +kernel
theorem eX10_end_17 : decode MX10_end.2.1 17 = .ok (.aload_n 0, 1) := by decide +kernel
theorem eX10_end_18 : decode MX10_end.2.1 18 = .ok (.getfield 18, 3) := by decide +kernel
theorem eX10_end_21 : decode MX10_end.2.1 21 = .ok (.getfield 83, 3) := by decide +kernel
theorem eX10_end_24 : decode MX10_end.2.1 24 = .ok (.istore_n 2, 1) := by decide +kernel
theorem eX10_end_25 : decode MX10_end.2.1 25 = .ok (.aload_n 0, 1) := by decide +kernel
theorem eX10_end_26 : decode MX10_end.2.1 26 = .ok (.getfield 18, 3) := by decide +kernel
theorem eX10_end_29 : decode MX10_end.2.1 29 = .ok (.iload_n 1, 1) := by decide +kernel
theorem eX10_end_30 : decode MX10_end.2.1 30 = .ok (.putfield 83, 3) := by decide +kernel
theorem eX10_end_33 : decode MX10_end.2.1 33 = .ok (.iload_n 2, 1) := by decide +kernel
theorem eX10_end_34 : decode MX10_end.2.1 34 = .ok (.ireturn, 1) := by decide +kernel
set_option maxRecDepth 20000 in
theorem bX10_end_0 {d : Nat} {Q : Option Value → St → Prop} (x1 : Int32) (σ : St) 
    (k1 : x1 < 0 → Q (some (.int (-1))) σ)
    (k2 : (0 : Int32) ≤ x1 → x1 ≤ (σ.1 2 0) → Q (some (.int (σ.1 2 0))) (sA σ 2 (upd (σ.1 2) 0 x1)))
    (k3 : (0 : Int32) ≤ x1 → (σ.1 2 0) < x1 → Q (some (.int (-1))) σ)
    : Run MX10_end d 0 [some (.ref 0), some (.int x1), none] [] σ Q := by
  refine (go_iload_n 1 eX10_end_0 rfl rfl).run ?_
  refine (bz_lt 15 eX10_end_1 rfl).run (fun h1 => ?_) (fun h1 => ?_)
  · refine (go_iconst (v := -1) eX10_end_15 rfl).run ?_
    exact Run.ret (v := some (.int (-1))) (k1 h1) ⟨Or.inl rfl, eX10_end_16⟩ rfl
  · refine (go_iload_n 1 eX10_end_4 rfl rfl).run ?_
    refine (go_aload_n 0 eX10_end_5 rfl rfl).run ?_
    refine (go_getr flX10_18 rf_9_2 kd_0 gr_0_2 eX10_end_6).run ?_
    refine (go_geti flX10_83 rf_8_0 kd_2 eX10_end_9).run ?_
    refine (bi_le 17 eX10_end_12 rfl).run (fun h2 => ?_) (fun h2 => ?_)
    · refine (go_aload_n 0 eX10_end_17 rfl rfl).run ?_
      refine (go_getr flX10_18 rf_9_2 kd_0 gr_0_2 eX10_end_18).run ?_
      refine (go_geti flX10_83 rf_8_0 kd_2 eX10_end_21).run ?_
      refine (go_istore_n 2 (L' := [some (.ref 0), some (.int x1), some (.int (σ.1 2 0))]) eX10_end_24 rfl (Nat.le_of_ble_eq_true rfl) rfl).run ?_
      refine (go_aload_n 0 eX10_end_25 rfl rfl).run ?_
      refine (go_getr flX10_18 rf_9_2 kd_0 gr_0_2 eX10_end_26).run ?_
      refine (go_iload_n 1 eX10_end_29 rfl rfl).run ?_
      refine (go_puti flX10_83 rf_8_0 rfl pf_8_0 rfl rfl kd_2 eX10_end_30).run ?_
      refine (go_iload_n 2 eX10_end_33 rfl rfl).run ?_
      exact Run.ret (v := some (.int (σ.1 2 0))) (k2 h1 h2) ⟨Or.inl rfl, eX10_end_34⟩ rfl
    · refine (go_iconst (v := -1) eX10_end_15 rfl).run ?_
      exact Run.ret (v := some (.int (-1))) (k3 h1 h2) ⟨Or.inl rfl, eX10_end_16⟩ rfl

def sX10_end (x1 : Int32) (σ : St) : St := (if x1 < 0 then σ else (if x1 ≤ (σ.1 2 0) then sA σ 2 (upd (σ.1 2) 0 x1) else σ))
def rX10_end (x1 : Int32) (σ : St) : Int32 := (if x1 < 0 then (-1 : Int32) else (if x1 ≤ (σ.1 2 0) then (σ.1 2 0) else (-1 : Int32)))
theorem qX10_end (d : Nat) (x1 : Int32) (σ : St) : Ct yX10_end MX10_end d [.ref 0, .int x1] σ (fun v σ1 => v = some (.int (rX10_end x1 σ)) ∧ σ1 = sX10_end x1 σ) :=
  Ct.of mX10_end.1 (Nat.le_of_ble_eq_true rfl) (bX10_end_0 x1 σ   (fun h1 => ⟨by first | rfl | (simp only [sX10_end, rX10_end, eq_true h1, eq_false (i32_nle.mpr h1), true_and, and_true, false_and, and_false, true_or, or_true, false_or, or_false, not_true_eq_false, not_false_eq_true, if_true, if_false]; done) | (simp [sX10_end, rX10_end, eq_true h1, eq_false (i32_nle.mpr h1), bI]; done), by first | rfl | (simp only [sX10_end, rX10_end, eq_true h1, eq_false (i32_nle.mpr h1), true_and, and_true, false_and, and_false, true_or, or_true, false_or, or_false, not_true_eq_false, not_false_eq_true, if_true, if_false]; done) | (simp [sX10_end, rX10_end, eq_true h1, eq_false (i32_nle.mpr h1), bI]; done)⟩) (fun h1 h2 => ⟨by first | rfl | (simp only [sX10_end, rX10_end, eq_true h1, eq_false (i32_nlt.mpr h1), eq_true h2, eq_false (i32_nlt.mpr h2), true_and, and_true, false_and, and_false, true_or, or_true, false_or, or_false, not_true_eq_false, not_false_eq_true, if_true, if_false]; done) | (simp [sX10_end, rX10_end, eq_true h1, eq_false (i32_nlt.mpr h1), eq_true h2, eq_false (i32_nlt.mpr h2), bI]; done), by first | rfl | (simp only [sX10_end, rX10_end, eq_true h1, eq_false (i32_nlt.mpr h1), eq_true h2, eq_false (i32_nlt.mpr h2), true_and, and_true, false_and, and_false, true_or, or_true, false_or, or_false, not_true_eq_false, not_false_eq_true, if_true, if_false]; done) | (simp [sX10_end, rX10_end, eq_true h1, eq_false (i32_nlt.mpr h1), eq_true h2, eq_false (i32_nlt.mpr h2), bI]; done)⟩) (fun h1 h2 => ⟨by first | rfl | (simp only [sX10_end, rX10_end, eq_true h1, eq_false (i32_nlt.mpr h1), eq_true h2, eq_false (i32_nle.mpr h2), true_and, and_true, false_and, and_false, true_or, or_true, false_or, or_false, not_true_eq_false, not_false_eq_true, if_true, if_false]; done) | (simp [sX10_end, rX10_end, eq_true h1, eq_false (i32_nlt.mpr h1), eq_true h2, eq_false (i32_nle.mpr h2), bI]; done), by first | rfl | (simp only [sX10_end, rX10_end, eq_true h1, eq_false (i32_nlt.mpr h1), eq_true h2, eq_false (i32_nle.mpr h2), true_and, and_true, false_and, and_false, true_or, or_true, false_or, or_false, not_true_eq_false, not_false_eq_true, if_true, if_false]; done) | (simp [sX10_end, rX10_end, eq_true h1, eq_false (i32_nlt.mpr h1), eq_true h2, eq_false (i32_nle.mpr h2), bI]; done)⟩))

/-! CarryNets.freeNet -/
theorem eX10_freeNet_0 : decode MX10_freeNet.2.1 0 = .ok (.aload_n 0, 1) := by decide +kernel
theorem eX10_freeNet_1 : decode MX10_freeNet.2.1 1 = .ok (.getfield 111, 3) := by decide +kernel
theorem eX10_freeNet_4 : decode MX10_freeNet.2.1 4 = .ok (.ifCond .lt 27, 3) := by decide +kernel
theorem eX10_freeNet_7 : decode MX10_freeNet.2.1 7 = .ok (.aload_n 0, 1) := by decide +kernel
theorem eX10_freeNet_8 : decode MX10_freeNet.2.1 8 = .ok (.getfield 111, 3) := by decide +kernel
theorem eX10_freeNet_11 : decode MX10_freeNet.2.1 11 = .ok (.aload_n 0, 1) := by decide +kernel
theorem eX10_freeNet_12 : decode MX10_freeNet.2.1 12 = .ok (.getfield 11, 3) := by decide +kernel
theorem eX10_freeNet_15 : decode MX10_freeNet.2.1 15 = .ok (.arraylength, 1) := by decide +kernel
theorem eX10_freeNet_16 : decode MX10_freeNet.2.1 16 = .ok (.if_icmp .ge 15, 3) := by decide +kernel
theorem eX10_freeNet_19 : decode MX10_freeNet.2.1 19 = .ok (.aload_n 0, 1) := by decide +kernel
theorem eX10_freeNet_20 : decode MX10_freeNet.2.1 20 = .ok (.getfield 11, 3) := by decide +kernel
theorem eX10_freeNet_23 : decode MX10_freeNet.2.1 23 = .ok (.aload_n 0, 1) := by decide +kernel
theorem eX10_freeNet_24 : decode MX10_freeNet.2.1 24 = .ok (.getfield 111, 3) := by decide +kernel
theorem eX10_freeNet_27 : decode MX10_freeNet.2.1 27 = .ok (.aaload, 1) := by decide +kernel
theorem eX10_freeNet_28 : decode MX10_freeNet.2.1 28 = .ok (.goto 4, 3) := by decide +kernel
theorem eX10_freeNet_31 : decode MX10_freeNet.2.1 31 = .ok (.aconst_null, 1) := by decide +kernel
theorem eX10_freeNet_32 : decode MX10_freeNet.2.1 32 = .ok (.areturn, 1) := by decide +kernel
set_option maxRecDepth 20000 in
theorem bX10_freeNet_0 {d : Nat} {Q : Option Value → St → Prop} (σ : St) 
    (g1 : (0 : Int32) ≤ (σ.1 0 1) → (σ.1 0 1) < 8 → vp_in (σ.1 0 1) 8)
    (k1 : (σ.1 0 1) < 0 → Q (some (.null)) σ)
    (k2 : (0 : Int32) ≤ (σ.1 0 1) → (8 : Int32) ≤ (σ.1 0 1) → Q (some (.null)) σ)
    (k3 : (0 : Int32) ≤ (σ.1 0 1) → (σ.1 0 1) < 8 → Q (some (.ref (gr 1 (σ.1 0 1).toNatClampNeg))) σ)
    : Run MX10_freeNet d 0 [some (.ref 0)] [] σ Q := by
  refine (go_aload_n 0 eX10_freeNet_0 rfl rfl).run ?_
  refine (go_geti flX10_111 rf_9_1 kd_0 eX10_freeNet_1).run ?_
  refine (bz_lt 31 eX10_freeNet_4 rfl).run (fun h1 => ?_) (fun h1 => ?_)
  · refine (go_null eX10_freeNet_31).run ?_
    exact Run.ret (v := some (.null)) (k1 h1) ⟨⟨_, rfl⟩, eX10_freeNet_32⟩ rfl
  · refine (go_aload_n 0 eX10_freeNet_7 rfl rfl).run ?_
    refine (go_geti flX10_111 rf_9_1 kd_0 eX10_freeNet_8).run ?_
    refine (go_aload_n 0 eX10_freeNet_11 rfl rfl).run ?_
    refine (go_getr flX10_11 rf_9_0 kd_0 gr_0_0 eX10_freeNet_12).run ?_
    refine (go_alen103 (v := 8) kd_1 ln_1 rfl eX10_freeNet_15).run ?_
    refine (bi_ge 31 eX10_freeNet_16 rfl).run (fun h2 => ?_) (fun h2 => ?_)
    · refine (go_null eX10_freeNet_31).run ?_
      exact Run.ret (v := some (.null)) (k2 h1 h2) ⟨⟨_, rfl⟩, eX10_freeNet_32⟩ rfl
    · refine (go_aload_n 0 eX10_freeNet_19 rfl rfl).run ?_
      refine (go_getr flX10_11 rf_9_0 kd_0 gr_0_0 eX10_freeNet_20).run ?_
      refine (go_aload_n 0 eX10_freeNet_23 rfl rfl).run ?_
      refine (go_geti flX10_111 rf_9_1 kd_0 eX10_freeNet_24).run ?_
      refine (go_aald103 (r := gr 1 (σ.1 0 1).toNatClampNeg) kd_1 rfl ln_1 (g1 h1 h2) eX10_freeNet_27).run ?_
      refine (go_goto 32 eX10_freeNet_28 rfl).run ?_
      exact Run.ret (v := some (.ref (gr 1 (σ.1 0 1).toNatClampNeg))) (k3 h1 h2) ⟨⟨_, rfl⟩, eX10_freeNet_32⟩ rfl

theorem qX10_freeNet (d : Nat) (σ : St) : Ct yX10_freeNet MX10_freeNet d [.ref 0] σ (fun v σ1 => v = some (if 0 ≤ σ.1 0 1 ∧ σ.1 0 1 < 8 then .ref (gr 1 (σ.1 0 1).toNatClampNeg) else .null) ∧ σ1 = σ) :=
  Ct.of mX10_freeNet.1 (Nat.le_of_ble_eq_true rfl) (bX10_freeNet_0 σ (fun h0 h1 => vp_of h0 h1 (by decide))
    (fun h => ⟨by rw [if_neg (fun q => i32_nlt.mpr q.1 h)], rfl⟩) (fun _ h => ⟨by rw [if_neg (fun q => i32_nlt.mpr h q.2)], rfl⟩) (fun h0 h1 => ⟨by rw [if_pos ⟨h0, h1⟩], rfl⟩))

/-! CarryNets.keepNet -/
theorem eX10_keepNet_0 : decode MX10_keepNet.2.1 0 = .ok (.aload_n 0, 1) := by decide +kernel
theorem eX10_keepNet_1 : decode MX10_keepNet.2.1 1 = .ok (.dup, 1) := by decide +kernel
theorem eX10_keepNet_2 : decode MX10_keepNet.2.1 2 = .ok (.getfield 111, 3) := by decide +kernel
theorem eX10_keepNet_5 : decode MX10_keepNet.2.1 5 = .ok (.iconst 1, 1) := by decide +kernel
theorem eX10_keepNet_6 : decode MX10_keepNet.2.1 6 = .ok (.iadd, 1) := by decide +kernel
theorem eX10_keepNet_7 : decode MX10_keepNet.2.1 7 = .ok (.putfield 111, 3) := by decide +kernel
theorem eX10_keepNet_10 : decode MX10_keepNet.2.1 10 = .ok (.aload_n 0, 1) := by decide +kernel
theorem eX10_keepNet_11 : decode MX10_keepNet.2.1 11 = .ok (.getfield 111, 3) := by decide +kernel
theorem eX10_keepNet_14 : decode MX10_keepNet.2.1 14 = .ok (.iconst 1, 1) := by decide +kernel
theorem eX10_keepNet_15 : decode MX10_keepNet.2.1 15 = .ok (.isub, 1) := by decide +kernel
theorem eX10_keepNet_16 : decode MX10_keepNet.2.1 16 = .ok (.ireturn, 1) := by decide +kernel
set_option maxRecDepth 20000 in
theorem bX10_keepNet_0 {d : Nat} {Q : Option Value → St → Prop} (σ : St) 
    (k1 : Q (some (.int ((((σ.1 0 1) + 1)) - 1))) (sA σ 0 (upd (σ.1 0) 1 ((σ.1 0 1) + 1))))
    : Run MX10_keepNet d 0 [some (.ref 0)] [] σ Q := by
  refine (go_aload_n 0 eX10_keepNet_0 rfl rfl).run ?_
  refine (go_dup eX10_keepNet_1 rfl).run ?_
  refine (go_geti flX10_111 rf_9_1 kd_0 eX10_keepNet_2).run ?_
  refine (go_iconst (v := 1) eX10_keepNet_5 rfl).run ?_
  refine (go_iadd eX10_keepNet_6).run ?_
  refine (go_puti flX10_111 rf_9_1 rfl pf_9_1 rfl rfl kd_0 eX10_keepNet_7).run ?_
  refine (go_aload_n 0 eX10_keepNet_10 rfl rfl).run ?_
  refine (go_geti flX10_111 rf_9_1 kd_0 eX10_keepNet_11).run ?_
  refine (go_iconst (v := 1) eX10_keepNet_14 rfl).run ?_
  refine (go_isub eX10_keepNet_15).run ?_
  exact Run.ret (v := some (.int ((((σ.1 0 1) + 1)) - 1))) k1 ⟨Or.inl rfl, eX10_keepNet_16⟩ rfl

def sX10_keepNet (σ : St) : St := sA σ 0 (upd (σ.1 0) 1 ((σ.1 0 1) + 1))
theorem qX10_keepNet (d : Nat) (σ : St) : Ct yX10_keepNet MX10_keepNet d [.ref 0] σ (fun v σ1 => v = some (.int ((((σ.1 0 1) + 1)) - 1)) ∧ σ1 = sX10_keepNet  σ) :=
  Ct.of mX10_keepNet.1 (Nat.le_of_ble_eq_true rfl) (bX10_keepNet_0  σ   (⟨by first | rfl | (simp only [sX10_keepNet, true_and, and_true, false_and, and_false, true_or, or_true, false_or, or_false, not_true_eq_false, not_false_eq_true, if_true, if_false]; done) | (simp [sX10_keepNet, bI]; done), by first | rfl | (simp only [sX10_keepNet, true_and, and_true, false_and, and_false, true_or, or_true, false_or, or_false, not_true_eq_false, not_false_eq_true, if_true, if_false]; done) | (simp [sX10_keepNet, bI]; done)⟩))

/-! CarryNets.text -/
theorem eX10_text_0 : decode MX10_text.2.1 0 = .ok (.aload_n 0, 1) := by decide +kernel
theorem eX10_text_1 : decode MX10_text.2.1 1 = .ok (.invokevirtual 87, 3) := by decide +kernel
theorem eX10_text_4 : decode MX10_text.2.1 4 = .ok (.astore_n 1, 1) := by decide +kernel
theorem eX10_text_5 : decode MX10_text.2.1 5 = .ok (.aload_n 1, 1) := by decide +kernel
theorem eX10_text_6 : decode MX10_text.2.1 6 = .ok (.ifnonnull 6, 3) := by decide +kernel
theorem eX10_text_9 : decode MX10_text.2.1 9 = .ok (.bipush (-3), 2) := by decide +kernel
theorem eX10_text_11 : decode MX10_text.2.1 11 = .ok (.ireturn, 1) := by decide +kernel
theorem eX10_text_12 : decode MX10_text.2.1 12 = .ok (.aload_n 0, 1) := by decide +kernel
theorem eX10_text_13 : decode MX10_text.2.1 13 = .ok (.getfield 18, 3) := by decide +kernel
theorem eX10_text_16 : decode MX10_text.2.1 16 = .ok (.aload_n 1, 1) := by decide +kernel
theorem eX10_text_17 : decode MX10_text.2.1 17 = .ok (.invokevirtual 91, 3) := by decide +kernel
theorem eX10_text_20 : decode MX10_text.2.1 20 = .ok (.istore_n 2, 1) := by decide +kernel
theorem eX10_text_21 : decode MX10_text.2.1 21 = .ok (.aload_n 0, 1) := by decide +kernel
theorem eX10_text_22 : decode MX10_text.2.1 22 = .ok (.getfield 18, 3) := by decide +kernel
theorem eX10_text_25 : decode MX10_text.2.1 25 = .ok (.iconst 0, 1) := by decide +kernel
theorem eX10_text_26 : decode MX10_text.2.1 26 = .ok (.putfield 83, 3) := by decide +kernel
theorem eX10_text_29 : decode MX10_text.2.1 29 = .ok (.iload_n 2, 1) := by decide +kernel
theorem eX10_text_30 : decode MX10_text.2.1 30 = .ok (.ifCond .eq 10, 3) := by decide +kernel
theorem eX10_text_33 : decode MX10_text.2.1 33 = .ok (.aload_n 0, 1) := by decide +kernel
theorem eX10_text_34 : decode MX10_text.2.1 34 = .ok (.invokevirtual 95, 3) := by decide +kernel
theorem eX10_text_37 : decode MX10_text.2.1 37 = .ok (.goto 13, 3) := by decide +kernel
theorem eX10_text_40 : decode MX10_text.2.1 40 = .ok (.bipush (-10), 2) := by decide +kernel
theorem eX10_text_42 : decode MX10_text.2.1 42 = .ok (.aload_n 0, 1) := by decide +kernel
theorem eX10_text_43 : decode MX10_text.2.1 43 = .ok (.getfield 18, 3) := by decide +kernel
theorem eX10_text_46 : decode MX10_text.2.1 46 = .ok (.invokevirtual 99, 3) := by decide +kernel
theorem eX10_text_49 : decode MX10_text.2.1 49 = .ok (.isub, 1) := by decide +kernel
theorem eX10_text_50 : decode MX10_text.2.1 50 = .ok (.ireturn, 1) := by decide +kernel
set_option maxRecDepth 20000 in
theorem bX10_text_0 {d : Nat} {Q : Option Value → St → Prop} (σ : St) 
    (k1 : (0 ≤ (σ.1 0 1) ∧ (σ.1 0 1) < 8) → Ct yX9_tells MX9_tells (d + 4) [.ref 2, .ref (gr 1 (σ.1 0 1).toNatClampNeg)] σ (fun v σ1 => Run MX10_text (d + 5) 20 [some (.ref 0), none, none] (v.toList ++ []) σ1 Q))
    (k2 : (¬ (0 ≤ (σ.1 0 1) ∧ (σ.1 0 1) < 8)) → Q (some (.int (-3))) σ)
    : Run MX10_text (d + 5) 0 [some (.ref 0), none, none] [] σ Q := by
  refine (go_aload_n 0 eX10_text_0 rfl rfl).run ?_
  refine Run.callV (d := (d + 4)) (As := []) mX10_freeNet lkX10_87 kd_0 (by decide) rfl rfl rfl rfl rfl (Nat.le_of_ble_eq_true rfl) eX10_text_1 (Ct.mono (qX10_freeNet (d + 4) σ) ?_)
  rintro v1 s1 ⟨hv1, hs1⟩
  rw [hv1, hs1]
  by_cases h1 : 0 ≤ (σ.1 0 1) ∧ (σ.1 0 1) < 8
  · rw [if_pos h1]
    refine (go_astore_n 1 (L' := [some (.ref 0), some (.ref (gr 1 (σ.1 0 1).toNatClampNeg)), none]) eX10_text_4 rfl (Nat.le_of_ble_eq_true rfl) rfl).run ?_
    refine (go_aload_n 1 eX10_text_5 rfl rfl).run ?_
    refine (go_ifnonnull_r 12 eX10_text_6 rfl).run ?_
    refine (go_aload_n 0 eX10_text_12 rfl rfl).run ?_
    refine (go_getr flX10_18 rf_9_2 kd_0 gr_0_2 eX10_text_13).run ?_
    refine (go_aload_n 1 eX10_text_16 rfl rfl).run ?_
    refine (go_sub (L' := [some (.ref 0), none, none]) (lsub_keep (lsub_drop (lsub_keep lsub_nil)))).run ?_
    exact Run.callV (d := (d + 4)) (As := [.ref (gr 1 (σ.1 0 1).toNatClampNeg)]) mX9_tells lkX10_91 kd_2 (by decide) rfl rfl rfl rfl rfl (Nat.le_of_ble_eq_true rfl) eX10_text_17 (k1 h1)
  · rw [if_neg h1]
    refine (go_astore_nN 1 (L' := [some (.ref 0), some (.null), none]) eX10_text_4 rfl (Nat.le_of_ble_eq_true rfl) rfl).run ?_
    refine (go_aload_nN 1 eX10_text_5 rfl rfl).run ?_
    refine (go_ifnonnull_n eX10_text_6).run ?_
    refine (go_bipush (v := -3) eX10_text_9 rfl).run ?_
    exact Run.ret (v := some (.int (-3))) (k2 h1) ⟨Or.inl rfl, eX10_text_11⟩ rfl

set_option maxRecDepth 20000 in
theorem bX10_text_20 {d : Nat} {Q : Option Value → St → Prop} (s0 : Int32) (σ : St) 
    (k1 : s0 = 0 → Q (some (.int ((-10 : Int32) - ((upd (σ.1 2) 0 0 5))))) (sA σ 2 (upd (σ.1 2) 0 0)))
    (k2 : ¬ s0 = 0 → Q (some (.int (((((σ.1 0 1) + 1)) - 1)))) (sX10_keepNet  (sA σ 2 (upd (σ.1 2) 0 0))))
    : Run MX10_text (d + 5) 20 [some (.ref 0), none, none] [.int s0] σ Q := by
  refine (go_istore_n 2 (L' := [some (.ref 0), none, some (.int s0)]) eX10_text_20 rfl (Nat.le_of_ble_eq_true rfl) rfl).run ?_
  refine (go_aload_n 0 eX10_text_21 rfl rfl).run ?_
  refine (go_getr flX10_18 rf_9_2 kd_0 gr_0_2 eX10_text_22).run ?_
  refine (go_iconst (v := 0) eX10_text_25 rfl).run ?_
  refine (go_puti flX10_83 rf_8_0 rfl pf_8_0 rfl rfl kd_2 eX10_text_26).run ?_
  refine (go_iload_n 2 eX10_text_29 rfl rfl).run ?_
  refine (bz_eq 40 eX10_text_30 rfl).run (fun h1 => ?_) (fun h1 => ?_)
  · refine (go_bipush (v := -10) eX10_text_40 rfl).run ?_
    refine (go_aload_n 0 eX10_text_42 rfl rfl).run ?_
    refine (go_getr flX10_18 rf_9_2 kd_0 gr_0_2 eX10_text_43).run ?_
    refine Run.callV1 (d := (d + 4)) (As := []) (r := .int ((upd (σ.1 2) 0 0 5))) mX9_faultPlace lkX10_99 kd_2 (by decide) rfl rfl rfl rfl rfl (Nat.le_of_ble_eq_true rfl) eX10_text_46 (qX9_faultPlace (d + 4)  (sA σ 2 (upd (σ.1 2) 0 0))  ) ?_
    refine (go_isub eX10_text_49).run ?_
    exact Run.ret (v := some (.int ((-10 : Int32) - ((upd (σ.1 2) 0 0 5))))) (k1 h1) ⟨Or.inl rfl, eX10_text_50⟩ rfl
  · refine (go_aload_n 0 eX10_text_33 rfl rfl).run ?_
    refine Run.callV1 (d := (d + 4)) (As := []) (r := .int (((((σ.1 0 1) + 1)) - 1))) mX10_keepNet lkX10_95 kd_0 (by decide) rfl rfl rfl rfl rfl (Nat.le_of_ble_eq_true rfl) eX10_text_34 (qX10_keepNet (d + 4)  (sA σ 2 (upd (σ.1 2) 0 0))  ) ?_
    refine (go_goto 50 eX10_text_37 rfl).run ?_
    exact Run.ret (v := some (.int (((((σ.1 0 1) + 1)) - 1)))) (k2 h1) ⟨Or.inl rfl, eX10_text_50⟩ rfl

/-! CarryNets.fault -/
theorem eX10_fault_0 : decode MX10_fault.2.1 0 = .ok (.aload_n 0, 1) := by decide +kernel
theorem eX10_fault_1 : decode MX10_fault.2.1 1 = .ok (.getfield 18, 3) := by decide +kernel
theorem eX10_fault_4 : decode MX10_fault.2.1 4 = .ok (.getfield 102, 3) := by decide +kernel
theorem eX10_fault_7 : decode MX10_fault.2.1 7 = .ok (.ireturn, 1) := by decide +kernel
set_option maxRecDepth 20000 in
theorem bX10_fault_0 {d : Nat} {Q : Option Value → St → Prop} (σ : St) 
    (k1 : Q (some (.int (σ.1 2 1))) σ)
    : Run MX10_fault d 0 [some (.ref 0)] [] σ Q := by
  refine (go_aload_n 0 eX10_fault_0 rfl rfl).run ?_
  refine (go_getr flX10_18 rf_9_2 kd_0 gr_0_2 eX10_fault_1).run ?_
  refine (go_geti flX10_102 rf_8_1 kd_2 eX10_fault_4).run ?_
  exact Run.ret (v := some (.int (σ.1 2 1))) k1 ⟨Or.inl rfl, eX10_fault_7⟩ rfl

theorem qX10_fault (d : Nat) (σ : St) : Ct yX10_fault MX10_fault d [.ref 0] σ (fun v σ1 => v = some (.int (σ.1 2 1)) ∧ σ1 = σ) :=
  Ct.of mX10_fault.1 (Nat.le_of_ble_eq_true rfl) (bX10_fault_0  σ   (⟨by first | rfl | (simp only [true_and, and_true, false_and, and_false, true_or, or_true, false_or, or_false, not_true_eq_false, not_false_eq_true, if_true, if_false]; done) | (simp [bI]; done), by first | rfl | (simp only [true_and, and_true, false_and, and_false, true_or, or_true, false_or, or_false, not_true_eq_false, not_false_eq_true, if_true, if_false]; done) | (simp [bI]; done)⟩))

/-! CarryNets.net -/
theorem eX10_net_0 : decode MX10_net.2.1 0 = .ok (.iload_n 1, 1) := by decide +kernel
theorem eX10_net_1 : decode MX10_net.2.1 1 = .ok (.iconst 2, 1) := by decide +kernel
theorem eX10_net_2 : decode MX10_net.2.1 2 = .ok (.if_icmp .lt 18, 3) := by decide +kernel
theorem eX10_net_5 : decode MX10_net.2.1 5 = .ok (.iload_n 1, 1) := by decide +kernel
theorem eX10_net_6 : decode MX10_net.2.1 6 = .ok (.bipush 32, 2) := by decide +kernel
theorem eX10_net_8 : decode MX10_net.2.1 8 = .ok (.if_icmp .gt 12, 3) := by decide +kernel
theorem eX10_net_11 : decode MX10_net.2.1 11 = .ok (.iload_n 2, 1) := by decide +kernel
theorem eX10_net_12 : decode MX10_net.2.1 12 = .ok (.ifCond .lt 8, 3) := by decide +kernel
theorem eX10_net_15 : decode MX10_net.2.1 15 = .ok (.iload_n 2, 1) := by decide +kernel
theorem eX10_net_16 : decode MX10_net.2.1 16 = .ok (.iconst 5, 1) := by decide +kernel
theorem eX10_net_17 : decode MX10_net.2.1 17 = .ok (.if_icmp .lt 5, 3) := by decide +kernel
theorem eX10_net_20 : decode MX10_net.2.1 20 = .ok (.iconst (-1), 1) := by decide +kernel
theorem eX10_net_21 : decode MX10_net.2.1 21 = .ok (.ireturn, 1) := by decide +kernel
theorem eX10_net_22 : decode MX10_net.2.1 22 = .ok (.aload_n 0, 1) := by decide +kernel
theorem eX10_net_23 : decode MX10_net.2.1 23 = .ok (.invokevirtual 87, 3) := by decide +kernel
theorem eX10_net_26 : decode MX10_net.2.1 26 = .ok (.astore_n 3, 1) := by decide +kernel
theorem eX10_net_27 : decode MX10_net.2.1 27 = .ok (.aload_n 3, 1) := by decide +kernel
theorem eX10_net_28 : decode MX10_net.2.1 28 = .ok (.ifnonnull 6, 3) := by decide +kernel
theorem eX10_net_31 : decode MX10_net.2.1 31 = .ok (.bipush (-3), 2) := by decide +kernel
theorem eX10_net_33 : decode MX10_net.2.1 33 = .ok (.ireturn, 1) := by decide +kernel
theorem eX10_net_34 : decode MX10_net.2.1 34 = .ok (.aload_n 3, 1) := by decide +kernel
theorem eX10_net_35 : decode MX10_net.2.1 35 = .ok (.iload_n 1, 1) := by decide +kernel
theorem eX10_net_36 : decode MX10_net.2.1 36 = .ok (.iload_n 2, 1) := by decide +kernel
theorem eX10_net_37 : decode MX10_net.2.1 37 = .ok (.invokestatic 105, 3) := by decide +kernel
theorem eX10_net_40 : decode MX10_net.2.1 40 = .ok (.aload_n 0, 1) := by decide +kernel
theorem eX10_net_41 : decode MX10_net.2.1 41 = .ok (.invokevirtual 95, 3) := by decide +kernel
theorem eX10_net_44 : decode MX10_net.2.1 44 = .ok (.ireturn, 1) := by decide +kernel
set_option maxRecDepth 20000 in
theorem bX10_net_0 {d : Nat} {Q : Option Value → St → Prop} (x1 : Int32) (x2 : Int32) (σ : St) 
    (k1 : x1 < 2 → Q (some (.int (-1))) σ)
    (k2 : (2 : Int32) ≤ x1 → (32 : Int32) < x1 → Q (some (.int (-1))) σ)
    (k3 : (2 : Int32) ≤ x1 → x1 ≤ 32 → x2 < 0 → Q (some (.int (-1))) σ)
    (k4 : (2 : Int32) ≤ x1 → x1 ≤ 32 → (0 : Int32) ≤ x2 → x2 < 5 → (0 ≤ (σ.1 0 1) ∧ (σ.1 0 1) < 8) → Ct yX5_fill MX5_fill (d + 5) [.ref (gr 1 (σ.1 0 1).toNatClampNeg), .int x1, .int x2] σ (fun v σ1 => Run MX10_net (d + 6) 40 [some (.ref 0), none, none, none] (v.toList ++ []) σ1 Q))
    (k5 : (2 : Int32) ≤ x1 → x1 ≤ 32 → (0 : Int32) ≤ x2 → x2 < 5 → (¬ (0 ≤ (σ.1 0 1) ∧ (σ.1 0 1) < 8)) → Q (some (.int (-3))) σ)
    (k6 : (2 : Int32) ≤ x1 → x1 ≤ 32 → (0 : Int32) ≤ x2 → (5 : Int32) ≤ x2 → Q (some (.int (-1))) σ)
    : Run MX10_net (d + 6) 0 [some (.ref 0), some (.int x1), some (.int x2), none] [] σ Q := by
  refine (go_iload_n 1 eX10_net_0 rfl rfl).run ?_
  refine (go_iconst (v := 2) eX10_net_1 rfl).run ?_
  refine (bi_lt 20 eX10_net_2 rfl).run (fun h1 => ?_) (fun h1 => ?_)
  · refine (go_iconst (v := -1) eX10_net_20 rfl).run ?_
    exact Run.ret (v := some (.int (-1))) (k1 h1) ⟨Or.inl rfl, eX10_net_21⟩ rfl
  · refine (go_iload_n 1 eX10_net_5 rfl rfl).run ?_
    refine (go_bipush (v := 32) eX10_net_6 rfl).run ?_
    refine (bi_gt 20 eX10_net_8 rfl).run (fun h2 => ?_) (fun h2 => ?_)
    · refine (go_iconst (v := -1) eX10_net_20 rfl).run ?_
      exact Run.ret (v := some (.int (-1))) (k2 h1 h2) ⟨Or.inl rfl, eX10_net_21⟩ rfl
    · refine (go_iload_n 2 eX10_net_11 rfl rfl).run ?_
      refine (bz_lt 20 eX10_net_12 rfl).run (fun h3 => ?_) (fun h3 => ?_)
      · refine (go_iconst (v := -1) eX10_net_20 rfl).run ?_
        exact Run.ret (v := some (.int (-1))) (k3 h1 h2 h3) ⟨Or.inl rfl, eX10_net_21⟩ rfl
      · refine (go_iload_n 2 eX10_net_15 rfl rfl).run ?_
        refine (go_iconst (v := 5) eX10_net_16 rfl).run ?_
        refine (bi_lt 22 eX10_net_17 rfl).run (fun h4 => ?_) (fun h4 => ?_)
        · refine (go_aload_n 0 eX10_net_22 rfl rfl).run ?_
          refine Run.callV (d := (d + 5)) (As := []) mX10_freeNet lkX10_87 kd_0 (by decide) rfl rfl rfl rfl rfl (Nat.le_of_ble_eq_true rfl) eX10_net_23 (Ct.mono (qX10_freeNet (d + 5) σ) ?_)
          rintro v1 s1 ⟨hv1, hs1⟩
          rw [hv1, hs1]
          by_cases h5 : 0 ≤ (σ.1 0 1) ∧ (σ.1 0 1) < 8
          · rw [if_pos h5]
            refine (go_astore_n 3 (L' := [some (.ref 0), some (.int x1), some (.int x2), some (.ref (gr 1 (σ.1 0 1).toNatClampNeg))]) eX10_net_26 rfl (Nat.le_of_ble_eq_true rfl) rfl).run ?_
            refine (go_aload_n 3 eX10_net_27 rfl rfl).run ?_
            refine (go_ifnonnull_r 34 eX10_net_28 rfl).run ?_
            refine (go_aload_n 3 eX10_net_34 rfl rfl).run ?_
            refine (go_iload_n 1 eX10_net_35 rfl rfl).run ?_
            refine (go_iload_n 2 eX10_net_36 rfl rfl).run ?_
            refine (go_sub (L' := [some (.ref 0), none, none, none]) (lsub_keep (lsub_drop (lsub_drop (lsub_drop lsub_nil))))).run ?_
            exact Run.callS (d := (d + 5)) (As := [.ref (gr 1 (σ.1 0 1).toNatClampNeg), .int x1, .int x2]) mX5_fill lkX10_105 rfl rfl rfl (Nat.le_of_ble_eq_true rfl) eX10_net_37 (k4 h1 h2 h3 h4 h5)
          · rw [if_neg h5]
            refine (go_astore_nN 3 (L' := [some (.ref 0), some (.int x1), some (.int x2), some (.null)]) eX10_net_26 rfl (Nat.le_of_ble_eq_true rfl) rfl).run ?_
            refine (go_aload_nN 3 eX10_net_27 rfl rfl).run ?_
            refine (go_ifnonnull_n eX10_net_28).run ?_
            refine (go_bipush (v := -3) eX10_net_31 rfl).run ?_
            exact Run.ret (v := some (.int (-3))) (k5 h1 h2 h3 h4 h5) ⟨Or.inl rfl, eX10_net_33⟩ rfl
        · refine (go_iconst (v := -1) eX10_net_20 rfl).run ?_
          exact Run.ret (v := some (.int (-1))) (k6 h1 h2 h3 h4) ⟨Or.inl rfl, eX10_net_21⟩ rfl

set_option maxRecDepth 20000 in
theorem bX10_net_40 {d : Nat} {Q : Option Value → St → Prop} (σ : St) 
    (k1 : Q (some (.int (((((σ.1 0 1) + 1)) - 1)))) (sX10_keepNet  σ))
    : Run MX10_net (d + 6) 40 [some (.ref 0), none, none, none] [] σ Q := by
  refine (go_aload_n 0 eX10_net_40 rfl rfl).run ?_
  refine Run.callV1 (d := (d + 5)) (As := []) (r := .int (((((σ.1 0 1) + 1)) - 1))) mX10_keepNet lkX10_95 kd_0 (by decide) rfl rfl rfl rfl rfl (Nat.le_of_ble_eq_true rfl) eX10_net_41 (qX10_keepNet (d + 5)  σ  ) ?_
  exact Run.ret (v := some (.int (((((σ.1 0 1) + 1)) - 1)))) k1 ⟨Or.inl rfl, eX10_net_44⟩ rfl

/-! CarryNets.drop -/
theorem eX10_drop_0 : decode MX10_drop.2.1 0 = .ok (.aload_n 0, 1) := by decide +kernel
theorem eX10_drop_1 : decode MX10_drop.2.1 1 = .ok (.getfield 111, 3) := by decide +kernel
theorem eX10_drop_4 : decode MX10_drop.2.1 4 = .ok (.ifCond .ne 6, 3) := by decide +kernel
theorem eX10_drop_7 : decode MX10_drop.2.1 7 = .ok (.bipush (-4), 2) := by decide +kernel
theorem eX10_drop_9 : decode MX10_drop.2.1 9 = .ok (.ireturn, 1) := by decide +kernel
theorem eX10_drop_10 : decode MX10_drop.2.1 10 = .ok (.aload_n 0, 1) := by decide +kernel
theorem eX10_drop_11 : decode MX10_drop.2.1 11 = .ok (.dup, 1) := by decide +kernel
theorem eX10_drop_12 : decode MX10_drop.2.1 12 = .ok (.getfield 111, 3) := by decide +kernel
theorem eX10_drop_15 : decode MX10_drop.2.1 15 = .ok (.iconst 1, 1) := by decide +kernel
theorem eX10_drop_16 : decode MX10_drop.2.1 16 = .ok (.isub, 1) := by decide +kernel
theorem eX10_drop_17 : decode MX10_drop.2.1 17 = .ok (.putfield 111, 3) := by decide +kernel
theorem eX10_drop_20 : decode MX10_drop.2.1 20 = .ok (.aload_n 0, 1) := by decide +kernel
theorem eX10_drop_21 : decode MX10_drop.2.1 21 = .ok (.getfield 111, 3) := by decide +kernel
theorem eX10_drop_24 : decode MX10_drop.2.1 24 = .ok (.ireturn, 1) := by decide +kernel
set_option maxRecDepth 20000 in
theorem bX10_drop_0 {d : Nat} {Q : Option Value → St → Prop} (σ : St) 
    (k1 : ¬ (σ.1 0 1) = 0 → Q (some (.int (((σ.1 0 1) - 1)))) (sA σ 0 (upd (σ.1 0) 1 ((σ.1 0 1) - 1))))
    (k2 : (σ.1 0 1) = 0 → Q (some (.int (-4))) σ)
    : Run MX10_drop d 0 [some (.ref 0)] [] σ Q := by
  refine (go_aload_n 0 eX10_drop_0 rfl rfl).run ?_
  refine (go_geti flX10_111 rf_9_1 kd_0 eX10_drop_1).run ?_
  refine (bz_ne 10 eX10_drop_4 rfl).run (fun h1 => ?_) (fun h1 => ?_)
  · refine (go_aload_n 0 eX10_drop_10 rfl rfl).run ?_
    refine (go_dup eX10_drop_11 rfl).run ?_
    refine (go_geti flX10_111 rf_9_1 kd_0 eX10_drop_12).run ?_
    refine (go_iconst (v := 1) eX10_drop_15 rfl).run ?_
    refine (go_isub eX10_drop_16).run ?_
    refine (go_puti flX10_111 rf_9_1 rfl pf_9_1 rfl rfl kd_0 eX10_drop_17).run ?_
    refine (go_aload_n 0 eX10_drop_20 rfl rfl).run ?_
    refine (go_geti flX10_111 rf_9_1 kd_0 eX10_drop_21).run ?_
    exact Run.ret (v := some (.int (((σ.1 0 1) - 1)))) (k1 h1) ⟨Or.inl rfl, eX10_drop_24⟩ rfl
  · refine (go_bipush (v := -4) eX10_drop_7 rfl).run ?_
    exact Run.ret (v := some (.int (-4))) (k2 h1) ⟨Or.inl rfl, eX10_drop_9⟩ rfl

def sX10_drop (σ : St) : St := (if (σ.1 0 1) = 0 then σ else sA σ 0 (upd (σ.1 0) 1 ((σ.1 0 1) - 1)))
def rX10_drop (σ : St) : Int32 := (if (σ.1 0 1) = 0 then (-4 : Int32) else (((σ.1 0 1) - 1)))
theorem qX10_drop (d : Nat) (σ : St) : Ct yX10_drop MX10_drop d [.ref 0] σ (fun v σ1 => v = some (.int (rX10_drop  σ)) ∧ σ1 = sX10_drop  σ) :=
  Ct.of mX10_drop.1 (Nat.le_of_ble_eq_true rfl) (bX10_drop_0  σ   (fun h1 => ⟨by first | rfl | (simp only [sX10_drop, rX10_drop, eq_false h1, not_false_eq_true, true_and, and_true, false_and, and_false, true_or, or_true, false_or, or_false, not_true_eq_false, not_false_eq_true, if_true, if_false]; done) | (simp [sX10_drop, rX10_drop, eq_false h1, not_false_eq_true, bI]; done), by first | rfl | (simp only [sX10_drop, rX10_drop, eq_false h1, not_false_eq_true, true_and, and_true, false_and, and_false, true_or, or_true, false_or, or_false, not_true_eq_false, not_false_eq_true, if_true, if_false]; done) | (simp [sX10_drop, rX10_drop, eq_false h1, not_false_eq_true, bI]; done)⟩) (fun h1 => ⟨by first | rfl | (simp only [sX10_drop, rX10_drop, eq_true h1, not_true_eq_false, true_and, and_true, false_and, and_false, true_or, or_true, false_or, or_false, not_true_eq_false, not_false_eq_true, if_true, if_false]; done) | (simp [sX10_drop, rX10_drop, eq_true h1, not_true_eq_false, bI]; done), by first | rfl | (simp only [sX10_drop, rX10_drop, eq_true h1, not_true_eq_false, true_and, and_true, false_and, and_false, true_or, or_true, false_or, or_false, not_true_eq_false, not_false_eq_true, if_true, if_false]; done) | (simp [sX10_drop, rX10_drop, eq_true h1, not_true_eq_false, bI]; done)⟩))

/-! CarryNets.netNumbered -/
theorem eX10_netNumbered_0 : decode MX10_netNumbered.2.1 0 = .ok (.iload_n 1, 1) := by decide +kernel
theorem eX10_netNumbered_1 : decode MX10_netNumbered.2.1 1 = .ok (.ifCond .lt 29, 3) := by decide +kernel
theorem eX10_netNumbered_4 : decode MX10_netNumbered.2.1 4 = .ok (.iload_n 1, 1) := by decide +kernel
theorem eX10_netNumbered_5 : decode MX10_netNumbered.2.1 5 = .ok (.aload_n 0, 1) := by decide +kernel
theorem eX10_netNumbered_6 : decode MX10_netNumbered.2.1 6 = .ok (.getfield 111, 3) := by decide +kernel
theorem eX10_netNumbered_9 : decode MX10_netNumbered.2.1 9 = .ok (.if_icmp .ge 21, 3) := by decide +kernel
theorem eX10_netNumbered_12 : decode MX10_netNumbered.2.1 12 = .ok (.iload_n 1, 1) := by decide +kernel
theorem eX10_netNumbered_13 : decode MX10_netNumbered.2.1 13 = .ok (.aload_n 0, 1) := by decide +kernel
theorem eX10_netNumbered_14 : decode MX10_netNumbered.2.1 14 = .ok (.getfield 11, 3) := by decide +kernel
theorem eX10_netNumbered_17 : decode MX10_netNumbered.2.1 17 = .ok (.arraylength, 1) := by decide +kernel
theorem eX10_netNumbered_18 : decode MX10_netNumbered.2.1 18 = .ok (.if_icmp .ge 12, 3) := by decide +kernel
theorem eX10_netNumbered_21 : decode MX10_netNumbered.2.1 21 = .ok (.aload_n 0, 1) := by decide +kernel
theorem eX10_netNumbered_22 : decode MX10_netNumbered.2.1 22 = .ok (.getfield 11, 3) := by decide +kernel
theorem eX10_netNumbered_25 : decode MX10_netNumbered.2.1 25 = .ok (.iload_n 1, 1) := by decide +kernel
theorem eX10_netNumbered_26 : decode MX10_netNumbered.2.1 26 = .ok (.aaload, 1) := by decide +kernel
theorem eX10_netNumbered_27 : decode MX10_netNumbered.2.1 27 = .ok (.goto 4, 3) := by decide +kernel
theorem eX10_netNumbered_30 : decode MX10_netNumbered.2.1 30 = .ok (.aconst_null, 1) := by decide +kernel
theorem eX10_netNumbered_31 : decode MX10_netNumbered.2.1 31 = .ok (.areturn, 1) := by decide +kernel
set_option maxRecDepth 20000 in
theorem bX10_netNumbered_0 {d : Nat} {Q : Option Value → St → Prop} (x1 : Int32) (σ : St) 
    (g1 : (0 : Int32) ≤ x1 → x1 < (σ.1 0 1) → x1 < 8 → vp_in x1 8)
    (k1 : x1 < 0 → Q (some (.null)) σ)
    (k2 : (0 : Int32) ≤ x1 → (σ.1 0 1) ≤ x1 → Q (some (.null)) σ)
    (k3 : (0 : Int32) ≤ x1 → x1 < (σ.1 0 1) → (8 : Int32) ≤ x1 → Q (some (.null)) σ)
    (k4 : (0 : Int32) ≤ x1 → x1 < (σ.1 0 1) → x1 < 8 → Q (some (.ref (gr 1 x1.toNatClampNeg))) σ)
    : Run MX10_netNumbered d 0 [some (.ref 0), some (.int x1)] [] σ Q := by
  refine (go_iload_n 1 eX10_netNumbered_0 rfl rfl).run ?_
  refine (bz_lt 30 eX10_netNumbered_1 rfl).run (fun h1 => ?_) (fun h1 => ?_)
  · refine (go_null eX10_netNumbered_30).run ?_
    exact Run.ret (v := some (.null)) (k1 h1) ⟨⟨_, rfl⟩, eX10_netNumbered_31⟩ rfl
  · refine (go_iload_n 1 eX10_netNumbered_4 rfl rfl).run ?_
    refine (go_aload_n 0 eX10_netNumbered_5 rfl rfl).run ?_
    refine (go_geti flX10_111 rf_9_1 kd_0 eX10_netNumbered_6).run ?_
    refine (bi_ge 30 eX10_netNumbered_9 rfl).run (fun h2 => ?_) (fun h2 => ?_)
    · refine (go_null eX10_netNumbered_30).run ?_
      exact Run.ret (v := some (.null)) (k2 h1 h2) ⟨⟨_, rfl⟩, eX10_netNumbered_31⟩ rfl
    · refine (go_iload_n 1 eX10_netNumbered_12 rfl rfl).run ?_
      refine (go_aload_n 0 eX10_netNumbered_13 rfl rfl).run ?_
      refine (go_getr flX10_11 rf_9_0 kd_0 gr_0_0 eX10_netNumbered_14).run ?_
      refine (go_alen103 (v := 8) kd_1 ln_1 rfl eX10_netNumbered_17).run ?_
      refine (bi_ge 30 eX10_netNumbered_18 rfl).run (fun h3 => ?_) (fun h3 => ?_)
      · refine (go_null eX10_netNumbered_30).run ?_
        exact Run.ret (v := some (.null)) (k3 h1 h2 h3) ⟨⟨_, rfl⟩, eX10_netNumbered_31⟩ rfl
      · refine (go_aload_n 0 eX10_netNumbered_21 rfl rfl).run ?_
        refine (go_getr flX10_11 rf_9_0 kd_0 gr_0_0 eX10_netNumbered_22).run ?_
        refine (go_iload_n 1 eX10_netNumbered_25 rfl rfl).run ?_
        refine (go_aald103 (r := gr 1 x1.toNatClampNeg) kd_1 rfl ln_1 (g1 h1 h2 h3) eX10_netNumbered_26).run ?_
        refine (go_goto 31 eX10_netNumbered_27 rfl).run ?_
        exact Run.ret (v := some (.ref (gr 1 x1.toNatClampNeg))) (k4 h1 h2 h3) ⟨⟨_, rfl⟩, eX10_netNumbered_31⟩ rfl

theorem qX10_netNumbered (d : Nat) (x1 : Int32) (σ : St) : Ct yX10_netNumbered MX10_netNumbered d [.ref 0, .int x1] σ (fun v σ1 => v = some (if 0 ≤ x1 ∧ x1 < σ.1 0 1 ∧ x1 < 8 then .ref (gr 1 x1.toNatClampNeg) else .null) ∧ σ1 = σ) :=
  Ct.of mX10_netNumbered.1 (Nat.le_of_ble_eq_true rfl) (bX10_netNumbered_0 x1 σ (fun h0 _ h1 => vp_of h0 h1 (by decide))
    (fun h => ⟨by rw [if_neg (fun q => i32_nlt.mpr q.1 h)], rfl⟩) (fun _ h => ⟨by rw [if_neg (fun q => i32_nlt.mpr h q.2.1)], rfl⟩) (fun _ _ h => ⟨by rw [if_neg (fun q => i32_nlt.mpr h q.2.2)], rfl⟩) (fun h0 h1 h2 => ⟨by rw [if_pos ⟨h0, h1, h2⟩], rfl⟩))

/-! CarryNets.told -/
theorem eX10_told_0 : decode MX10_told.2.1 0 = .ok (.aload_n 0, 1) := by decide +kernel
theorem eX10_told_1 : decode MX10_told.2.1 1 = .ok (.iload_n 1, 1) := by decide +kernel
theorem eX10_told_2 : decode MX10_told.2.1 2 = .ok (.invokevirtual 114, 3) := by decide +kernel
theorem eX10_told_5 : decode MX10_told.2.1 5 = .ok (.astore_n 3, 1) := by decide +kernel
theorem eX10_told_6 : decode MX10_told.2.1 6 = .ok (.aload_n 3, 1) := by decide +kernel
theorem eX10_told_7 : decode MX10_told.2.1 7 = .ok (.ifnonnull 5, 3) := by decide +kernel
theorem eX10_told_10 : decode MX10_told.2.1 10 = .ok (.iconst (-1), 1) := by decide +kernel
theorem eX10_told_11 : decode MX10_told.2.1 11 = .ok (.ireturn, 1) := by decide +kernel
theorem eX10_told_12 : decode MX10_told.2.1 12 = .ok (.iload_n 2, 1) := by decide +kernel
theorem eX10_told_13 : decode MX10_told.2.1 13 = .ok (.bipush 100, 2) := by decide +kernel
theorem eX10_told_15 : decode MX10_told.2.1 15 = .ok (.if_icmp .lt 26, 3) := by decide +kernel
theorem eX10_told_18 : decode MX10_told.2.1 18 = .ok (.iload_n 2, 1) := by decide +kernel
theorem eX10_told_19 : decode MX10_told.2.1 19 = .ok (.bipush 100, 2) := by decide +kernel
theorem eX10_told_21 : decode MX10_told.2.1 21 = .ok (.aload_n 3, 1) := by decide +kernel
theorem eX10_told_22 : decode MX10_told.2.1 22 = .ok (.getfield 118, 3) := by decide +kernel
theorem eX10_told_25 : decode MX10_told.2.1 25 = .ok (.iadd, 1) := by decide +kernel
theorem eX10_told_26 : decode MX10_told.2.1 26 = .ok (.if_icmp .ge 15, 3) := by decide +kernel
theorem eX10_told_29 : decode MX10_told.2.1 29 = .ok (.aload_n 3, 1) := by decide +kernel
theorem eX10_told_30 : decode MX10_told.2.1 30 = .ok (.iload_n 2, 1) := by decide +kernel
theorem eX10_told_31 : decode MX10_told.2.1 31 = .ok (.bipush 100, 2) := by decide +kernel
theorem eX10_told_33 : decode MX10_told.2.1 33 = .ok (.isub, 1) := by decide +kernel
theorem eX10_told_34 : decode MX10_told.2.1 34 = .ok (.invokevirtual 121, 3) := by decide +kernel
theorem eX10_told_37 : decode MX10_told.2.1 37 = .ok (.invokestatic 125, 3) := by decide +kernel
theorem eX10_told_40 : decode MX10_told.2.1 40 = .ok (.ireturn, 1) := by decide +kernel
theorem eX10_told_41 : decode MX10_told.2.1 41 = .ok (.iload_n 2, 1) := by decide +kernel
theorem eX10_told_42 : decode MX10_told.2.1 42 = .ok (.sipush 200, 3) := by decide +kernel
theorem eX10_told_45 : decode MX10_told.2.1 45 = .ok (.if_icmp .lt 28, 3) := by decide +kernel
theorem eX10_told_48 : decode MX10_told.2.1 48 = .ok (.iload_n 2, 1) := by decide +kernel
theorem eX10_told_49 : decode MX10_told.2.1 49 = .ok (.sipush 200, 3) := by decide +kernel
theorem eX10_told_52 : decode MX10_told.2.1 52 = .ok (.aload_n 3, 1) := by decide +kernel
theorem eX10_told_53 : decode MX10_told.2.1 53 = .ok (.getfield 130, 3) := by decide +kernel
theorem eX10_told_56 : decode MX10_told.2.1 56 = .ok (.iadd, 1) := by decide +kernel
theorem eX10_told_57 : decode MX10_told.2.1 57 = .ok (.if_icmp .ge 16, 3) := by decide +kernel
theorem eX10_told_60 : decode MX10_told.2.1 60 = .ok (.aload_n 3, 1) := by decide +kernel
theorem eX10_told_61 : decode MX10_told.2.1 61 = .ok (.getfield 133, 3) := by decide +kernel
theorem eX10_told_64 : decode MX10_told.2.1 64 = .ok (.iload_n 2, 1) := by decide +kernel
theorem eX10_told_65 : decode MX10_told.2.1 65 = .ok (.sipush 200, 3) := by decide +kernel
theorem eX10_told_68 : decode MX10_told.2.1 68 = .ok (.isub, 1) := by decide +kernel
theorem eX10_told_69 : decode MX10_told.2.1 69 = .ok (.invokevirtual 136, 3) := by decide +kernel
theorem eX10_told_72 : decode MX10_told.2.1 72 = .ok (.ireturn, 1) := by decide +kernel
theorem eX10_told_73 : decode MX10_told.2.1 73 = .ok (.aload_n 0, 1) := by decide +kernel
theorem eX10_told_74 : decode MX10_told.2.1 74 = .ok (.getfield 32, 3) := by decide +kernel
theorem eX10_told_77 : decode MX10_told.2.1 77 = .ok (.aload_n 3, 1) := by decide +kernel
theorem eX10_told_78 : decode MX10_told.2.1 78 = .ok (.invokevirtual 139, 3) := by decide +kernel
theorem eX10_told_81 : decode MX10_told.2.1 81 = .ok (.iload_n 2, 1) := by decide +kernel
theorem eX10_told_82 : decode MX10_told.2.1 82 = .ok (.tableswitch 112 0 7 #[46, 51, 56, 64, 80, 88, 96, 104], 46) := by decide +kernel
theorem eX10_told_128 : decode MX10_told.2.1 128 = .ok (.aload_n 3, 1) := by decide +kernel
theorem eX10_told_129 : decode MX10_told.2.1 129 = .ok (.getfield 130, 3) := by decide +kernel
theorem eX10_told_132 : decode MX10_told.2.1 132 = .ok (.ireturn, 1) := by decide +kernel
theorem eX10_told_133 : decode MX10_told.2.1 133 = .ok (.aload_n 3, 1) := by decide +kernel
theorem eX10_told_134 : decode MX10_told.2.1 134 = .ok (.getfield 118, 3) := by decide +kernel
theorem eX10_told_137 : decode MX10_told.2.1 137 = .ok (.ireturn, 1) := by decide +kernel
theorem eX10_told_138 : decode MX10_told.2.1 138 = .ok (.aload_n 0, 1) := by decide +kernel
theorem eX10_told_139 : decode MX10_told.2.1 139 = .ok (.getfield 32, 3) := by decide +kernel
theorem eX10_told_142 : decode MX10_told.2.1 142 = .ok (.getfield 143, 3) := by decide +kernel
theorem eX10_told_145 : decode MX10_told.2.1 145 = .ok (.ireturn, 1) := by decide +kernel
theorem eX10_told_146 : decode MX10_told.2.1 146 = .ok (.aload_n 3, 1) := by decide +kernel
theorem eX10_told_147 : decode MX10_told.2.1 147 = .ok (.getfield 133, 3) := by decide +kernel
theorem eX10_told_150 : decode MX10_told.2.1 150 = .ok (.invokevirtual 146, 3) := by decide +kernel
theorem eX10_told_153 : decode MX10_told.2.1 153 = .ok (.ifCond .eq 7, 3) := by decide +kernel
theorem eX10_told_156 : decode MX10_told.2.1 156 = .ok (.iconst 1, 1) := by decide +kernel
theorem eX10_told_157 : decode MX10_told.2.1 157 = .ok (.goto 4, 3) := by decide +kernel
theorem eX10_told_160 : decode MX10_told.2.1 160 = .ok (.iconst 0, 1) := by decide +kernel
theorem eX10_told_161 : decode MX10_told.2.1 161 = .ok (.ireturn, 1) := by decide +kernel
theorem eX10_told_162 : decode MX10_told.2.1 162 = .ok (.aload_n 0, 1) := by decide +kernel
theorem eX10_told_163 : decode MX10_told.2.1 163 = .ok (.getfield 32, 3) := by decide +kernel
theorem eX10_told_166 : decode MX10_told.2.1 166 = .ok (.getfield 150, 3) := by decide +kernel
theorem eX10_told_169 : decode MX10_told.2.1 169 = .ok (.ireturn, 1) := by decide +kernel
theorem eX10_told_170 : decode MX10_told.2.1 170 = .ok (.aload_n 0, 1) := by decide +kernel
theorem eX10_told_171 : decode MX10_told.2.1 171 = .ok (.getfield 32, 3) := by decide +kernel
theorem eX10_told_174 : decode MX10_told.2.1 174 = .ok (.getfield 153, 3) := by decide +kernel
theorem eX10_told_177 : decode MX10_told.2.1 177 = .ok (.ireturn, 1) := by decide +kernel
theorem eX10_told_178 : decode MX10_told.2.1 178 = .ok (.aload_n 0, 1) := by decide +kernel
theorem eX10_told_179 : decode MX10_told.2.1 179 = .ok (.getfield 32, 3) := by decide +kernel
theorem eX10_told_182 : decode MX10_told.2.1 182 = .ok (.getfield 156, 3) := by decide +kernel
theorem eX10_told_185 : decode MX10_told.2.1 185 = .ok (.ireturn, 1) := by decide +kernel
theorem eX10_told_186 : decode MX10_told.2.1 186 = .ok (.aload_n 0, 1) := by decide +kernel
theorem eX10_told_187 : decode MX10_told.2.1 187 = .ok (.getfield 32, 3) := by decide +kernel
theorem eX10_told_190 : decode MX10_told.2.1 190 = .ok (.getfield 159, 3) := by decide +kernel
theorem eX10_told_193 : decode MX10_told.2.1 193 = .ok (.ireturn, 1) := by decide +kernel
theorem eX10_told_194 : decode MX10_told.2.1 194 = .ok (.iconst (-1), 1) := by decide +kernel
theorem eX10_told_195 : decode MX10_told.2.1 195 = .ok (.ireturn, 1) := by decide +kernel
set_option maxRecDepth 20000 in
theorem bX10_told_0 {d : Nat} {Q : Option Value → St → Prop} (x1 : Int32) (x2 : Int32) (σ : St) 
    (k1 : (0 ≤ x1 ∧ x1 < (σ.1 0 1) ∧ x1 < 8) → x2 < 100 → x2 < 200 → Ct yX4_look MX4_look (d + 3) [.ref 8, .ref (gr 1 x1.toNatClampNeg)] σ (fun v σ1 => Run MX10_told (d + 4) 81 [some (.ref 0), none, some (.int x2), some (.ref (gr 1 x1.toNatClampNeg))] (v.toList ++ []) σ1 Q))
    (k2 : (0 ≤ x1 ∧ x1 < (σ.1 0 1) ∧ x1 < 8) → x2 < 100 → (200 : Int32) ≤ x2 → ((200 : Int32) + (σ.1 ((gr 1 x1.toNatClampNeg)) 0)) ≤ x2 → Ct yX4_look MX4_look (d + 3) [.ref 8, .ref (gr 1 x1.toNatClampNeg)] σ (fun v σ1 => Run MX10_told (d + 4) 81 [some (.ref 0), none, some (.int x2), some (.ref (gr 1 x1.toNatClampNeg))] (v.toList ++ []) σ1 Q))
    (k3 : (0 ≤ x1 ∧ x1 < (σ.1 0 1) ∧ x1 < 8) → x2 < 100 → (200 : Int32) ≤ x2 → x2 < ((200 : Int32) + (σ.1 ((gr 1 x1.toNatClampNeg)) 0)) → Q (some (.int (((aG (gr (gr (gr 1 x1.toNatClampNeg) 2) 1) (x2 - 200) σ))))) σ)
    (k4 : (0 ≤ x1 ∧ x1 < (σ.1 0 1) ∧ x1 < 8) → (100 : Int32) ≤ x2 → ((100 : Int32) + (σ.1 ((gr 1 x1.toNatClampNeg)) 1)) ≤ x2 → x2 < 200 → Ct yX4_look MX4_look (d + 3) [.ref 8, .ref (gr 1 x1.toNatClampNeg)] σ (fun v σ1 => Run MX10_told (d + 4) 81 [some (.ref 0), none, some (.int x2), some (.ref (gr 1 x1.toNatClampNeg))] (v.toList ++ []) σ1 Q))
    (k5 : (0 ≤ x1 ∧ x1 < (σ.1 0 1) ∧ x1 < 8) → (100 : Int32) ≤ x2 → ((100 : Int32) + (σ.1 ((gr 1 x1.toNatClampNeg)) 1)) ≤ x2 → (200 : Int32) ≤ x2 → ((200 : Int32) + (σ.1 ((gr 1 x1.toNatClampNeg)) 0)) ≤ x2 → Ct yX4_look MX4_look (d + 3) [.ref 8, .ref (gr 1 x1.toNatClampNeg)] σ (fun v σ1 => Run MX10_told (d + 4) 81 [some (.ref 0), none, some (.int x2), some (.ref (gr 1 x1.toNatClampNeg))] (v.toList ++ []) σ1 Q))
    (k6 : (0 ≤ x1 ∧ x1 < (σ.1 0 1) ∧ x1 < 8) → (100 : Int32) ≤ x2 → ((100 : Int32) + (σ.1 ((gr 1 x1.toNatClampNeg)) 1)) ≤ x2 → (200 : Int32) ≤ x2 → x2 < ((200 : Int32) + (σ.1 ((gr 1 x1.toNatClampNeg)) 0)) → Q (some (.int (((aG (gr (gr (gr 1 x1.toNatClampNeg) 2) 1) (x2 - 200) σ))))) σ)
    (k7 : (0 ≤ x1 ∧ x1 < (σ.1 0 1) ∧ x1 < 8) → (100 : Int32) ≤ x2 → x2 < ((100 : Int32) + (σ.1 ((gr 1 x1.toNatClampNeg)) 1)) → Q (some (.int ((rJ6_bitCount_0f7a4 (((aG (gr (gr 1 x1.toNatClampNeg) 3) (x2 - 100) σ))) σ)))) σ)
    (k8 : (¬ (0 ≤ x1 ∧ x1 < (σ.1 0 1) ∧ x1 < 8)) → Q (some (.int (-1))) σ)
    : Run MX10_told (d + 4) 0 [some (.ref 0), some (.int x1), some (.int x2), none] [] σ Q := by
  refine (go_aload_n 0 eX10_told_0 rfl rfl).run ?_
  refine (go_iload_n 1 eX10_told_1 rfl rfl).run ?_
  refine Run.callV (d := (d + 3)) (As := [.int x1]) mX10_netNumbered lkX10_114 kd_0 (by decide) rfl rfl rfl rfl rfl (Nat.le_of_ble_eq_true rfl) eX10_told_2 (Ct.mono (qX10_netNumbered (d + 3) x1 σ) ?_)
  rintro v1 s1 ⟨hv1, hs1⟩
  rw [hv1, hs1]
  by_cases h1 : 0 ≤ x1 ∧ x1 < (σ.1 0 1) ∧ x1 < 8
  · rw [if_pos h1]
    refine (go_astore_n 3 (L' := [some (.ref 0), some (.int x1), some (.int x2), some (.ref (gr 1 x1.toNatClampNeg))]) eX10_told_5 rfl (Nat.le_of_ble_eq_true rfl) rfl).run ?_
    refine (go_aload_n 3 eX10_told_6 rfl rfl).run ?_
    refine (go_ifnonnull_r 12 eX10_told_7 rfl).run ?_
    refine (go_iload_n 2 eX10_told_12 rfl rfl).run ?_
    refine (go_bipush (v := 100) eX10_told_13 rfl).run ?_
    refine (bi_lt 41 eX10_told_15 rfl).run (fun h2 => ?_) (fun h2 => ?_)
    · refine (go_iload_n 2 eX10_told_41 rfl rfl).run ?_
      refine (go_sipush (v := 200) eX10_told_42 rfl).run ?_
      refine (bi_lt 73 eX10_told_45 rfl).run (fun h3 => ?_) (fun h3 => ?_)
      · refine (go_aload_n 0 eX10_told_73 rfl rfl).run ?_
        refine (go_getr flX10_32 rf_9_4 kd_0 gr_0_4 eX10_told_74).run ?_
        refine (go_aload_n 3 eX10_told_77 rfl rfl).run ?_
        refine (go_sub (L' := [some (.ref 0), none, some (.int x2), some (.ref (gr 1 x1.toNatClampNeg))]) (lsub_keep (lsub_drop (lsub_keep (lsub_keep lsub_nil))))).run ?_
        exact Run.callV (d := (d + 3)) (As := [.ref (gr 1 x1.toNatClampNeg)]) mX4_look lkX10_139 kd_8 (by decide) rfl rfl rfl rfl rfl (Nat.le_of_ble_eq_true rfl) eX10_told_78 (k1 h1 h2 h3)
      · refine (go_iload_n 2 eX10_told_48 rfl rfl).run ?_
        refine (go_sipush (v := 200) eX10_told_49 rfl).run ?_
        refine (go_aload_n 3 eX10_told_52 rfl rfl).run ?_
        refine (go_geti flX10_130 rf_5_0 (ka_103 (vp_of h1.1 h1.2.2 (by decide))) eX10_told_53).run ?_
        refine (go_iadd eX10_told_56).run ?_
        refine (bi_ge 73 eX10_told_57 rfl).run (fun h4 => ?_) (fun h4 => ?_)
        · refine (go_aload_n 0 eX10_told_73 rfl rfl).run ?_
          refine (go_getr flX10_32 rf_9_4 kd_0 gr_0_4 eX10_told_74).run ?_
          refine (go_aload_n 3 eX10_told_77 rfl rfl).run ?_
          refine (go_sub (L' := [some (.ref 0), none, some (.int x2), some (.ref (gr 1 x1.toNatClampNeg))]) (lsub_keep (lsub_drop (lsub_keep (lsub_keep lsub_nil))))).run ?_
          exact Run.callV (d := (d + 3)) (As := [.ref (gr 1 x1.toNatClampNeg)]) mX4_look lkX10_139 kd_8 (by decide) rfl rfl rfl rfl rfl (Nat.le_of_ble_eq_true rfl) eX10_told_78 (k2 h1 h2 h3 h4)
        · refine (go_aload_n 3 eX10_told_60 rfl rfl).run ?_
          refine (go_getr (r := gr (gr 1 x1.toNatClampNeg) 2) flX10_133 rf_5_2 (ka_103 (vp_of h1.1 h1.2.2 (by decide))) rfl eX10_told_61).run ?_
          refine (go_iload_n 2 eX10_told_64 rfl rfl).run ?_
          refine (go_sipush (v := 200) eX10_told_65 rfl).run ?_
          refine (go_isub eX10_told_68).run ?_
          refine Run.callV1 (d := (d + 3)) (As := [.int (x2 - 200)]) (r := .int (((aG (gr (gr (gr 1 x1.toNatClampNeg) 2) 1) (x2 - 200) σ)))) mX8_lowOf lkX10_136 (kf_5_2 (ka_103 (vp_of h1.1 h1.2.2 (by decide)))).1 (by decide) rfl rfl rfl rfl rfl (Nat.le_of_ble_eq_true rfl) eX10_told_69 (qX8_lowOf (d + 2) (gr (gr 1 x1.toNatClampNeg) 2) (x2 - 200) σ (kf_5_2 (ka_103 (vp_of h1.1 h1.2.2 (by decide)))).1 ) ?_
          exact Run.ret (v := some (.int (((aG (gr (gr (gr 1 x1.toNatClampNeg) 2) 1) (x2 - 200) σ))))) (k3 h1 h2 h3 h4) ⟨Or.inl rfl, eX10_told_72⟩ rfl
    · refine (go_iload_n 2 eX10_told_18 rfl rfl).run ?_
      refine (go_bipush (v := 100) eX10_told_19 rfl).run ?_
      refine (go_aload_n 3 eX10_told_21 rfl rfl).run ?_
      refine (go_geti flX10_118 rf_5_1 (ka_103 (vp_of h1.1 h1.2.2 (by decide))) eX10_told_22).run ?_
      refine (go_iadd eX10_told_25).run ?_
      refine (bi_ge 41 eX10_told_26 rfl).run (fun h5 => ?_) (fun h5 => ?_)
      · refine (go_iload_n 2 eX10_told_41 rfl rfl).run ?_
        refine (go_sipush (v := 200) eX10_told_42 rfl).run ?_
        refine (bi_lt 73 eX10_told_45 rfl).run (fun h6 => ?_) (fun h6 => ?_)
        · refine (go_aload_n 0 eX10_told_73 rfl rfl).run ?_
          refine (go_getr flX10_32 rf_9_4 kd_0 gr_0_4 eX10_told_74).run ?_
          refine (go_aload_n 3 eX10_told_77 rfl rfl).run ?_
          refine (go_sub (L' := [some (.ref 0), none, some (.int x2), some (.ref (gr 1 x1.toNatClampNeg))]) (lsub_keep (lsub_drop (lsub_keep (lsub_keep lsub_nil))))).run ?_
          exact Run.callV (d := (d + 3)) (As := [.ref (gr 1 x1.toNatClampNeg)]) mX4_look lkX10_139 kd_8 (by decide) rfl rfl rfl rfl rfl (Nat.le_of_ble_eq_true rfl) eX10_told_78 (k4 h1 h2 h5 h6)
        · refine (go_iload_n 2 eX10_told_48 rfl rfl).run ?_
          refine (go_sipush (v := 200) eX10_told_49 rfl).run ?_
          refine (go_aload_n 3 eX10_told_52 rfl rfl).run ?_
          refine (go_geti flX10_130 rf_5_0 (ka_103 (vp_of h1.1 h1.2.2 (by decide))) eX10_told_53).run ?_
          refine (go_iadd eX10_told_56).run ?_
          refine (bi_ge 73 eX10_told_57 rfl).run (fun h7 => ?_) (fun h7 => ?_)
          · refine (go_aload_n 0 eX10_told_73 rfl rfl).run ?_
            refine (go_getr flX10_32 rf_9_4 kd_0 gr_0_4 eX10_told_74).run ?_
            refine (go_aload_n 3 eX10_told_77 rfl rfl).run ?_
            refine (go_sub (L' := [some (.ref 0), none, some (.int x2), some (.ref (gr 1 x1.toNatClampNeg))]) (lsub_keep (lsub_drop (lsub_keep (lsub_keep lsub_nil))))).run ?_
            exact Run.callV (d := (d + 3)) (As := [.ref (gr 1 x1.toNatClampNeg)]) mX4_look lkX10_139 kd_8 (by decide) rfl rfl rfl rfl rfl (Nat.le_of_ble_eq_true rfl) eX10_told_78 (k5 h1 h2 h5 h6 h7)
          · refine (go_aload_n 3 eX10_told_60 rfl rfl).run ?_
            refine (go_getr (r := gr (gr 1 x1.toNatClampNeg) 2) flX10_133 rf_5_2 (ka_103 (vp_of h1.1 h1.2.2 (by decide))) rfl eX10_told_61).run ?_
            refine (go_iload_n 2 eX10_told_64 rfl rfl).run ?_
            refine (go_sipush (v := 200) eX10_told_65 rfl).run ?_
            refine (go_isub eX10_told_68).run ?_
            refine Run.callV1 (d := (d + 3)) (As := [.int (x2 - 200)]) (r := .int (((aG (gr (gr (gr 1 x1.toNatClampNeg) 2) 1) (x2 - 200) σ)))) mX8_lowOf lkX10_136 (kf_5_2 (ka_103 (vp_of h1.1 h1.2.2 (by decide)))).1 (by decide) rfl rfl rfl rfl rfl (Nat.le_of_ble_eq_true rfl) eX10_told_69 (qX8_lowOf (d + 2) (gr (gr 1 x1.toNatClampNeg) 2) (x2 - 200) σ (kf_5_2 (ka_103 (vp_of h1.1 h1.2.2 (by decide)))).1 ) ?_
            exact Run.ret (v := some (.int (((aG (gr (gr (gr 1 x1.toNatClampNeg) 2) 1) (x2 - 200) σ))))) (k6 h1 h2 h5 h6 h7) ⟨Or.inl rfl, eX10_told_72⟩ rfl
      · refine (go_aload_n 3 eX10_told_29 rfl rfl).run ?_
        refine (go_iload_n 2 eX10_told_30 rfl rfl).run ?_
        refine (go_bipush (v := 100) eX10_told_31 rfl).run ?_
        refine (go_isub eX10_told_33).run ?_
        refine Run.callV1 (d := (d + 3)) (As := [.int (x2 - 100)]) (r := .int (((aG (gr (gr 1 x1.toNatClampNeg) 3) (x2 - 100) σ)))) mX6_row lkX10_121 (ka_103 (vp_of h1.1 h1.2.2 (by decide))) (by decide) rfl rfl rfl rfl rfl (Nat.le_of_ble_eq_true rfl) eX10_told_34 (qX6_row (d + 2) (gr 1 x1.toNatClampNeg) (x2 - 100) σ (ka_103 (vp_of h1.1 h1.2.2 (by decide))) ) ?_
        refine Run.callS1 (d := (d + 3)) (As := [.int (((aG (gr (gr 1 x1.toNatClampNeg) 3) (x2 - 100) σ)))]) (r := .int ((rJ6_bitCount_0f7a4 (((aG (gr (gr 1 x1.toNatClampNeg) 3) (x2 - 100) σ))) σ))) mJ6_bitCount_0f7a4 lkX10_125 rfl rfl rfl (Nat.le_of_ble_eq_true rfl) eX10_told_37 (qJ6_bitCount_0f7a4 (d + 3) (((aG (gr (gr 1 x1.toNatClampNeg) 3) (x2 - 100) σ))) σ  ) ?_
        exact Run.ret (v := some (.int ((rJ6_bitCount_0f7a4 (((aG (gr (gr 1 x1.toNatClampNeg) 3) (x2 - 100) σ))) σ)))) (k7 h1 h2 h5) ⟨Or.inl rfl, eX10_told_40⟩ rfl
  · rw [if_neg h1]
    refine (go_astore_nN 3 (L' := [some (.ref 0), some (.int x1), some (.int x2), some (.null)]) eX10_told_5 rfl (Nat.le_of_ble_eq_true rfl) rfl).run ?_
    refine (go_aload_nN 3 eX10_told_6 rfl rfl).run ?_
    refine (go_ifnonnull_n eX10_told_7).run ?_
    refine (go_iconst (v := -1) eX10_told_10 rfl).run ?_
    exact Run.ret (v := some (.int (-1))) (k8 h1) ⟨Or.inl rfl, eX10_told_11⟩ rfl

set_option maxRecDepth 20000 in
theorem bX10_told_81 {d : Nat} {Q : Option Value → St → Prop} (x2 : Int32) (rx3 : Nat) (σ : St) (hrx3 : kd rx3 = 5) 
    (k1 : x2 = 0 → Q (some (.int (σ.1 rx3 0))) σ)
    (k2 : x2 = 1 → Q (some (.int (σ.1 rx3 1))) σ)
    (k3 : x2 = 2 → Q (some (.int (σ.1 8 0))) σ)
    (k4 : x2 = 3 → Ct yX8_whole MX8_whole (d + 3) [.ref (gr rx3 2)] σ (fun v σ1 => Run MX10_told (d + 4) 153 [none, none, none, none] (v.toList ++ []) σ1 Q))
    (k5 : x2 = 4 → Q (some (.int (σ.1 8 1))) σ)
    (k6 : x2 = 5 → Q (some (.int (σ.1 8 2))) σ)
    (k7 : x2 = 6 → Q (some (.int (σ.1 8 3))) σ)
    (k8 : x2 = 7 → Q (some (.int (σ.1 8 4))) σ)
    (k9 : (x2.toInt < 0 ∨ 7 < x2.toInt) → Q (some (.int (-1))) σ)
    : Run MX10_told (d + 4) 81 [some (.ref 0), none, some (.int x2), some (.ref rx3)] [] σ Q := by
  refine (go_iload_n 2 eX10_told_81 rfl rfl).run ?_
  by_cases h1 : x2 = 0
  · refine (go_tableIn 128 eX10_told_82 (by rw [h1]; decide) (by rw [h1]; decide) (by rw [h1]; rfl) rfl).run ?_
    refine (go_aload_n 3 eX10_told_128 rfl rfl).run ?_
    refine (go_geti flX10_130 rf_5_0 hrx3 eX10_told_129).run ?_
    exact Run.ret (v := some (.int (σ.1 rx3 0))) (k1 h1) ⟨Or.inl rfl, eX10_told_132⟩ rfl
  have nh1_0 := h1
  clear h1
  by_cases h1 : x2 = 1
  · refine (go_tableIn 133 eX10_told_82 (by rw [h1]; decide) (by rw [h1]; decide) (by rw [h1]; rfl) rfl).run ?_
    refine (go_aload_n 3 eX10_told_133 rfl rfl).run ?_
    refine (go_geti flX10_118 rf_5_1 hrx3 eX10_told_134).run ?_
    exact Run.ret (v := some (.int (σ.1 rx3 1))) (k2 h1) ⟨Or.inl rfl, eX10_told_137⟩ rfl
  have nh1_1 := h1
  clear h1
  by_cases h1 : x2 = 2
  · refine (go_tableIn 138 eX10_told_82 (by rw [h1]; decide) (by rw [h1]; decide) (by rw [h1]; rfl) rfl).run ?_
    refine (go_aload_n 0 eX10_told_138 rfl rfl).run ?_
    refine (go_getr flX10_32 rf_9_4 kd_0 gr_0_4 eX10_told_139).run ?_
    refine (go_geti flX10_143 rf_4_0 kd_8 eX10_told_142).run ?_
    exact Run.ret (v := some (.int (σ.1 8 0))) (k3 h1) ⟨Or.inl rfl, eX10_told_145⟩ rfl
  have nh1_2 := h1
  clear h1
  by_cases h1 : x2 = 3
  · refine (go_tableIn 146 eX10_told_82 (by rw [h1]; decide) (by rw [h1]; decide) (by rw [h1]; rfl) rfl).run ?_
    refine (go_aload_n 3 eX10_told_146 rfl rfl).run ?_
    refine (go_getr (r := gr rx3 2) flX10_133 rf_5_2 hrx3 rfl eX10_told_147).run ?_
    refine (go_sub (L' := [none, none, none, none]) (lsub_drop (lsub_keep (lsub_drop (lsub_drop lsub_nil))))).run ?_
    exact Run.callV (d := (d + 3)) (As := []) mX8_whole lkX10_146 (kf_5_2 hrx3).1 (by decide) rfl rfl rfl rfl rfl (Nat.le_of_ble_eq_true rfl) eX10_told_150 (k4 h1)
  have nh1_3 := h1
  clear h1
  by_cases h1 : x2 = 4
  · refine (go_tableIn 162 eX10_told_82 (by rw [h1]; decide) (by rw [h1]; decide) (by rw [h1]; rfl) rfl).run ?_
    refine (go_aload_n 0 eX10_told_162 rfl rfl).run ?_
    refine (go_getr flX10_32 rf_9_4 kd_0 gr_0_4 eX10_told_163).run ?_
    refine (go_geti flX10_150 rf_4_1 kd_8 eX10_told_166).run ?_
    exact Run.ret (v := some (.int (σ.1 8 1))) (k5 h1) ⟨Or.inl rfl, eX10_told_169⟩ rfl
  have nh1_4 := h1
  clear h1
  by_cases h1 : x2 = 5
  · refine (go_tableIn 170 eX10_told_82 (by rw [h1]; decide) (by rw [h1]; decide) (by rw [h1]; rfl) rfl).run ?_
    refine (go_aload_n 0 eX10_told_170 rfl rfl).run ?_
    refine (go_getr flX10_32 rf_9_4 kd_0 gr_0_4 eX10_told_171).run ?_
    refine (go_geti flX10_153 rf_4_2 kd_8 eX10_told_174).run ?_
    exact Run.ret (v := some (.int (σ.1 8 2))) (k6 h1) ⟨Or.inl rfl, eX10_told_177⟩ rfl
  have nh1_5 := h1
  clear h1
  by_cases h1 : x2 = 6
  · refine (go_tableIn 178 eX10_told_82 (by rw [h1]; decide) (by rw [h1]; decide) (by rw [h1]; rfl) rfl).run ?_
    refine (go_aload_n 0 eX10_told_178 rfl rfl).run ?_
    refine (go_getr flX10_32 rf_9_4 kd_0 gr_0_4 eX10_told_179).run ?_
    refine (go_geti flX10_156 rf_4_3 kd_8 eX10_told_182).run ?_
    exact Run.ret (v := some (.int (σ.1 8 3))) (k7 h1) ⟨Or.inl rfl, eX10_told_185⟩ rfl
  have nh1_6 := h1
  clear h1
  by_cases h1 : x2 = 7
  · refine (go_tableIn 186 eX10_told_82 (by rw [h1]; decide) (by rw [h1]; decide) (by rw [h1]; rfl) rfl).run ?_
    refine (go_aload_n 0 eX10_told_186 rfl rfl).run ?_
    refine (go_getr flX10_32 rf_9_4 kd_0 gr_0_4 eX10_told_187).run ?_
    refine (go_geti flX10_159 rf_4_4 kd_8 eX10_told_190).run ?_
    exact Run.ret (v := some (.int (σ.1 8 4))) (k8 h1) ⟨Or.inl rfl, eX10_told_193⟩ rfl
  have nh1_7 := h1
  clear h1
  have h1 : x2.toInt < 0 ∨ 7 < x2.toInt := by simp only [← Int32.toInt_inj] at nh1_0 nh1_1 nh1_2 nh1_3 nh1_4 nh1_5 nh1_6 nh1_7; simp at nh1_0 nh1_1 nh1_2 nh1_3 nh1_4 nh1_5 nh1_6 nh1_7; omega
  refine (go_tableOut 194 eX10_told_82 h1 rfl).run ?_
  refine (go_iconst (v := -1) eX10_told_194 rfl).run ?_
  exact Run.ret (v := some (.int (-1))) (k9 h1) ⟨Or.inl rfl, eX10_told_195⟩ rfl

set_option maxRecDepth 20000 in
theorem bX10_told_153 {d : Nat} {Q : Option Value → St → Prop} (s0 : Int32) (σ : St) 
    (k1 : Q (some (.int (bI (¬ s0 = 0)))) σ)
    : Run MX10_told (d + 4) 153 [none, none, none, none] [.int s0] σ Q := by
  have hJh1 : Run MX10_told (d + 4) 161 [none, none, none, none] [.int (bI (¬ s0 = 0))] σ Q := by
    exact Run.ret (v := some (.int (bI (¬ s0 = 0)))) k1 ⟨Or.inl rfl, eX10_told_161⟩ rfl
  refine (bz_eq 160 eX10_told_153 rfl).run (fun h1 => ?_) (fun h1 => ?_)
  · refine (go_iconst (v := 0) eX10_told_160 rfl).run ?_
    first | exact hJh1 | (simp only [if_pos h1] at hJh1; exact hJh1) | (simp only [eq_true h1, not_true_eq_false, true_and, and_true, false_and, and_false, true_or, or_true, false_or, or_false, not_true_eq_false, not_false_eq_true] at hJh1; exact hJh1) | exact Run.eq (by simp [eq_true h1, not_true_eq_false, bI]) (by simp [eq_true h1, not_true_eq_false, bI]) rfl hJh1
  · refine (go_iconst (v := 1) eX10_told_156 rfl).run ?_
    refine (go_goto 161 eX10_told_157 rfl).run ?_
    first | exact hJh1 | (simp only [if_neg (h1)] at hJh1; exact hJh1) | (simp only [eq_false h1, not_false_eq_true, true_and, and_true, false_and, and_false, true_or, or_true, false_or, or_false, not_true_eq_false, not_false_eq_true] at hJh1; exact hJh1) | exact Run.eq (by simp [eq_false h1, not_false_eq_true, bI]) (by simp [eq_false h1, not_false_eq_true, bI]) rfl hJh1

/-! CarryNets.cell -/
theorem eX10_cell_0 : decode MX10_cell.2.1 0 = .ok (.aload_n 0, 1) := by decide +kernel
theorem eX10_cell_1 : decode MX10_cell.2.1 1 = .ok (.iload_n 1, 1) := by decide +kernel
theorem eX10_cell_2 : decode MX10_cell.2.1 2 = .ok (.invokevirtual 114, 3) := by decide +kernel
theorem eX10_cell_5 : decode MX10_cell.2.1 5 = .ok (.astore 5, 2) := by decide +kernel
theorem eX10_cell_7 : decode MX10_cell.2.1 7 = .ok (.aload 5, 2) := by decide +kernel
theorem eX10_cell_9 : decode MX10_cell.2.1 9 = .ok (.ifnull 29, 3) := by decide +kernel
theorem eX10_cell_12 : decode MX10_cell.2.1 12 = .ok (.iload_n 2, 1) := by decide +kernel
theorem eX10_cell_13 : decode MX10_cell.2.1 13 = .ok (.ifCond .lt 25, 3) := by decide +kernel
theorem eX10_cell_16 : decode MX10_cell.2.1 16 = .ok (.iload_n 2, 1) := by decide +kernel
theorem eX10_cell_17 : decode MX10_cell.2.1 17 = .ok (.aload 5, 2) := by decide +kernel
theorem eX10_cell_19 : decode MX10_cell.2.1 19 = .ok (.getfield 118, 3) := by decide +kernel
theorem eX10_cell_22 : decode MX10_cell.2.1 22 = .ok (.if_icmp .ge 16, 3) := by decide +kernel
theorem eX10_cell_25 : decode MX10_cell.2.1 25 = .ok (.iload_n 3, 1) := by decide +kernel
theorem eX10_cell_26 : decode MX10_cell.2.1 26 = .ok (.ifCond .lt 12, 3) := by decide +kernel
theorem eX10_cell_29 : decode MX10_cell.2.1 29 = .ok (.iload_n 3, 1) := by decide +kernel
theorem eX10_cell_30 : decode MX10_cell.2.1 30 = .ok (.aload 5, 2) := by decide +kernel
theorem eX10_cell_32 : decode MX10_cell.2.1 32 = .ok (.getfield 130, 3) := by decide +kernel
theorem eX10_cell_35 : decode MX10_cell.2.1 35 = .ok (.if_icmp .lt 5, 3) := by decide +kernel
theorem eX10_cell_38 : decode MX10_cell.2.1 38 = .ok (.iconst (-1), 1) := by decide +kernel
theorem eX10_cell_39 : decode MX10_cell.2.1 39 = .ok (.ireturn, 1) := by decide +kernel
theorem eX10_cell_40 : decode MX10_cell.2.1 40 = .ok (.aload_n 0, 1) := by decide +kernel
theorem eX10_cell_41 : decode MX10_cell.2.1 41 = .ok (.getfield 25, 3) := by decide +kernel
theorem eX10_cell_44 : decode MX10_cell.2.1 44 = .ok (.aload 5, 2) := by decide +kernel
theorem eX10_cell_46 : decode MX10_cell.2.1 46 = .ok (.getfield 130, 3) := by decide +kernel
theorem eX10_cell_49 : decode MX10_cell.2.1 49 = .ok (.invokevirtual 162, 3) := by decide +kernel
theorem eX10_cell_52 : decode MX10_cell.2.1 52 = .ok (.iconst 0, 1) := by decide +kernel
theorem eX10_cell_53 : decode MX10_cell.2.1 53 = .ok (.istore 6, 2) := by decide +kernel
theorem eX10_cell_55 : decode MX10_cell.2.1 55 = .ok (.iload 6, 2) := by decide +kernel
theorem eX10_cell_57 : decode MX10_cell.2.1 57 = .ok (.iload_n 2, 1) := by decide +kernel
theorem eX10_cell_58 : decode MX10_cell.2.1 58 = .ok (.if_icmp .gt 23, 3) := by decide +kernel
theorem eX10_cell_61 : decode MX10_cell.2.1 61 = .ok (.aload_n 0, 1) := by decide +kernel
theorem eX10_cell_62 : decode MX10_cell.2.1 62 = .ok (.getfield 25, 3) := by decide +kernel
theorem eX10_cell_65 : decode MX10_cell.2.1 65 = .ok (.aload 5, 2) := by decide +kernel
theorem eX10_cell_67 : decode MX10_cell.2.1 67 = .ok (.iload 6, 2) := by decide +kernel
theorem eX10_cell_69 : decode MX10_cell.2.1 69 = .ok (.invokevirtual 121, 3) := by decide +kernel
theorem eX10_cell_72 : decode MX10_cell.2.1 72 = .ok (.invokevirtual 166, 3) := by decide +kernel
theorem eX10_cell_75 : decode MX10_cell.2.1 75 = .ok (.iinc 6 1, 3) := by decide +kernel
theorem eX10_cell_78 : decode MX10_cell.2.1 78 = .ok (.goto (-23), 3) := by decide +kernel
theorem eX10_cell_81 : decode MX10_cell.2.1 81 = .ok (.iload 4, 2) := by decide +kernel
theorem eX10_cell_83 : decode MX10_cell.2.1 83 = .ok (.tableswitch 52 0 2 #[25, 34, 43], 25) := by decide +kernel
theorem eX10_cell_108 : decode MX10_cell.2.1 108 = .ok (.aload_n 0, 1) := by decide +kernel
theorem eX10_cell_109 : decode MX10_cell.2.1 109 = .ok (.getfield 25, 3) := by decide +kernel
theorem eX10_cell_112 : decode MX10_cell.2.1 112 = .ok (.iload_n 3, 1) := by decide +kernel
theorem eX10_cell_113 : decode MX10_cell.2.1 113 = .ok (.invokevirtual 169, 3) := by decide +kernel
theorem eX10_cell_116 : decode MX10_cell.2.1 116 = .ok (.ireturn, 1) := by decide +kernel
theorem eX10_cell_117 : decode MX10_cell.2.1 117 = .ok (.aload_n 0, 1) := by decide +kernel
theorem eX10_cell_118 : decode MX10_cell.2.1 118 = .ok (.getfield 25, 3) := by decide +kernel
theorem eX10_cell_121 : decode MX10_cell.2.1 121 = .ok (.iload_n 3, 1) := by decide +kernel
theorem eX10_cell_122 : decode MX10_cell.2.1 122 = .ok (.invokevirtual 136, 3) := by decide +kernel
theorem eX10_cell_125 : decode MX10_cell.2.1 125 = .ok (.ireturn, 1) := by decide +kernel
theorem eX10_cell_126 : decode MX10_cell.2.1 126 = .ok (.aload_n 0, 1) := by decide +kernel
theorem eX10_cell_127 : decode MX10_cell.2.1 127 = .ok (.getfield 25, 3) := by decide +kernel
theorem eX10_cell_130 : decode MX10_cell.2.1 130 = .ok (.iload_n 3, 1) := by decide +kernel
theorem eX10_cell_131 : decode MX10_cell.2.1 131 = .ok (.invokevirtual 172, 3) := by decide +kernel
theorem eX10_cell_134 : decode MX10_cell.2.1 134 = .ok (.ireturn, 1) := by decide +kernel
theorem eX10_cell_135 : decode MX10_cell.2.1 135 = .ok (.iconst (-1), 1) := by decide +kernel
theorem eX10_cell_136 : decode MX10_cell.2.1 136 = .ok (.ireturn, 1) := by decide +kernel
set_option maxRecDepth 20000 in
theorem bX10_cell_0 {d : Nat} {Q : Option Value → St → Prop} (x1 : Int32) (x2 : Int32) (x3 : Int32) (x4 : Int32) (σ : St) 
    (k1 : (0 ≤ x1 ∧ x1 < (σ.1 0 1) ∧ x1 < 8) → x2 < 0 → Q (some (.int (-1))) σ)
    (k2 : (0 ≤ x1 ∧ x1 < (σ.1 0 1) ∧ x1 < 8) → (0 : Int32) ≤ x2 → (σ.1 ((gr 1 x1.toNatClampNeg)) 1) ≤ x2 → Q (some (.int (-1))) σ)
    (k3 : (0 ≤ x1 ∧ x1 < (σ.1 0 1) ∧ x1 < 8) → (0 : Int32) ≤ x2 → x2 < (σ.1 ((gr 1 x1.toNatClampNeg)) 1) → x3 < 0 → Q (some (.int (-1))) σ)
    (k4 : (0 ≤ x1 ∧ x1 < (σ.1 0 1) ∧ x1 < 8) → (0 : Int32) ≤ x2 → x2 < (σ.1 ((gr 1 x1.toNatClampNeg)) 1) → (0 : Int32) ≤ x3 → x3 < (σ.1 ((gr 1 x1.toNatClampNeg)) 0) → Ct yX8_begin MX8_begin (d + 1) [.ref 4, .int (σ.1 ((gr 1 x1.toNatClampNeg)) 0)] σ (fun v σ1 => Run MX10_cell (d + 2) 52 [some (.ref 0), none, some (.int x2), some (.int x3), some (.int x4), some (.ref (gr 1 x1.toNatClampNeg)), none] (v.toList ++ []) σ1 Q))
    (k5 : (0 ≤ x1 ∧ x1 < (σ.1 0 1) ∧ x1 < 8) → (0 : Int32) ≤ x2 → x2 < (σ.1 ((gr 1 x1.toNatClampNeg)) 1) → (0 : Int32) ≤ x3 → (σ.1 ((gr 1 x1.toNatClampNeg)) 0) ≤ x3 → Q (some (.int (-1))) σ)
    (k6 : (¬ (0 ≤ x1 ∧ x1 < (σ.1 0 1) ∧ x1 < 8)) → Q (some (.int (-1))) σ)
    : Run MX10_cell (d + 2) 0 [some (.ref 0), some (.int x1), some (.int x2), some (.int x3), some (.int x4), none, none] [] σ Q := by
  refine (go_aload_n 0 eX10_cell_0 rfl rfl).run ?_
  refine (go_iload_n 1 eX10_cell_1 rfl rfl).run ?_
  refine Run.callV (d := (d + 1)) (As := [.int x1]) mX10_netNumbered lkX10_114 kd_0 (by decide) rfl rfl rfl rfl rfl (Nat.le_of_ble_eq_true rfl) eX10_cell_2 (Ct.mono (qX10_netNumbered (d + 1) x1 σ) ?_)
  rintro v1 s1 ⟨hv1, hs1⟩
  rw [hv1, hs1]
  by_cases h1 : 0 ≤ x1 ∧ x1 < (σ.1 0 1) ∧ x1 < 8
  · rw [if_pos h1]
    refine (go_astore 5 (L' := [some (.ref 0), some (.int x1), some (.int x2), some (.int x3), some (.int x4), some (.ref (gr 1 x1.toNatClampNeg)), none]) eX10_cell_5 (Nat.le_of_ble_eq_true rfl) rfl).run ?_
    refine (go_aload 5 eX10_cell_7 rfl).run ?_
    refine (go_ifnull_r eX10_cell_9).run ?_
    refine (go_iload_n 2 eX10_cell_12 rfl rfl).run ?_
    refine (bz_lt 38 eX10_cell_13 rfl).run (fun h2 => ?_) (fun h2 => ?_)
    · refine (go_iconst (v := -1) eX10_cell_38 rfl).run ?_
      exact Run.ret (v := some (.int (-1))) (k1 h1 h2) ⟨Or.inl rfl, eX10_cell_39⟩ rfl
    · refine (go_iload_n 2 eX10_cell_16 rfl rfl).run ?_
      refine (go_aload 5 eX10_cell_17 rfl).run ?_
      refine (go_geti flX10_118 rf_5_1 (ka_103 (vp_of h1.1 h1.2.2 (by decide))) eX10_cell_19).run ?_
      refine (bi_ge 38 eX10_cell_22 rfl).run (fun h3 => ?_) (fun h3 => ?_)
      · refine (go_iconst (v := -1) eX10_cell_38 rfl).run ?_
        exact Run.ret (v := some (.int (-1))) (k2 h1 h2 h3) ⟨Or.inl rfl, eX10_cell_39⟩ rfl
      · refine (go_iload_n 3 eX10_cell_25 rfl rfl).run ?_
        refine (bz_lt 38 eX10_cell_26 rfl).run (fun h4 => ?_) (fun h4 => ?_)
        · refine (go_iconst (v := -1) eX10_cell_38 rfl).run ?_
          exact Run.ret (v := some (.int (-1))) (k3 h1 h2 h3 h4) ⟨Or.inl rfl, eX10_cell_39⟩ rfl
        · refine (go_iload_n 3 eX10_cell_29 rfl rfl).run ?_
          refine (go_aload 5 eX10_cell_30 rfl).run ?_
          refine (go_geti flX10_130 rf_5_0 (ka_103 (vp_of h1.1 h1.2.2 (by decide))) eX10_cell_32).run ?_
          refine (bi_lt 40 eX10_cell_35 rfl).run (fun h5 => ?_) (fun h5 => ?_)
          · refine (go_aload_n 0 eX10_cell_40 rfl rfl).run ?_
            refine (go_getr flX10_25 rf_9_3 kd_0 gr_0_3 eX10_cell_41).run ?_
            refine (go_aload 5 eX10_cell_44 rfl).run ?_
            refine (go_geti flX10_130 rf_5_0 (ka_103 (vp_of h1.1 h1.2.2 (by decide))) eX10_cell_46).run ?_
            refine (go_sub (L' := [some (.ref 0), none, some (.int x2), some (.int x3), some (.int x4), some (.ref (gr 1 x1.toNatClampNeg)), none]) (lsub_keep (lsub_drop (lsub_keep (lsub_keep (lsub_keep (lsub_keep (lsub_keep lsub_nil)))))))).run ?_
            exact Run.callV (d := (d + 1)) (As := [.int (σ.1 ((gr 1 x1.toNatClampNeg)) 0)]) mX8_begin lkX10_162 kd_4 (by decide) rfl rfl rfl rfl rfl (Nat.le_of_ble_eq_true rfl) eX10_cell_49 (k4 h1 h2 h3 h4 h5)
          · refine (go_iconst (v := -1) eX10_cell_38 rfl).run ?_
            exact Run.ret (v := some (.int (-1))) (k5 h1 h2 h3 h4 h5) ⟨Or.inl rfl, eX10_cell_39⟩ rfl
  · rw [if_neg h1]
    refine (go_astoreN 5 (L' := [some (.ref 0), some (.int x1), some (.int x2), some (.int x3), some (.int x4), some (.null), none]) eX10_cell_5 (Nat.le_of_ble_eq_true rfl) rfl).run ?_
    refine (go_aloadN 5 eX10_cell_7 rfl).run ?_
    refine (go_ifnull_n 38 eX10_cell_9 rfl).run ?_
    refine (go_iconst (v := -1) eX10_cell_38 rfl).run ?_
    exact Run.ret (v := some (.int (-1))) (k6 h1) ⟨Or.inl rfl, eX10_cell_39⟩ rfl

set_option maxRecDepth 20000 in
theorem bX10_cell_52 {d : Nat} {Q : Option Value → St → Prop} (x2 : Int32) (x3 : Int32) (x4 : Int32) (rx5 : Nat) (σ : St) (hrx5 : kd rx5 = 5) 
    (k1 : Run MX10_cell (d + 2) 55 [some (.ref 0), none, some (.int x2), some (.int x3), some (.int x4), some (.ref rx5), some (.int 0)] [] σ Q)
    : Run MX10_cell (d + 2) 52 [some (.ref 0), none, some (.int x2), some (.int x3), some (.int x4), some (.ref rx5), none] [] σ Q := by
  refine (go_iconst (v := 0) eX10_cell_52 rfl).run ?_
  refine (go_istore 6 (L' := [some (.ref 0), none, some (.int x2), some (.int x3), some (.int x4), some (.ref rx5), some (.int 0)]) eX10_cell_53 (Nat.le_of_ble_eq_true rfl) rfl).run ?_
  exact k1

set_option maxRecDepth 20000 in
theorem bX10_cell_55 {d : Nat} {Q : Option Value → St → Prop} (x2 : Int32) (x3 : Int32) (x4 : Int32) (rx5 : Nat) (x6 : Int32) (σ : St) (hrx5 : kd rx5 = 5) 
    (k1 : x2 < x6 → x4 = 0 → Q (some (.int (((aG (gr 4 2) x3 σ))))) σ)
    (k2 : x2 < x6 → x4 = 1 → Q (some (.int (((aG (gr 4 1) x3 σ))))) σ)
    (k3 : x2 < x6 → x4 = 2 → Q (some (.int (((aG (gr 4 3) x3 σ))))) σ)
    (k4 : x2 < x6 → (x4.toInt < 0 ∨ 2 < x4.toInt) → Q (some (.int (-1))) σ)
    (k5 : x6 ≤ x2 → Ct yX8_join MX8_join (d + 1) [.ref 4, .int (((aG (gr rx5 3) x6 σ)))] σ (fun v σ1 => Run MX10_cell (d + 2) 75 [some (.ref 0), none, some (.int x2), some (.int x3), some (.int x4), some (.ref rx5), some (.int x6)] (v.toList ++ []) σ1 Q))
    : Run MX10_cell (d + 2) 55 [some (.ref 0), none, some (.int x2), some (.int x3), some (.int x4), some (.ref rx5), some (.int x6)] [] σ Q := by
  refine (go_iload 6 eX10_cell_55 rfl).run ?_
  refine (go_iload_n 2 eX10_cell_57 rfl rfl).run ?_
  refine (bi_gt 81 eX10_cell_58 rfl).run (fun h1 => ?_) (fun h1 => ?_)
  · refine (go_iload 4 eX10_cell_81 rfl).run ?_
    by_cases h2 : x4 = 0
    · refine (go_tableIn 108 eX10_cell_83 (by rw [h2]; decide) (by rw [h2]; decide) (by rw [h2]; rfl) rfl).run ?_
      refine (go_aload_n 0 eX10_cell_108 rfl rfl).run ?_
      refine (go_getr flX10_25 rf_9_3 kd_0 gr_0_3 eX10_cell_109).run ?_
      refine (go_iload_n 3 eX10_cell_112 rfl rfl).run ?_
      refine Run.callV1 (d := (d + 1)) (As := [.int x3]) (r := .int (((aG (gr 4 2) x3 σ)))) mX8_takenBy lkX10_169 kd_4 (by decide) rfl rfl rfl rfl rfl (Nat.le_of_ble_eq_true rfl) eX10_cell_113 (qX8_takenBy d 4 x3 σ kd_4 ) ?_
      exact Run.ret (v := some (.int (((aG (gr 4 2) x3 σ))))) (k1 h1 h2) ⟨Or.inl rfl, eX10_cell_116⟩ rfl
    have nh2_0 := h2
    clear h2
    by_cases h2 : x4 = 1
    · refine (go_tableIn 117 eX10_cell_83 (by rw [h2]; decide) (by rw [h2]; decide) (by rw [h2]; rfl) rfl).run ?_
      refine (go_aload_n 0 eX10_cell_117 rfl rfl).run ?_
      refine (go_getr flX10_25 rf_9_3 kd_0 gr_0_3 eX10_cell_118).run ?_
      refine (go_iload_n 3 eX10_cell_121 rfl rfl).run ?_
      refine Run.callV1 (d := (d + 1)) (As := [.int x3]) (r := .int (((aG (gr 4 1) x3 σ)))) mX8_lowOf lkX10_136 kd_4 (by decide) rfl rfl rfl rfl rfl (Nat.le_of_ble_eq_true rfl) eX10_cell_122 (qX8_lowOf d 4 x3 σ kd_4 ) ?_
      exact Run.ret (v := some (.int (((aG (gr 4 1) x3 σ))))) (k2 h1 h2) ⟨Or.inl rfl, eX10_cell_125⟩ rfl
    have nh2_1 := h2
    clear h2
    by_cases h2 : x4 = 2
    · refine (go_tableIn 126 eX10_cell_83 (by rw [h2]; decide) (by rw [h2]; decide) (by rw [h2]; rfl) rfl).run ?_
      refine (go_aload_n 0 eX10_cell_126 rfl rfl).run ?_
      refine (go_getr flX10_25 rf_9_3 kd_0 gr_0_3 eX10_cell_127).run ?_
      refine (go_iload_n 3 eX10_cell_130 rfl rfl).run ?_
      refine Run.callV1 (d := (d + 1)) (As := [.int x3]) (r := .int (((aG (gr 4 3) x3 σ)))) mX8_loadOf lkX10_172 kd_4 (by decide) rfl rfl rfl rfl rfl (Nat.le_of_ble_eq_true rfl) eX10_cell_131 (qX8_loadOf d 4 x3 σ kd_4 ) ?_
      exact Run.ret (v := some (.int (((aG (gr 4 3) x3 σ))))) (k3 h1 h2) ⟨Or.inl rfl, eX10_cell_134⟩ rfl
    have nh2_2 := h2
    clear h2
    have h2 : x4.toInt < 0 ∨ 2 < x4.toInt := by simp only [← Int32.toInt_inj] at nh2_0 nh2_1 nh2_2; simp at nh2_0 nh2_1 nh2_2; omega
    refine (go_tableOut 135 eX10_cell_83 h2 rfl).run ?_
    refine (go_iconst (v := -1) eX10_cell_135 rfl).run ?_
    exact Run.ret (v := some (.int (-1))) (k4 h1 h2) ⟨Or.inl rfl, eX10_cell_136⟩ rfl
  · refine (go_aload_n 0 eX10_cell_61 rfl rfl).run ?_
    refine (go_getr flX10_25 rf_9_3 kd_0 gr_0_3 eX10_cell_62).run ?_
    refine (go_aload 5 eX10_cell_65 rfl).run ?_
    refine (go_iload 6 eX10_cell_67 rfl).run ?_
    refine Run.callV1 (d := (d + 1)) (As := [.int x6]) (r := .int (((aG (gr rx5 3) x6 σ)))) mX6_row lkX10_121 hrx5 (by decide) rfl rfl rfl rfl rfl (Nat.le_of_ble_eq_true rfl) eX10_cell_69 (qX6_row d rx5 x6 σ hrx5 ) ?_
    exact Run.callV (d := (d + 1)) (As := [.int (((aG (gr rx5 3) x6 σ)))]) mX8_join lkX10_166 kd_4 (by decide) rfl rfl rfl rfl rfl (Nat.le_of_ble_eq_true rfl) eX10_cell_72 (k5 h1)

set_option maxRecDepth 20000 in
theorem bX10_cell_75 {d : Nat} {Q : Option Value → St → Prop} (x2 : Int32) (x3 : Int32) (x4 : Int32) (rx5 : Nat) (x6 : Int32) (σ : St) (hrx5 : kd rx5 = 5) 
    (k1 : Run MX10_cell (d + 2) 55 [some (.ref 0), none, some (.int x2), some (.int x3), some (.int x4), some (.ref rx5), some (.int (x6 + 1))] [] σ Q)
    : Run MX10_cell (d + 2) 75 [some (.ref 0), none, some (.int x2), some (.int x3), some (.int x4), some (.ref rx5), some (.int x6)] [] σ Q := by
  refine (go_iinc 6 (v := (x6 + 1)) (L' := [some (.ref 0), none, some (.int x2), some (.int x3), some (.int x4), some (.ref rx5), some (.int (x6 + 1))]) eX10_cell_75 rfl rfl (Nat.le_of_ble_eq_true rfl) rfl).run ?_
  refine (go_goto 55 eX10_cell_78 rfl).run ?_
  exact k1

/-! CarryNets.pace -/
theorem eX10_pace_0 : decode MX10_pace.2.1 0 = .ok (.iload_n 1, 1) := by decide +kernel
theorem eX10_pace_1 : decode MX10_pace.2.1 1 = .ok (.iconst 1, 1) := by decide +kernel
theorem eX10_pace_2 : decode MX10_pace.2.1 2 = .ok (.if_icmp .lt 19, 3) := by decide +kernel
theorem eX10_pace_5 : decode MX10_pace.2.1 5 = .ok (.iload_n 1, 1) := by decide +kernel
theorem eX10_pace_6 : decode MX10_pace.2.1 6 = .ok (.bipush 9, 2) := by decide +kernel
theorem eX10_pace_8 : decode MX10_pace.2.1 8 = .ok (.if_icmp .gt 13, 3) := by decide +kernel
theorem eX10_pace_11 : decode MX10_pace.2.1 11 = .ok (.iload_n 2, 1) := by decide +kernel
theorem eX10_pace_12 : decode MX10_pace.2.1 12 = .ok (.ifCond .lt 9, 3) := by decide +kernel
theorem eX10_pace_15 : decode MX10_pace.2.1 15 = .ok (.iload_n 2, 1) := by decide +kernel
theorem eX10_pace_16 : decode MX10_pace.2.1 16 = .ok (.bipush 9, 2) := by decide +kernel
theorem eX10_pace_18 : decode MX10_pace.2.1 18 = .ok (.if_icmp .le 5, 3) := by decide +kernel
theorem eX10_pace_21 : decode MX10_pace.2.1 21 = .ok (.iconst (-1), 1) := by decide +kernel
theorem eX10_pace_22 : decode MX10_pace.2.1 22 = .ok (.ireturn, 1) := by decide +kernel
theorem eX10_pace_23 : decode MX10_pace.2.1 23 = .ok (.aload_n 0, 1) := by decide +kernel
theorem eX10_pace_24 : decode MX10_pace.2.1 24 = .ok (.getfield 39, 3) := by decide +kernel
theorem eX10_pace_27 : decode MX10_pace.2.1 27 = .ok (.iload_n 1, 1) := by decide +kernel
theorem eX10_pace_28 : decode MX10_pace.2.1 28 = .ok (.putfield 175, 3) := by decide +kernel
theorem eX10_pace_31 : decode MX10_pace.2.1 31 = .ok (.aload_n 0, 1) := by decide +kernel
theorem eX10_pace_32 : decode MX10_pace.2.1 32 = .ok (.getfield 39, 3) := by decide +kernel
theorem eX10_pace_35 : decode MX10_pace.2.1 35 = .ok (.iload_n 2, 1) := by decide +kernel
theorem eX10_pace_36 : decode MX10_pace.2.1 36 = .ok (.putfield 178, 3) := by decide +kernel
theorem eX10_pace_39 : decode MX10_pace.2.1 39 = .ok (.iconst 1, 1) := by decide +kernel
theorem eX10_pace_40 : decode MX10_pace.2.1 40 = .ok (.ireturn, 1) := by decide +kernel
set_option maxRecDepth 20000 in
theorem bX10_pace_0 {d : Nat} {Q : Option Value → St → Prop} (x1 : Int32) (x2 : Int32) (σ : St) 
    (k1 : x1 < 1 → Q (some (.int (-1))) σ)
    (k2 : (1 : Int32) ≤ x1 → (9 : Int32) < x1 → Q (some (.int (-1))) σ)
    (k3 : (1 : Int32) ≤ x1 → x1 ≤ 9 → x2 < 0 → Q (some (.int (-1))) σ)
    (k4 : (1 : Int32) ≤ x1 → x1 ≤ 9 → (0 : Int32) ≤ x2 → x2 ≤ 9 → Q (some (.int 1)) (sA (sA σ 14 (upd (σ.1 14) 0 x1)) 14 (upd (upd (σ.1 14) 0 x1) 1 x2)))
    (k5 : (1 : Int32) ≤ x1 → x1 ≤ 9 → (0 : Int32) ≤ x2 → (9 : Int32) < x2 → Q (some (.int (-1))) σ)
    : Run MX10_pace d 0 [some (.ref 0), some (.int x1), some (.int x2)] [] σ Q := by
  refine (go_iload_n 1 eX10_pace_0 rfl rfl).run ?_
  refine (go_iconst (v := 1) eX10_pace_1 rfl).run ?_
  refine (bi_lt 21 eX10_pace_2 rfl).run (fun h1 => ?_) (fun h1 => ?_)
  · refine (go_iconst (v := -1) eX10_pace_21 rfl).run ?_
    exact Run.ret (v := some (.int (-1))) (k1 h1) ⟨Or.inl rfl, eX10_pace_22⟩ rfl
  · refine (go_iload_n 1 eX10_pace_5 rfl rfl).run ?_
    refine (go_bipush (v := 9) eX10_pace_6 rfl).run ?_
    refine (bi_gt 21 eX10_pace_8 rfl).run (fun h2 => ?_) (fun h2 => ?_)
    · refine (go_iconst (v := -1) eX10_pace_21 rfl).run ?_
      exact Run.ret (v := some (.int (-1))) (k2 h1 h2) ⟨Or.inl rfl, eX10_pace_22⟩ rfl
    · refine (go_iload_n 2 eX10_pace_11 rfl rfl).run ?_
      refine (bz_lt 21 eX10_pace_12 rfl).run (fun h3 => ?_) (fun h3 => ?_)
      · refine (go_iconst (v := -1) eX10_pace_21 rfl).run ?_
        exact Run.ret (v := some (.int (-1))) (k3 h1 h2 h3) ⟨Or.inl rfl, eX10_pace_22⟩ rfl
      · refine (go_iload_n 2 eX10_pace_15 rfl rfl).run ?_
        refine (go_bipush (v := 9) eX10_pace_16 rfl).run ?_
        refine (bi_le 23 eX10_pace_18 rfl).run (fun h4 => ?_) (fun h4 => ?_)
        · refine (go_aload_n 0 eX10_pace_23 rfl rfl).run ?_
          refine (go_getr flX10_39 rf_9_5 kd_0 gr_0_5 eX10_pace_24).run ?_
          refine (go_iload_n 1 eX10_pace_27 rfl rfl).run ?_
          refine (go_puti flX10_175 rf_2_0 rfl pf_2_0 rfl rfl kd_14 eX10_pace_28).run ?_
          refine (go_aload_n 0 eX10_pace_31 rfl rfl).run ?_
          refine (go_getr flX10_39 rf_9_5 kd_0 gr_0_5 eX10_pace_32).run ?_
          refine (go_iload_n 2 eX10_pace_35 rfl rfl).run ?_
          refine (go_puti flX10_178 rf_2_1 rfl pf_2_1 rfl rfl kd_14 eX10_pace_36).run ?_
          refine (go_iconst (v := 1) eX10_pace_39 rfl).run ?_
          exact Run.ret (v := some (.int 1)) (k4 h1 h2 h3 h4) ⟨Or.inl rfl, eX10_pace_40⟩ rfl
        · refine (go_iconst (v := -1) eX10_pace_21 rfl).run ?_
          exact Run.ret (v := some (.int (-1))) (k5 h1 h2 h3 h4) ⟨Or.inl rfl, eX10_pace_22⟩ rfl

def sX10_pace (x1 : Int32) (x2 : Int32) (σ : St) : St := (if x1 < 1 then σ else (if (9 : Int32) < x1 then σ else (if x2 < 0 then σ else (if x2 ≤ 9 then sA (sA σ 14 (upd (σ.1 14) 0 x1)) 14 (upd (upd (σ.1 14) 0 x1) 1 x2) else σ))))
def rX10_pace (x1 : Int32) (x2 : Int32) (σ : St) : Int32 := (if x1 < 1 then (-1 : Int32) else (if (9 : Int32) < x1 then (-1 : Int32) else (if x2 < 0 then (-1 : Int32) else (if x2 ≤ 9 then (1 : Int32) else (-1 : Int32)))))
theorem qX10_pace (d : Nat) (x1 : Int32) (x2 : Int32) (σ : St) : Ct yX10_pace MX10_pace d [.ref 0, .int x1, .int x2] σ (fun v σ1 => v = some (.int (rX10_pace x1 x2 σ)) ∧ σ1 = sX10_pace x1 x2 σ) :=
  Ct.of mX10_pace.1 (Nat.le_of_ble_eq_true rfl) (bX10_pace_0 x1 x2 σ   (fun h1 => ⟨by first | rfl | (simp only [sX10_pace, rX10_pace, eq_true h1, eq_false (i32_nle.mpr h1), true_and, and_true, false_and, and_false, true_or, or_true, false_or, or_false, not_true_eq_false, not_false_eq_true, if_true, if_false]; done) | (simp [sX10_pace, rX10_pace, eq_true h1, eq_false (i32_nle.mpr h1), bI]; done), by first | rfl | (simp only [sX10_pace, rX10_pace, eq_true h1, eq_false (i32_nle.mpr h1), true_and, and_true, false_and, and_false, true_or, or_true, false_or, or_false, not_true_eq_false, not_false_eq_true, if_true, if_false]; done) | (simp [sX10_pace, rX10_pace, eq_true h1, eq_false (i32_nle.mpr h1), bI]; done)⟩) (fun h1 h2 => ⟨by first | rfl | (simp only [sX10_pace, rX10_pace, eq_true h1, eq_false (i32_nlt.mpr h1), eq_true h2, eq_false (i32_nle.mpr h2), true_and, and_true, false_and, and_false, true_or, or_true, false_or, or_false, not_true_eq_false, not_false_eq_true, if_true, if_false]; done) | (simp [sX10_pace, rX10_pace, eq_true h1, eq_false (i32_nlt.mpr h1), eq_true h2, eq_false (i32_nle.mpr h2), bI]; done), by first | rfl | (simp only [sX10_pace, rX10_pace, eq_true h1, eq_false (i32_nlt.mpr h1), eq_true h2, eq_false (i32_nle.mpr h2), true_and, and_true, false_and, and_false, true_or, or_true, false_or, or_false, not_true_eq_false, not_false_eq_true, if_true, if_false]; done) | (simp [sX10_pace, rX10_pace, eq_true h1, eq_false (i32_nlt.mpr h1), eq_true h2, eq_false (i32_nle.mpr h2), bI]; done)⟩) (fun h1 h2 h3 => ⟨by first | rfl | (simp only [sX10_pace, rX10_pace, eq_true h1, eq_false (i32_nlt.mpr h1), eq_true h2, eq_false (i32_nlt.mpr h2), eq_true h3, eq_false (i32_nle.mpr h3), true_and, and_true, false_and, and_false, true_or, or_true, false_or, or_false, not_true_eq_false, not_false_eq_true, if_true, if_false]; done) | (simp [sX10_pace, rX10_pace, eq_true h1, eq_false (i32_nlt.mpr h1), eq_true h2, eq_false (i32_nlt.mpr h2), eq_true h3, eq_false (i32_nle.mpr h3), bI]; done), by first | rfl | (simp only [sX10_pace, rX10_pace, eq_true h1, eq_false (i32_nlt.mpr h1), eq_true h2, eq_false (i32_nlt.mpr h2), eq_true h3, eq_false (i32_nle.mpr h3), true_and, and_true, false_and, and_false, true_or, or_true, false_or, or_false, not_true_eq_false, not_false_eq_true, if_true, if_false]; done) | (simp [sX10_pace, rX10_pace, eq_true h1, eq_false (i32_nlt.mpr h1), eq_true h2, eq_false (i32_nlt.mpr h2), eq_true h3, eq_false (i32_nle.mpr h3), bI]; done)⟩) (fun h1 h2 h3 h4 => ⟨by first | rfl | (simp only [sX10_pace, rX10_pace, eq_true h1, eq_false (i32_nlt.mpr h1), eq_true h2, eq_false (i32_nlt.mpr h2), eq_true h3, eq_false (i32_nlt.mpr h3), eq_true h4, eq_false (i32_nlt.mpr h4), true_and, and_true, false_and, and_false, true_or, or_true, false_or, or_false, not_true_eq_false, not_false_eq_true, if_true, if_false]; done) | (simp [sX10_pace, rX10_pace, eq_true h1, eq_false (i32_nlt.mpr h1), eq_true h2, eq_false (i32_nlt.mpr h2), eq_true h3, eq_false (i32_nlt.mpr h3), eq_true h4, eq_false (i32_nlt.mpr h4), bI]; done), by first | rfl | (simp only [sX10_pace, rX10_pace, eq_true h1, eq_false (i32_nlt.mpr h1), eq_true h2, eq_false (i32_nlt.mpr h2), eq_true h3, eq_false (i32_nlt.mpr h3), eq_true h4, eq_false (i32_nlt.mpr h4), true_and, and_true, false_and, and_false, true_or, or_true, false_or, or_false, not_true_eq_false, not_false_eq_true, if_true, if_false]; done) | (simp [sX10_pace, rX10_pace, eq_true h1, eq_false (i32_nlt.mpr h1), eq_true h2, eq_false (i32_nlt.mpr h2), eq_true h3, eq_false (i32_nlt.mpr h3), eq_true h4, eq_false (i32_nlt.mpr h4), bI]; done)⟩) (fun h1 h2 h3 h4 => ⟨by first | rfl | (simp only [sX10_pace, rX10_pace, eq_true h1, eq_false (i32_nlt.mpr h1), eq_true h2, eq_false (i32_nlt.mpr h2), eq_true h3, eq_false (i32_nlt.mpr h3), eq_true h4, eq_false (i32_nle.mpr h4), true_and, and_true, false_and, and_false, true_or, or_true, false_or, or_false, not_true_eq_false, not_false_eq_true, if_true, if_false]; done) | (simp [sX10_pace, rX10_pace, eq_true h1, eq_false (i32_nlt.mpr h1), eq_true h2, eq_false (i32_nlt.mpr h2), eq_true h3, eq_false (i32_nlt.mpr h3), eq_true h4, eq_false (i32_nle.mpr h4), bI]; done), by first | rfl | (simp only [sX10_pace, rX10_pace, eq_true h1, eq_false (i32_nlt.mpr h1), eq_true h2, eq_false (i32_nlt.mpr h2), eq_true h3, eq_false (i32_nlt.mpr h3), eq_true h4, eq_false (i32_nle.mpr h4), true_and, and_true, false_and, and_false, true_or, or_true, false_or, or_false, not_true_eq_false, not_false_eq_true, if_true, if_false]; done) | (simp [sX10_pace, rX10_pace, eq_true h1, eq_false (i32_nlt.mpr h1), eq_true h2, eq_false (i32_nlt.mpr h2), eq_true h3, eq_false (i32_nlt.mpr h3), eq_true h4, eq_false (i32_nle.mpr h4), bI]; done)⟩))

/-! CarryNets.start -/
theorem eX10_start_0 : decode MX10_start.2.1 0 = .ok (.iload_n 1, 1) := by decide +kernel
theorem eX10_start_1 : decode MX10_start.2.1 1 = .ok (.ifCond .lt 19, 3) := by decide +kernel
theorem eX10_start_4 : decode MX10_start.2.1 4 = .ok (.iload_n 1, 1) := by decide +kernel
theorem eX10_start_5 : decode MX10_start.2.1 5 = .ok (.bipush 32, 2) := by decide +kernel
theorem eX10_start_7 : decode MX10_start.2.1 7 = .ok (.if_icmp .ge 13, 3) := by decide +kernel
theorem eX10_start_10 : decode MX10_start.2.1 10 = .ok (.iload_n 2, 1) := by decide +kernel
theorem eX10_start_11 : decode MX10_start.2.1 11 = .ok (.ifCond .lt 9, 3) := by decide +kernel
theorem eX10_start_14 : decode MX10_start.2.1 14 = .ok (.iload_n 2, 1) := by decide +kernel
theorem eX10_start_15 : decode MX10_start.2.1 15 = .ok (.bipush 99, 2) := by decide +kernel
theorem eX10_start_17 : decode MX10_start.2.1 17 = .ok (.if_icmp .le 5, 3) := by decide +kernel
theorem eX10_start_20 : decode MX10_start.2.1 20 = .ok (.iconst (-1), 1) := by decide +kernel
theorem eX10_start_21 : decode MX10_start.2.1 21 = .ok (.ireturn, 1) := by decide +kernel
theorem eX10_start_22 : decode MX10_start.2.1 22 = .ok (.aload_n 0, 1) := by decide +kernel
theorem eX10_start_23 : decode MX10_start.2.1 23 = .ok (.getfield 39, 3) := by decide +kernel
theorem eX10_start_26 : decode MX10_start.2.1 26 = .ok (.getfield 181, 3) := by decide +kernel
theorem eX10_start_29 : decode MX10_start.2.1 29 = .ok (.iload_n 1, 1) := by decide +kernel
theorem eX10_start_30 : decode MX10_start.2.1 30 = .ok (.invokestatic 185, 3) := by decide +kernel
theorem eX10_start_33 : decode MX10_start.2.1 33 = .ok (.istore_n 3, 1) := by decide +kernel
theorem eX10_start_34 : decode MX10_start.2.1 34 = .ok (.aload_n 0, 1) := by decide +kernel
theorem eX10_start_35 : decode MX10_start.2.1 35 = .ok (.getfield 39, 3) := by decide +kernel
theorem eX10_start_38 : decode MX10_start.2.1 38 = .ok (.getfield 181, 3) := by decide +kernel
theorem eX10_start_41 : decode MX10_start.2.1 41 = .ok (.iload_n 1, 1) := by decide +kernel
theorem eX10_start_42 : decode MX10_start.2.1 42 = .ok (.iload_n 2, 1) := by decide +kernel
theorem eX10_start_43 : decode MX10_start.2.1 43 = .ok (.invokestatic 189, 3) := by decide +kernel
theorem eX10_start_46 : decode MX10_start.2.1 46 = .ok (.iload_n 3, 1) := by decide +kernel
theorem eX10_start_47 : decode MX10_start.2.1 47 = .ok (.ireturn, 1) := by decide +kernel
set_option maxRecDepth 20000 in
theorem bX10_start_0 {d : Nat} {Q : Option Value → St → Prop} (x1 : Int32) (x2 : Int32) (σ : St) 
    (k1 : x1 < 0 → Q (some (.int (-1))) σ)
    (k2 : (0 : Int32) ≤ x1 → (32 : Int32) ≤ x1 → Q (some (.int (-1))) σ)
    (k3 : (0 : Int32) ≤ x1 → x1 < 32 → x2 < 0 → Q (some (.int (-1))) σ)
    (k4 : (0 : Int32) ≤ x1 → x1 < 32 → (0 : Int32) ≤ x2 → x2 ≤ 99 → Q (some (.int ((aG 15 x1 σ)))) (aP 15 x1 x2 σ))
    (k5 : (0 : Int32) ≤ x1 → x1 < 32 → (0 : Int32) ≤ x2 → (99 : Int32) < x2 → Q (some (.int (-1))) σ)
    : Run MX10_start (d + 1) 0 [some (.ref 0), some (.int x1), some (.int x2), none] [] σ Q := by
  refine (go_iload_n 1 eX10_start_0 rfl rfl).run ?_
  refine (bz_lt 20 eX10_start_1 rfl).run (fun h1 => ?_) (fun h1 => ?_)
  · refine (go_iconst (v := -1) eX10_start_20 rfl).run ?_
    exact Run.ret (v := some (.int (-1))) (k1 h1) ⟨Or.inl rfl, eX10_start_21⟩ rfl
  · refine (go_iload_n 1 eX10_start_4 rfl rfl).run ?_
    refine (go_bipush (v := 32) eX10_start_5 rfl).run ?_
    refine (bi_ge 20 eX10_start_7 rfl).run (fun h2 => ?_) (fun h2 => ?_)
    · refine (go_iconst (v := -1) eX10_start_20 rfl).run ?_
      exact Run.ret (v := some (.int (-1))) (k2 h1 h2) ⟨Or.inl rfl, eX10_start_21⟩ rfl
    · refine (go_iload_n 2 eX10_start_10 rfl rfl).run ?_
      refine (bz_lt 20 eX10_start_11 rfl).run (fun h3 => ?_) (fun h3 => ?_)
      · refine (go_iconst (v := -1) eX10_start_20 rfl).run ?_
        exact Run.ret (v := some (.int (-1))) (k3 h1 h2 h3) ⟨Or.inl rfl, eX10_start_21⟩ rfl
      · refine (go_iload_n 2 eX10_start_14 rfl rfl).run ?_
        refine (go_bipush (v := 99) eX10_start_15 rfl).run ?_
        refine (bi_le 22 eX10_start_17 rfl).run (fun h4 => ?_) (fun h4 => ?_)
        · refine (go_aload_n 0 eX10_start_22 rfl rfl).run ?_
          refine (go_getr flX10_39 rf_9_5 kd_0 gr_0_5 eX10_start_23).run ?_
          refine (go_getr flX10_181 rf_2_2 kd_14 gr_14_2 eX10_start_26).run ?_
          refine (go_iload_n 1 eX10_start_29 rfl rfl).run ?_
          refine Run.callS1 (d := d) (As := [.ref 15, .int x1]) (r := .int ((aG 15 x1 σ))) mX10_at lkX10_185 rfl rfl rfl (Nat.le_of_ble_eq_true rfl) eX10_start_30 (qX10_at d 15 x1 σ kd_15 ) ?_
          refine (go_istore_n 3 (L' := [some (.ref 0), some (.int x1), some (.int x2), some (.int ((aG 15 x1 σ)))]) eX10_start_33 rfl (Nat.le_of_ble_eq_true rfl) rfl).run ?_
          refine (go_aload_n 0 eX10_start_34 rfl rfl).run ?_
          refine (go_getr flX10_39 rf_9_5 kd_0 gr_0_5 eX10_start_35).run ?_
          refine (go_getr flX10_181 rf_2_2 kd_14 gr_14_2 eX10_start_38).run ?_
          refine (go_iload_n 1 eX10_start_41 rfl rfl).run ?_
          refine (go_iload_n 2 eX10_start_42 rfl rfl).run ?_
          refine Run.callS0 (d := d) (As := [.ref 15, .int x1, .int x2]) mX10_put lkX10_189 rfl rfl rfl (Nat.le_of_ble_eq_true rfl) eX10_start_43 (qX10_put d 15 x1 x2 σ kd_15 ) ?_
          refine (go_iload_n 3 eX10_start_46 rfl rfl).run ?_
          exact Run.ret (v := some (.int ((aG 15 x1 σ)))) (k4 h1 h2 h3 h4) ⟨Or.inl rfl, eX10_start_47⟩ rfl
        · refine (go_iconst (v := -1) eX10_start_20 rfl).run ?_
          exact Run.ret (v := some (.int (-1))) (k5 h1 h2 h3 h4) ⟨Or.inl rfl, eX10_start_21⟩ rfl

def sX10_start (x1 : Int32) (x2 : Int32) (σ : St) : St := (if x1 < 0 then σ else (if (32 : Int32) ≤ x1 then σ else (if x2 < 0 then σ else (if x2 ≤ 99 then aP 15 x1 x2 σ else σ))))
def rX10_start (x1 : Int32) (x2 : Int32) (σ : St) : Int32 := (if x1 < 0 then (-1 : Int32) else (if (32 : Int32) ≤ x1 then (-1 : Int32) else (if x2 < 0 then (-1 : Int32) else (if x2 ≤ 99 then ((aG 15 x1 σ)) else (-1 : Int32)))))
theorem qX10_start (d : Nat) (x1 : Int32) (x2 : Int32) (σ : St) : Ct yX10_start MX10_start (d + 1) [.ref 0, .int x1, .int x2] σ (fun v σ1 => v = some (.int (rX10_start x1 x2 σ)) ∧ σ1 = sX10_start x1 x2 σ) :=
  Ct.of mX10_start.1 (Nat.le_of_ble_eq_true rfl) (bX10_start_0 x1 x2 σ   (fun h1 => ⟨by first | rfl | (simp only [sX10_start, rX10_start, eq_true h1, eq_false (i32_nle.mpr h1), true_and, and_true, false_and, and_false, true_or, or_true, false_or, or_false, not_true_eq_false, not_false_eq_true, if_true, if_false]; done) | (simp [sX10_start, rX10_start, eq_true h1, eq_false (i32_nle.mpr h1), bI]; done), by first | rfl | (simp only [sX10_start, rX10_start, eq_true h1, eq_false (i32_nle.mpr h1), true_and, and_true, false_and, and_false, true_or, or_true, false_or, or_false, not_true_eq_false, not_false_eq_true, if_true, if_false]; done) | (simp [sX10_start, rX10_start, eq_true h1, eq_false (i32_nle.mpr h1), bI]; done)⟩) (fun h1 h2 => ⟨by first | rfl | (simp only [sX10_start, rX10_start, eq_true h1, eq_false (i32_nlt.mpr h1), eq_true h2, eq_false (i32_nlt.mpr h2), true_and, and_true, false_and, and_false, true_or, or_true, false_or, or_false, not_true_eq_false, not_false_eq_true, if_true, if_false]; done) | (simp [sX10_start, rX10_start, eq_true h1, eq_false (i32_nlt.mpr h1), eq_true h2, eq_false (i32_nlt.mpr h2), bI]; done), by first | rfl | (simp only [sX10_start, rX10_start, eq_true h1, eq_false (i32_nlt.mpr h1), eq_true h2, eq_false (i32_nlt.mpr h2), true_and, and_true, false_and, and_false, true_or, or_true, false_or, or_false, not_true_eq_false, not_false_eq_true, if_true, if_false]; done) | (simp [sX10_start, rX10_start, eq_true h1, eq_false (i32_nlt.mpr h1), eq_true h2, eq_false (i32_nlt.mpr h2), bI]; done)⟩) (fun h1 h2 h3 => ⟨by first | rfl | (simp only [sX10_start, rX10_start, eq_true h1, eq_false (i32_nlt.mpr h1), eq_true h2, eq_false (i32_nle.mpr h2), eq_true h3, eq_false (i32_nle.mpr h3), true_and, and_true, false_and, and_false, true_or, or_true, false_or, or_false, not_true_eq_false, not_false_eq_true, if_true, if_false]; done) | (simp [sX10_start, rX10_start, eq_true h1, eq_false (i32_nlt.mpr h1), eq_true h2, eq_false (i32_nle.mpr h2), eq_true h3, eq_false (i32_nle.mpr h3), bI]; done), by first | rfl | (simp only [sX10_start, rX10_start, eq_true h1, eq_false (i32_nlt.mpr h1), eq_true h2, eq_false (i32_nle.mpr h2), eq_true h3, eq_false (i32_nle.mpr h3), true_and, and_true, false_and, and_false, true_or, or_true, false_or, or_false, not_true_eq_false, not_false_eq_true, if_true, if_false]; done) | (simp [sX10_start, rX10_start, eq_true h1, eq_false (i32_nlt.mpr h1), eq_true h2, eq_false (i32_nle.mpr h2), eq_true h3, eq_false (i32_nle.mpr h3), bI]; done)⟩) (fun h1 h2 h3 h4 => ⟨by first | rfl | (simp only [sX10_start, rX10_start, eq_true h1, eq_false (i32_nlt.mpr h1), eq_true h2, eq_false (i32_nle.mpr h2), eq_true h3, eq_false (i32_nlt.mpr h3), eq_true h4, eq_false (i32_nlt.mpr h4), true_and, and_true, false_and, and_false, true_or, or_true, false_or, or_false, not_true_eq_false, not_false_eq_true, if_true, if_false]; done) | (simp [sX10_start, rX10_start, eq_true h1, eq_false (i32_nlt.mpr h1), eq_true h2, eq_false (i32_nle.mpr h2), eq_true h3, eq_false (i32_nlt.mpr h3), eq_true h4, eq_false (i32_nlt.mpr h4), bI]; done), by first | rfl | (simp only [sX10_start, rX10_start, eq_true h1, eq_false (i32_nlt.mpr h1), eq_true h2, eq_false (i32_nle.mpr h2), eq_true h3, eq_false (i32_nlt.mpr h3), eq_true h4, eq_false (i32_nlt.mpr h4), true_and, and_true, false_and, and_false, true_or, or_true, false_or, or_false, not_true_eq_false, not_false_eq_true, if_true, if_false]; done) | (simp [sX10_start, rX10_start, eq_true h1, eq_false (i32_nlt.mpr h1), eq_true h2, eq_false (i32_nle.mpr h2), eq_true h3, eq_false (i32_nlt.mpr h3), eq_true h4, eq_false (i32_nlt.mpr h4), bI]; done)⟩) (fun h1 h2 h3 h4 => ⟨by first | rfl | (simp only [sX10_start, rX10_start, eq_true h1, eq_false (i32_nlt.mpr h1), eq_true h2, eq_false (i32_nle.mpr h2), eq_true h3, eq_false (i32_nlt.mpr h3), eq_true h4, eq_false (i32_nle.mpr h4), true_and, and_true, false_and, and_false, true_or, or_true, false_or, or_false, not_true_eq_false, not_false_eq_true, if_true, if_false]; done) | (simp [sX10_start, rX10_start, eq_true h1, eq_false (i32_nlt.mpr h1), eq_true h2, eq_false (i32_nle.mpr h2), eq_true h3, eq_false (i32_nlt.mpr h3), eq_true h4, eq_false (i32_nle.mpr h4), bI]; done), by first | rfl | (simp only [sX10_start, rX10_start, eq_true h1, eq_false (i32_nlt.mpr h1), eq_true h2, eq_false (i32_nle.mpr h2), eq_true h3, eq_false (i32_nlt.mpr h3), eq_true h4, eq_false (i32_nle.mpr h4), true_and, and_true, false_and, and_false, true_or, or_true, false_or, or_false, not_true_eq_false, not_false_eq_true, if_true, if_false]; done) | (simp [sX10_start, rX10_start, eq_true h1, eq_false (i32_nlt.mpr h1), eq_true h2, eq_false (i32_nle.mpr h2), eq_true h3, eq_false (i32_nlt.mpr h3), eq_true h4, eq_false (i32_nle.mpr h4), bI]; done)⟩))

/-! CarryNets.time -/
theorem eX10_time_0 : decode MX10_time.2.1 0 = .ok (.aload_n 0, 1) := by decide +kernel
theorem eX10_time_1 : decode MX10_time.2.1 1 = .ok (.iload_n 1, 1) := by decide +kernel
theorem eX10_time_2 : decode MX10_time.2.1 2 = .ok (.invokevirtual 114, 3) := by decide +kernel
theorem eX10_time_5 : decode MX10_time.2.1 5 = .ok (.astore_n 3, 1) := by decide +kernel
theorem eX10_time_6 : decode MX10_time.2.1 6 = .ok (.aload_n 3, 1) := by decide +kernel
theorem eX10_time_7 : decode MX10_time.2.1 7 = .ok (.ifnull 21, 3) := by decide +kernel
theorem eX10_time_10 : decode MX10_time.2.1 10 = .ok (.iload_n 2, 1) := by decide +kernel
theorem eX10_time_11 : decode MX10_time.2.1 11 = .ok (.bipush (-4), 2) := by decide +kernel
theorem eX10_time_13 : decode MX10_time.2.1 13 = .ok (.if_icmp .eq 17, 3) := by decide +kernel
theorem eX10_time_16 : decode MX10_time.2.1 16 = .ok (.iload_n 2, 1) := by decide +kernel
theorem eX10_time_17 : decode MX10_time.2.1 17 = .ok (.ifCond .lt 11, 3) := by decide +kernel
theorem eX10_time_20 : decode MX10_time.2.1 20 = .ok (.iload_n 2, 1) := by decide +kernel
theorem eX10_time_21 : decode MX10_time.2.1 21 = .ok (.aload_n 3, 1) := by decide +kernel
theorem eX10_time_22 : decode MX10_time.2.1 22 = .ok (.getfield 130, 3) := by decide +kernel
theorem eX10_time_25 : decode MX10_time.2.1 25 = .ok (.if_icmp .lt 5, 3) := by decide +kernel
theorem eX10_time_28 : decode MX10_time.2.1 28 = .ok (.iconst (-1), 1) := by decide +kernel
theorem eX10_time_29 : decode MX10_time.2.1 29 = .ok (.ireturn, 1) := by decide +kernel
theorem eX10_time_30 : decode MX10_time.2.1 30 = .ok (.aload_n 0, 1) := by decide +kernel
theorem eX10_time_31 : decode MX10_time.2.1 31 = .ok (.getfield 39, 3) := by decide +kernel
theorem eX10_time_34 : decode MX10_time.2.1 34 = .ok (.aload_n 3, 1) := by decide +kernel
theorem eX10_time_35 : decode MX10_time.2.1 35 = .ok (.invokevirtual 193, 3) := by decide +kernel
theorem eX10_time_38 : decode MX10_time.2.1 38 = .ok (.iload_n 2, 1) := by decide +kernel
theorem eX10_time_39 : decode MX10_time.2.1 39 = .ok (.bipush (-4), 2) := by decide +kernel
theorem eX10_time_41 : decode MX10_time.2.1 41 = .ok (.if_icmp .ne 17, 3) := by decide +kernel
theorem eX10_time_44 : decode MX10_time.2.1 44 = .ok (.aload_n 0, 1) := by decide +kernel
theorem eX10_time_45 : decode MX10_time.2.1 45 = .ok (.getfield 39, 3) := by decide +kernel
theorem eX10_time_48 : decode MX10_time.2.1 48 = .ok (.aload_n 3, 1) := by decide +kernel
theorem eX10_time_49 : decode MX10_time.2.1 49 = .ok (.getfield 130, 3) := by decide +kernel
theorem eX10_time_52 : decode MX10_time.2.1 52 = .ok (.invokevirtual 196, 3) := by decide +kernel
theorem eX10_time_55 : decode MX10_time.2.1 55 = .ok (.goto 11, 3) := by decide +kernel
theorem eX10_time_58 : decode MX10_time.2.1 58 = .ok (.aload_n 0, 1) := by decide +kernel
theorem eX10_time_59 : decode MX10_time.2.1 59 = .ok (.getfield 39, 3) := by decide +kernel
theorem eX10_time_62 : decode MX10_time.2.1 62 = .ok (.iload_n 2, 1) := by decide +kernel
theorem eX10_time_63 : decode MX10_time.2.1 63 = .ok (.invokevirtual 199, 3) := by decide +kernel
theorem eX10_time_66 : decode MX10_time.2.1 66 = .ok (.ireturn, 1) := by decide +kernel
set_option maxRecDepth 20000 in
theorem bX10_time_0 {d : Nat} {Q : Option Value → St → Prop} (x1 : Int32) (x2 : Int32) (σ : St) 
    (k1 : (0 ≤ x1 ∧ x1 < (σ.1 0 1) ∧ x1 < 8) → x2 = (-4) → Ct yX2_follow MX2_follow (d + 3) [.ref 14, .ref (gr 1 x1.toNatClampNeg)] σ (fun v σ1 => Run MX10_time (d + 4) 38 [some (.ref 0), none, some (.int x2), some (.ref (gr 1 x1.toNatClampNeg))] (v.toList ++ []) σ1 Q))
    (k2 : (0 ≤ x1 ∧ x1 < (σ.1 0 1) ∧ x1 < 8) → ¬ x2 = (-4) → x2 < 0 → Q (some (.int (-1))) σ)
    (k3 : (0 ≤ x1 ∧ x1 < (σ.1 0 1) ∧ x1 < 8) → ¬ x2 = (-4) → (0 : Int32) ≤ x2 → x2 < (σ.1 ((gr 1 x1.toNatClampNeg)) 0) → Ct yX2_follow MX2_follow (d + 3) [.ref 14, .ref (gr 1 x1.toNatClampNeg)] σ (fun v σ1 => Run MX10_time (d + 4) 38 [some (.ref 0), none, some (.int x2), some (.ref (gr 1 x1.toNatClampNeg))] (v.toList ++ []) σ1 Q))
    (k4 : (0 ≤ x1 ∧ x1 < (σ.1 0 1) ∧ x1 < 8) → ¬ x2 = (-4) → (0 : Int32) ≤ x2 → (σ.1 ((gr 1 x1.toNatClampNeg)) 0) ≤ x2 → Q (some (.int (-1))) σ)
    (k5 : (¬ (0 ≤ x1 ∧ x1 < (σ.1 0 1) ∧ x1 < 8)) → Q (some (.int (-1))) σ)
    : Run MX10_time (d + 4) 0 [some (.ref 0), some (.int x1), some (.int x2), none] [] σ Q := by
  refine (go_aload_n 0 eX10_time_0 rfl rfl).run ?_
  refine (go_iload_n 1 eX10_time_1 rfl rfl).run ?_
  refine Run.callV (d := (d + 3)) (As := [.int x1]) mX10_netNumbered lkX10_114 kd_0 (by decide) rfl rfl rfl rfl rfl (Nat.le_of_ble_eq_true rfl) eX10_time_2 (Ct.mono (qX10_netNumbered (d + 3) x1 σ) ?_)
  rintro v1 s1 ⟨hv1, hs1⟩
  rw [hv1, hs1]
  by_cases h1 : 0 ≤ x1 ∧ x1 < (σ.1 0 1) ∧ x1 < 8
  · rw [if_pos h1]
    refine (go_astore_n 3 (L' := [some (.ref 0), some (.int x1), some (.int x2), some (.ref (gr 1 x1.toNatClampNeg))]) eX10_time_5 rfl (Nat.le_of_ble_eq_true rfl) rfl).run ?_
    refine (go_aload_n 3 eX10_time_6 rfl rfl).run ?_
    refine (go_ifnull_r eX10_time_7).run ?_
    refine (go_iload_n 2 eX10_time_10 rfl rfl).run ?_
    refine (go_bipush (v := -4) eX10_time_11 rfl).run ?_
    refine (bi_eq 30 eX10_time_13 rfl).run (fun h2 => ?_) (fun h2 => ?_)
    · refine (go_aload_n 0 eX10_time_30 rfl rfl).run ?_
      refine (go_getr flX10_39 rf_9_5 kd_0 gr_0_5 eX10_time_31).run ?_
      refine (go_aload_n 3 eX10_time_34 rfl rfl).run ?_
      refine (go_sub (L' := [some (.ref 0), none, some (.int x2), some (.ref (gr 1 x1.toNatClampNeg))]) (lsub_keep (lsub_drop (lsub_keep (lsub_keep lsub_nil))))).run ?_
      exact Run.callV (d := (d + 3)) (As := [.ref (gr 1 x1.toNatClampNeg)]) mX2_follow lkX10_193 kd_14 (by decide) rfl rfl rfl rfl rfl (Nat.le_of_ble_eq_true rfl) eX10_time_35 (k1 h1 h2)
    · refine (go_iload_n 2 eX10_time_16 rfl rfl).run ?_
      refine (bz_lt 28 eX10_time_17 rfl).run (fun h3 => ?_) (fun h3 => ?_)
      · refine (go_iconst (v := -1) eX10_time_28 rfl).run ?_
        exact Run.ret (v := some (.int (-1))) (k2 h1 h2 h3) ⟨Or.inl rfl, eX10_time_29⟩ rfl
      · refine (go_iload_n 2 eX10_time_20 rfl rfl).run ?_
        refine (go_aload_n 3 eX10_time_21 rfl rfl).run ?_
        refine (go_geti flX10_130 rf_5_0 (ka_103 (vp_of h1.1 h1.2.2 (by decide))) eX10_time_22).run ?_
        refine (bi_lt 30 eX10_time_25 rfl).run (fun h4 => ?_) (fun h4 => ?_)
        · refine (go_aload_n 0 eX10_time_30 rfl rfl).run ?_
          refine (go_getr flX10_39 rf_9_5 kd_0 gr_0_5 eX10_time_31).run ?_
          refine (go_aload_n 3 eX10_time_34 rfl rfl).run ?_
          refine (go_sub (L' := [some (.ref 0), none, some (.int x2), some (.ref (gr 1 x1.toNatClampNeg))]) (lsub_keep (lsub_drop (lsub_keep (lsub_keep lsub_nil))))).run ?_
          exact Run.callV (d := (d + 3)) (As := [.ref (gr 1 x1.toNatClampNeg)]) mX2_follow lkX10_193 kd_14 (by decide) rfl rfl rfl rfl rfl (Nat.le_of_ble_eq_true rfl) eX10_time_35 (k3 h1 h2 h3 h4)
        · refine (go_iconst (v := -1) eX10_time_28 rfl).run ?_
          exact Run.ret (v := some (.int (-1))) (k4 h1 h2 h3 h4) ⟨Or.inl rfl, eX10_time_29⟩ rfl
  · rw [if_neg h1]
    refine (go_astore_nN 3 (L' := [some (.ref 0), some (.int x1), some (.int x2), some (.null)]) eX10_time_5 rfl (Nat.le_of_ble_eq_true rfl) rfl).run ?_
    refine (go_aload_nN 3 eX10_time_6 rfl rfl).run ?_
    refine (go_ifnull_n 28 eX10_time_7 rfl).run ?_
    refine (go_iconst (v := -1) eX10_time_28 rfl).run ?_
    exact Run.ret (v := some (.int (-1))) (k5 h1) ⟨Or.inl rfl, eX10_time_29⟩ rfl

set_option maxRecDepth 20000 in
theorem bX10_time_38 {d : Nat} {Q : Option Value → St → Prop} (x2 : Int32) (rx3 : Nat) (σ : St) (hrx3 : kd rx3 = 5) 
    (k1 : ¬ x2 = (-4) → Q (some (.int (((aG 16 x2 σ))))) σ)
    (k2 : x2 = (-4) → Ct yX2_latest MX2_latest (d + 3) [.ref 14, .int (σ.1 rx3 0)] σ (fun v σ1 => Run MX10_time (d + 4) 55 [none, none, none, none] (v.toList ++ []) σ1 Q))
    : Run MX10_time (d + 4) 38 [some (.ref 0), none, some (.int x2), some (.ref rx3)] [] σ Q := by
  refine (go_iload_n 2 eX10_time_38 rfl rfl).run ?_
  refine (go_bipush (v := -4) eX10_time_39 rfl).run ?_
  refine (bi_ne 58 eX10_time_41 rfl).run (fun h1 => ?_) (fun h1 => ?_)
  · refine (go_aload_n 0 eX10_time_58 rfl rfl).run ?_
    refine (go_getr flX10_39 rf_9_5 kd_0 gr_0_5 eX10_time_59).run ?_
    refine (go_iload_n 2 eX10_time_62 rfl rfl).run ?_
    refine Run.callV1 (d := (d + 3)) (As := [.int x2]) (r := .int (((aG 16 x2 σ)))) mX2_readyAt lkX10_199 kd_14 (by decide) rfl rfl rfl rfl rfl (Nat.le_of_ble_eq_true rfl) eX10_time_63 (qX2_readyAt (d + 2) x2 σ  ) ?_
    exact Run.ret (v := some (.int (((aG 16 x2 σ))))) (k1 h1) ⟨Or.inl rfl, eX10_time_66⟩ rfl
  · refine (go_aload_n 0 eX10_time_44 rfl rfl).run ?_
    refine (go_getr flX10_39 rf_9_5 kd_0 gr_0_5 eX10_time_45).run ?_
    refine (go_aload_n 3 eX10_time_48 rfl rfl).run ?_
    refine (go_geti flX10_130 rf_5_0 hrx3 eX10_time_49).run ?_
    refine (go_sub (L' := [none, none, none, none]) (lsub_drop (lsub_keep (lsub_drop (lsub_drop lsub_nil))))).run ?_
    exact Run.callV (d := (d + 3)) (As := [.int (σ.1 rx3 0)]) mX2_latest lkX10_196 kd_14 (by decide) rfl rfl rfl rfl rfl (Nat.le_of_ble_eq_true rfl) eX10_time_52 (k2 h1)

set_option maxRecDepth 20000 in
theorem bX10_time_55 {d : Nat} {Q : Option Value → St → Prop} (s0 : Int32) (σ : St) 
    (k1 : Q (some (.int s0)) σ)
    : Run MX10_time (d + 4) 55 [none, none, none, none] [.int s0] σ Q := by
  refine (go_goto 66 eX10_time_55 rfl).run ?_
  exact Run.ret (v := some (.int s0)) k1 ⟨Or.inl rfl, eX10_time_66⟩ rfl

/-! CarryNets.bitsBelow -/
theorem eX10_bitsBelow_0 : decode MX10_bitsBelow.2.1 0 = .ok (.lconst 1, 1) := by decide +kernel
theorem eX10_bitsBelow_1 : decode MX10_bitsBelow.2.1 1 = .ok (.iload_n 0, 1) := by decide +kernel
theorem eX10_bitsBelow_2 : decode MX10_bitsBelow.2.1 2 = .ok (.lshl, 1) := by decide +kernel
theorem eX10_bitsBelow_3 : decode MX10_bitsBelow.2.1 3 = .ok (.lconst 1, 1) := by decide +kernel
theorem eX10_bitsBelow_4 : decode MX10_bitsBelow.2.1 4 = .ok (.lsub, 1) := by decide +kernel
theorem eX10_bitsBelow_5 : decode MX10_bitsBelow.2.1 5 = .ok (.lreturn, 1) := by decide +kernel
set_option maxRecDepth 20000 in
theorem bX10_bitsBelow_0 {d : Nat} {Q : Option Value → St → Prop} (x0 : Int32) (σ : St) 
    (k1 : Q (some (.long (((1 : Int64) <<< (x0.toInt64 &&& 63)) - 1))) σ)
    : Run MX10_bitsBelow d 0 [some (.int x0)] [] σ Q := by
  refine (go_lconst (v := 1) eX10_bitsBelow_0 rfl).run ?_
  refine (go_iload_n 0 eX10_bitsBelow_1 rfl rfl).run ?_
  refine (go_lshl eX10_bitsBelow_2).run ?_
  refine (go_lconst (v := 1) eX10_bitsBelow_3 rfl).run ?_
  refine (go_lsub eX10_bitsBelow_4).run ?_
  exact Run.ret (v := some (.long (((1 : Int64) <<< (x0.toInt64 &&& 63)) - 1))) k1 ⟨rfl, eX10_bitsBelow_5⟩ rfl

def rX10_bitsBelow (x0 : Int32) (σ : St) : Int64 := (((1 : Int64) <<< (x0.toInt64 &&& 63)) - 1)
theorem qX10_bitsBelow (d : Nat) (x0 : Int32) (σ : St) : Ct yX10_bitsBelow MX10_bitsBelow d [.int x0] σ (fun v σ1 => v = some (.long (rX10_bitsBelow x0 σ)) ∧ σ1 = σ) :=
  Ct.of mX10_bitsBelow.1 (Nat.le_of_ble_eq_true rfl) (bX10_bitsBelow_0 x0 σ   (⟨by first | rfl | (simp only [rX10_bitsBelow, true_and, and_true, false_and, and_false, true_or, or_true, false_or, or_false, not_true_eq_false, not_false_eq_true, if_true, if_false]; done) | (simp [rX10_bitsBelow, bI]; done), by first | rfl | (simp only [rX10_bitsBelow, true_and, and_true, false_and, and_false, true_or, or_true, false_or, or_false, not_true_eq_false, not_false_eq_true, if_true, if_false]; done) | (simp [rX10_bitsBelow, bI]; done)⟩))

/-! CarryNets.plainSum -/
theorem eX10_plainSum_0 : decode MX10_plainSum.2.1 0 = .ok (.iload_n 1, 1) := by decide +kernel
theorem eX10_plainSum_1 : decode MX10_plainSum.2.1 1 = .ok (.i2l, 1) := by decide +kernel
theorem eX10_plainSum_2 : decode MX10_plainSum.2.1 2 = .ok (.iload_n 0, 1) := by decide +kernel
theorem eX10_plainSum_3 : decode MX10_plainSum.2.1 3 = .ok (.invokestatic 338, 3) := by decide +kernel
theorem eX10_plainSum_6 : decode MX10_plainSum.2.1 6 = .ok (.land, 1) := by decide +kernel
theorem eX10_plainSum_7 : decode MX10_plainSum.2.1 7 = .ok (.iload_n 2, 1) := by decide +kernel
theorem eX10_plainSum_8 : decode MX10_plainSum.2.1 8 = .ok (.i2l, 1) := by decide +kernel
theorem eX10_plainSum_9 : decode MX10_plainSum.2.1 9 = .ok (.iload_n 0, 1) := by decide +kernel
theorem eX10_plainSum_10 : decode MX10_plainSum.2.1 10 = .ok (.invokestatic 338, 3) := by decide +kernel
theorem eX10_plainSum_13 : decode MX10_plainSum.2.1 13 = .ok (.land, 1) := by decide +kernel
theorem eX10_plainSum_14 : decode MX10_plainSum.2.1 14 = .ok (.ladd, 1) := by decide +kernel
theorem eX10_plainSum_15 : decode MX10_plainSum.2.1 15 = .ok (.iload_n 3, 1) := by decide +kernel
theorem eX10_plainSum_16 : decode MX10_plainSum.2.1 16 = .ok (.ifCond .eq 7, 3) := by decide +kernel
theorem eX10_plainSum_19 : decode MX10_plainSum.2.1 19 = .ok (.iconst 1, 1) := by decide +kernel
theorem eX10_plainSum_20 : decode MX10_plainSum.2.1 20 = .ok (.goto 4, 3) := by decide +kernel
theorem eX10_plainSum_23 : decode MX10_plainSum.2.1 23 = .ok (.iconst 0, 1) := by decide +kernel
theorem eX10_plainSum_24 : decode MX10_plainSum.2.1 24 = .ok (.i2l, 1) := by decide +kernel
theorem eX10_plainSum_25 : decode MX10_plainSum.2.1 25 = .ok (.ladd, 1) := by decide +kernel
theorem eX10_plainSum_26 : decode MX10_plainSum.2.1 26 = .ok (.lreturn, 1) := by decide +kernel
set_option maxRecDepth 20000 in
theorem bX10_plainSum_0 {d : Nat} {Q : Option Value → St → Prop} (x0 : Int32) (x1 : Int32) (x2 : Int32) (x3 : Int32) (σ : St) 
    (k1 : Q (some (.long (((x1.toInt64 &&& ((rX10_bitsBelow x0 σ))) + (x2.toInt64 &&& ((rX10_bitsBelow x0 σ)))) + ((bI (¬ x3 = 0)).toInt64)))) σ)
    : Run MX10_plainSum (d + 1) 0 [some (.int x0), some (.int x1), some (.int x2), some (.int x3)] [] σ Q := by
  refine (go_iload_n 1 eX10_plainSum_0 rfl rfl).run ?_
  refine (go_i2l eX10_plainSum_1).run ?_
  refine (go_iload_n 0 eX10_plainSum_2 rfl rfl).run ?_
  refine Run.callS1 (d := d) (As := [.int x0]) (r := .long ((rX10_bitsBelow x0 σ))) mX10_bitsBelow lkX10_338 rfl rfl rfl (Nat.le_of_ble_eq_true rfl) eX10_plainSum_3 (qX10_bitsBelow d x0 σ  ) ?_
  refine (go_land eX10_plainSum_6).run ?_
  refine (go_iload_n 2 eX10_plainSum_7 rfl rfl).run ?_
  refine (go_i2l eX10_plainSum_8).run ?_
  refine (go_iload_n 0 eX10_plainSum_9 rfl rfl).run ?_
  refine Run.callS1 (d := d) (As := [.int x0]) (r := .long ((rX10_bitsBelow x0 σ))) mX10_bitsBelow lkX10_338 rfl rfl rfl (Nat.le_of_ble_eq_true rfl) eX10_plainSum_10 (qX10_bitsBelow d x0 σ  ) ?_
  refine (go_land eX10_plainSum_13).run ?_
  refine (go_ladd eX10_plainSum_14).run ?_
  refine (go_iload_n 3 eX10_plainSum_15 rfl rfl).run ?_
  have hJh1 : Run MX10_plainSum (d + 1) 24 [none, none, none, none] [.int (bI (¬ x3 = 0)), .long ((x1.toInt64 &&& ((rX10_bitsBelow x0 σ))) + (x2.toInt64 &&& ((rX10_bitsBelow x0 σ))))] σ Q := by
    refine (go_i2l eX10_plainSum_24).run ?_
    refine (go_ladd eX10_plainSum_25).run ?_
    exact Run.ret (v := some (.long (((x1.toInt64 &&& ((rX10_bitsBelow x0 σ))) + (x2.toInt64 &&& ((rX10_bitsBelow x0 σ)))) + ((bI (¬ x3 = 0)).toInt64)))) k1 ⟨rfl, eX10_plainSum_26⟩ rfl
  refine (bz_eq 23 eX10_plainSum_16 rfl).run (fun h1 => ?_) (fun h1 => ?_)
  · refine (go_iconst (v := 0) eX10_plainSum_23 rfl).run ?_
    refine (go_sub (L' := [none, none, none, none]) (lsub_drop (lsub_drop (lsub_drop (lsub_drop lsub_nil))))).run ?_
    first | exact hJh1 | (simp only [if_pos h1] at hJh1; exact hJh1) | (simp only [eq_true h1, not_true_eq_false, true_and, and_true, false_and, and_false, true_or, or_true, false_or, or_false, not_true_eq_false, not_false_eq_true] at hJh1; exact hJh1) | exact Run.eq (by simp [eq_true h1, not_true_eq_false, bI]) (by simp [eq_true h1, not_true_eq_false, bI]) rfl hJh1
  · refine (go_iconst (v := 1) eX10_plainSum_19 rfl).run ?_
    refine (go_goto 24 eX10_plainSum_20 rfl).run ?_
    refine (go_sub (L' := [none, none, none, none]) (lsub_drop (lsub_drop (lsub_drop (lsub_drop lsub_nil))))).run ?_
    first | exact hJh1 | (simp only [if_neg (h1)] at hJh1; exact hJh1) | (simp only [eq_false h1, not_false_eq_true, true_and, and_true, false_and, and_false, true_or, or_true, false_or, or_false, not_true_eq_false, not_false_eq_true] at hJh1; exact hJh1) | exact Run.eq (by simp [eq_false h1, not_false_eq_true, bI]) (by simp [eq_false h1, not_false_eq_true, bI]) rfl hJh1

def rX10_plainSum (x0 : Int32) (x1 : Int32) (x2 : Int32) (x3 : Int32) (σ : St) : Int64 := (((x1.toInt64 &&& ((rX10_bitsBelow x0 σ))) + (x2.toInt64 &&& ((rX10_bitsBelow x0 σ)))) + ((bI (¬ x3 = 0)).toInt64))
theorem qX10_plainSum (d : Nat) (x0 : Int32) (x1 : Int32) (x2 : Int32) (x3 : Int32) (σ : St) : Ct yX10_plainSum MX10_plainSum (d + 1) [.int x0, .int x1, .int x2, .int x3] σ (fun v σ1 => v = some (.long (rX10_plainSum x0 x1 x2 x3 σ)) ∧ σ1 = σ) :=
  Ct.of mX10_plainSum.1 (Nat.le_of_ble_eq_true rfl) (bX10_plainSum_0 x0 x1 x2 x3 σ   (⟨by first | rfl | (simp only [rX10_plainSum, true_and, and_true, false_and, and_false, true_or, or_true, false_or, or_false, not_true_eq_false, not_false_eq_true, if_true, if_false]; done) | (simp [rX10_plainSum, bI]; done), by first | rfl | (simp only [rX10_plainSum, true_and, and_true, false_and, and_false, true_or, or_true, false_or, or_false, not_true_eq_false, not_false_eq_true, if_true, if_false]; done) | (simp [rX10_plainSum, bI]; done)⟩))

/-! CarryNets.sumBits -/
theorem eX10_sumBits_0 : decode MX10_sumBits.2.1 0 = .ok (.iload_n 0, 1) := by decide +kernel
theorem eX10_sumBits_1 : decode MX10_sumBits.2.1 1 = .ok (.iload_n 1, 1) := by decide +kernel
theorem eX10_sumBits_2 : decode MX10_sumBits.2.1 2 = .ok (.iload_n 2, 1) := by decide +kernel
theorem eX10_sumBits_3 : decode MX10_sumBits.2.1 3 = .ok (.iload_n 3, 1) := by decide +kernel
theorem eX10_sumBits_4 : decode MX10_sumBits.2.1 4 = .ok (.invokestatic 341, 3) := by decide +kernel
theorem eX10_sumBits_7 : decode MX10_sumBits.2.1 7 = .ok (.iload_n 0, 1) := by decide +kernel
theorem eX10_sumBits_8 : decode MX10_sumBits.2.1 8 = .ok (.invokestatic 338, 3) := by decide +kernel
theorem eX10_sumBits_11 : decode MX10_sumBits.2.1 11 = .ok (.land, 1) := by decide +kernel
theorem eX10_sumBits_12 : decode MX10_sumBits.2.1 12 = .ok (.lreturn, 1) := by decide +kernel
set_option maxRecDepth 20000 in
theorem bX10_sumBits_0 {d : Nat} {Q : Option Value → St → Prop} (x0 : Int32) (x1 : Int32) (x2 : Int32) (x3 : Int32) (σ : St) 
    (k1 : Q (some (.long (((rX10_plainSum x0 x1 x2 x3 σ)) &&& ((rX10_bitsBelow x0 σ))))) σ)
    : Run MX10_sumBits (d + 2) 0 [some (.int x0), some (.int x1), some (.int x2), some (.int x3)] [] σ Q := by
  refine (go_iload_n 0 eX10_sumBits_0 rfl rfl).run ?_
  refine (go_iload_n 1 eX10_sumBits_1 rfl rfl).run ?_
  refine (go_iload_n 2 eX10_sumBits_2 rfl rfl).run ?_
  refine (go_iload_n 3 eX10_sumBits_3 rfl rfl).run ?_
  refine Run.callS1 (d := (d + 1)) (As := [.int x0, .int x1, .int x2, .int x3]) (r := .long ((rX10_plainSum x0 x1 x2 x3 σ))) mX10_plainSum lkX10_341 rfl rfl rfl (Nat.le_of_ble_eq_true rfl) eX10_sumBits_4 (qX10_plainSum d x0 x1 x2 x3 σ  ) ?_
  refine (go_iload_n 0 eX10_sumBits_7 rfl rfl).run ?_
  refine Run.callS1 (d := (d + 1)) (As := [.int x0]) (r := .long ((rX10_bitsBelow x0 σ))) mX10_bitsBelow lkX10_338 rfl rfl rfl (Nat.le_of_ble_eq_true rfl) eX10_sumBits_8 (qX10_bitsBelow (d + 1) x0 σ  ) ?_
  refine (go_land eX10_sumBits_11).run ?_
  exact Run.ret (v := some (.long (((rX10_plainSum x0 x1 x2 x3 σ)) &&& ((rX10_bitsBelow x0 σ))))) k1 ⟨rfl, eX10_sumBits_12⟩ rfl

def rX10_sumBits (x0 : Int32) (x1 : Int32) (x2 : Int32) (x3 : Int32) (σ : St) : Int64 := (((rX10_plainSum x0 x1 x2 x3 σ)) &&& ((rX10_bitsBelow x0 σ)))
theorem qX10_sumBits (d : Nat) (x0 : Int32) (x1 : Int32) (x2 : Int32) (x3 : Int32) (σ : St) : Ct yX10_sumBits MX10_sumBits (d + 2) [.int x0, .int x1, .int x2, .int x3] σ (fun v σ1 => v = some (.long (rX10_sumBits x0 x1 x2 x3 σ)) ∧ σ1 = σ) :=
  Ct.of mX10_sumBits.1 (Nat.le_of_ble_eq_true rfl) (bX10_sumBits_0 x0 x1 x2 x3 σ   (⟨by first | rfl | (simp only [rX10_sumBits, true_and, and_true, false_and, and_false, true_or, or_true, false_or, or_false, not_true_eq_false, not_false_eq_true, if_true, if_false]; done) | (simp [rX10_sumBits, bI]; done), by first | rfl | (simp only [rX10_sumBits, true_and, and_true, false_and, and_false, true_or, or_true, false_or, or_false, not_true_eq_false, not_false_eq_true, if_true, if_false]; done) | (simp [rX10_sumBits, bI]; done)⟩))

/-! CarryNets.carryBits -/
theorem eX10_carryBits_0 : decode MX10_carryBits.2.1 0 = .ok (.iload_n 0, 1) := by decide +kernel
theorem eX10_carryBits_1 : decode MX10_carryBits.2.1 1 = .ok (.iload_n 1, 1) := by decide +kernel
theorem eX10_carryBits_2 : decode MX10_carryBits.2.1 2 = .ok (.iload_n 2, 1) := by decide +kernel
theorem eX10_carryBits_3 : decode MX10_carryBits.2.1 3 = .ok (.iload_n 3, 1) := by decide +kernel
theorem eX10_carryBits_4 : decode MX10_carryBits.2.1 4 = .ok (.invokestatic 341, 3) := by decide +kernel
theorem eX10_carryBits_7 : decode MX10_carryBits.2.1 7 = .ok (.iload_n 1, 1) := by decide +kernel
theorem eX10_carryBits_8 : decode MX10_carryBits.2.1 8 = .ok (.iload_n 2, 1) := by decide +kernel
theorem eX10_carryBits_9 : decode MX10_carryBits.2.1 9 = .ok (.ixor, 1) := by decide +kernel
theorem eX10_carryBits_10 : decode MX10_carryBits.2.1 10 = .ok (.i2l, 1) := by decide +kernel
theorem eX10_carryBits_11 : decode MX10_carryBits.2.1 11 = .ok (.iload_n 0, 1) := by decide +kernel
theorem eX10_carryBits_12 : decode MX10_carryBits.2.1 12 = .ok (.invokestatic 338, 3) := by decide +kernel
theorem eX10_carryBits_15 : decode MX10_carryBits.2.1 15 = .ok (.land, 1) := by decide +kernel
theorem eX10_carryBits_16 : decode MX10_carryBits.2.1 16 = .ok (.lxor, 1) := by decide +kernel
theorem eX10_carryBits_17 : decode MX10_carryBits.2.1 17 = .ok (.iconst 1, 1) := by decide +kernel
theorem eX10_carryBits_18 : decode MX10_carryBits.2.1 18 = .ok (.lshr, 1) := by decide +kernel
theorem eX10_carryBits_19 : decode MX10_carryBits.2.1 19 = .ok (.lreturn, 1) := by decide +kernel
set_option maxRecDepth 20000 in
theorem bX10_carryBits_0 {d : Nat} {Q : Option Value → St → Prop} (x0 : Int32) (x1 : Int32) (x2 : Int32) (x3 : Int32) (σ : St) 
    (k1 : Q (some (.long ((((rX10_plainSum x0 x1 x2 x3 σ)) ^^^ (((x1 ^^^ x2).toInt64) &&& ((rX10_bitsBelow x0 σ)))) >>> ((1 : Int32).toInt64 &&& 63)))) σ)
    : Run MX10_carryBits (d + 2) 0 [some (.int x0), some (.int x1), some (.int x2), some (.int x3)] [] σ Q := by
  refine (go_iload_n 0 eX10_carryBits_0 rfl rfl).run ?_
  refine (go_iload_n 1 eX10_carryBits_1 rfl rfl).run ?_
  refine (go_iload_n 2 eX10_carryBits_2 rfl rfl).run ?_
  refine (go_iload_n 3 eX10_carryBits_3 rfl rfl).run ?_
  refine Run.callS1 (d := (d + 1)) (As := [.int x0, .int x1, .int x2, .int x3]) (r := .long ((rX10_plainSum x0 x1 x2 x3 σ))) mX10_plainSum lkX10_341 rfl rfl rfl (Nat.le_of_ble_eq_true rfl) eX10_carryBits_4 (qX10_plainSum d x0 x1 x2 x3 σ  ) ?_
  refine (go_iload_n 1 eX10_carryBits_7 rfl rfl).run ?_
  refine (go_iload_n 2 eX10_carryBits_8 rfl rfl).run ?_
  refine (go_ixor eX10_carryBits_9).run ?_
  refine (go_i2l eX10_carryBits_10).run ?_
  refine (go_iload_n 0 eX10_carryBits_11 rfl rfl).run ?_
  refine Run.callS1 (d := (d + 1)) (As := [.int x0]) (r := .long ((rX10_bitsBelow x0 σ))) mX10_bitsBelow lkX10_338 rfl rfl rfl (Nat.le_of_ble_eq_true rfl) eX10_carryBits_12 (qX10_bitsBelow (d + 1) x0 σ  ) ?_
  refine (go_land eX10_carryBits_15).run ?_
  refine (go_lxor eX10_carryBits_16).run ?_
  refine (go_iconst (v := 1) eX10_carryBits_17 rfl).run ?_
  refine (go_lshr eX10_carryBits_18).run ?_
  exact Run.ret (v := some (.long ((((rX10_plainSum x0 x1 x2 x3 σ)) ^^^ (((x1 ^^^ x2).toInt64) &&& ((rX10_bitsBelow x0 σ)))) >>> ((1 : Int32).toInt64 &&& 63)))) k1 ⟨rfl, eX10_carryBits_19⟩ rfl

def rX10_carryBits (x0 : Int32) (x1 : Int32) (x2 : Int32) (x3 : Int32) (σ : St) : Int64 := ((((rX10_plainSum x0 x1 x2 x3 σ)) ^^^ (((x1 ^^^ x2).toInt64) &&& ((rX10_bitsBelow x0 σ)))) >>> ((1 : Int32).toInt64 &&& 63))
theorem qX10_carryBits (d : Nat) (x0 : Int32) (x1 : Int32) (x2 : Int32) (x3 : Int32) (σ : St) : Ct yX10_carryBits MX10_carryBits (d + 2) [.int x0, .int x1, .int x2, .int x3] σ (fun v σ1 => v = some (.long (rX10_carryBits x0 x1 x2 x3 σ)) ∧ σ1 = σ) :=
  Ct.of mX10_carryBits.1 (Nat.le_of_ble_eq_true rfl) (bX10_carryBits_0 x0 x1 x2 x3 σ   (⟨by first | rfl | (simp only [rX10_carryBits, true_and, and_true, false_and, and_false, true_or, or_true, false_or, or_false, not_true_eq_false, not_false_eq_true, if_true, if_false]; done) | (simp [rX10_carryBits, bI]; done), by first | rfl | (simp only [rX10_carryBits, true_and, and_true, false_and, and_false, true_or, or_true, false_or, or_false, not_true_eq_false, not_false_eq_true, if_true, if_false]; done) | (simp [rX10_carryBits, bI]; done)⟩))

/-! CarryNets.sum -/
theorem eX10_sum_0 : decode MX10_sum.2.1 0 = .ok (.aload_n 0, 1) := by decide +kernel
theorem eX10_sum_1 : decode MX10_sum.2.1 1 = .ok (.iload_n 1, 1) := by decide +kernel
theorem eX10_sum_2 : decode MX10_sum.2.1 2 = .ok (.invokevirtual 114, 3) := by decide +kernel
theorem eX10_sum_5 : decode MX10_sum.2.1 5 = .ok (.astore 6, 2) := by decide +kernel
theorem eX10_sum_7 : decode MX10_sum.2.1 7 = .ok (.aload 6, 2) := by decide +kernel
theorem eX10_sum_9 : decode MX10_sum.2.1 9 = .ok (.ifnull 14, 3) := by decide +kernel
theorem eX10_sum_12 : decode MX10_sum.2.1 12 = .ok (.iload 5, 2) := by decide +kernel
theorem eX10_sum_14 : decode MX10_sum.2.1 14 = .ok (.ifCond .lt 9, 3) := by decide +kernel
theorem eX10_sum_17 : decode MX10_sum.2.1 17 = .ok (.iload 5, 2) := by decide +kernel
theorem eX10_sum_19 : decode MX10_sum.2.1 19 = .ok (.iconst 1, 1) := by decide +kernel
theorem eX10_sum_20 : decode MX10_sum.2.1 20 = .ok (.if_icmp .le 7, 3) := by decide +kernel
theorem eX10_sum_23 : decode MX10_sum.2.1 23 = .ok (.ldc2_w 202, 3) := by decide +kernel
theorem eX10_sum_26 : decode MX10_sum.2.1 26 = .ok (.lreturn, 1) := by decide +kernel
theorem eX10_sum_27 : decode MX10_sum.2.1 27 = .ok (.aload 6, 2) := by decide +kernel
theorem eX10_sum_29 : decode MX10_sum.2.1 29 = .ok (.getfield 133, 3) := by decide +kernel
theorem eX10_sum_32 : decode MX10_sum.2.1 32 = .ok (.invokevirtual 146, 3) := by decide +kernel
theorem eX10_sum_35 : decode MX10_sum.2.1 35 = .ok (.ifCond .ne 7, 3) := by decide +kernel
theorem eX10_sum_38 : decode MX10_sum.2.1 38 = .ok (.ldc2_w 204, 3) := by decide +kernel
theorem eX10_sum_41 : decode MX10_sum.2.1 41 = .ok (.lreturn, 1) := by decide +kernel
theorem eX10_sum_42 : decode MX10_sum.2.1 42 = .ok (.iload 5, 2) := by decide +kernel
theorem eX10_sum_44 : decode MX10_sum.2.1 44 = .ok (.ifCond .ne 18, 3) := by decide +kernel
theorem eX10_sum_47 : decode MX10_sum.2.1 47 = .ok (.aload 6, 2) := by decide +kernel
theorem eX10_sum_49 : decode MX10_sum.2.1 49 = .ok (.getfield 130, 3) := by decide +kernel
theorem eX10_sum_52 : decode MX10_sum.2.1 52 = .ok (.iload_n 2, 1) := by decide +kernel
theorem eX10_sum_53 : decode MX10_sum.2.1 53 = .ok (.iload_n 3, 1) := by decide +kernel
theorem eX10_sum_54 : decode MX10_sum.2.1 54 = .ok (.iload 4, 2) := by decide +kernel
theorem eX10_sum_56 : decode MX10_sum.2.1 56 = .ok (.invokestatic 206, 3) := by decide +kernel
theorem eX10_sum_59 : decode MX10_sum.2.1 59 = .ok (.goto 15, 3) := by decide +kernel
theorem eX10_sum_62 : decode MX10_sum.2.1 62 = .ok (.aload 6, 2) := by decide +kernel
theorem eX10_sum_64 : decode MX10_sum.2.1 64 = .ok (.getfield 130, 3) := by decide +kernel
theorem eX10_sum_67 : decode MX10_sum.2.1 67 = .ok (.iload_n 2, 1) := by decide +kernel
theorem eX10_sum_68 : decode MX10_sum.2.1 68 = .ok (.iload_n 3, 1) := by decide +kernel
theorem eX10_sum_69 : decode MX10_sum.2.1 69 = .ok (.iload 4, 2) := by decide +kernel
theorem eX10_sum_71 : decode MX10_sum.2.1 71 = .ok (.invokestatic 210, 3) := by decide +kernel
theorem eX10_sum_74 : decode MX10_sum.2.1 74 = .ok (.lreturn, 1) := by decide +kernel
set_option maxRecDepth 20000 in
theorem bX10_sum_0 {d : Nat} {Q : Option Value → St → Prop} (x1 : Int32) (x2 : Int32) (x3 : Int32) (x4 : Int32) (x5 : Int32) (σ : St) 
    (k1 : (0 ≤ x1 ∧ x1 < (σ.1 0 1) ∧ x1 < 8) → x5 < 0 → Q (some (.long (-1))) σ)
    (k2 : (0 ≤ x1 ∧ x1 < (σ.1 0 1) ∧ x1 < 8) → (0 : Int32) ≤ x5 → x5 ≤ 1 → Ct yX8_whole MX8_whole (d + 2) [.ref (gr (gr 1 x1.toNatClampNeg) 2)] σ (fun v σ1 => Run MX10_sum (d + 3) 35 [none, none, some (.int x2), some (.int x3), some (.int x4), some (.int x5), some (.ref (gr 1 x1.toNatClampNeg))] (v.toList ++ []) σ1 Q))
    (k3 : (0 ≤ x1 ∧ x1 < (σ.1 0 1) ∧ x1 < 8) → (0 : Int32) ≤ x5 → (1 : Int32) < x5 → Q (some (.long (-1))) σ)
    (k4 : (¬ (0 ≤ x1 ∧ x1 < (σ.1 0 1) ∧ x1 < 8)) → Q (some (.long (-1))) σ)
    : Run MX10_sum (d + 3) 0 [some (.ref 0), some (.int x1), some (.int x2), some (.int x3), some (.int x4), some (.int x5), none] [] σ Q := by
  refine (go_aload_n 0 eX10_sum_0 rfl rfl).run ?_
  refine (go_iload_n 1 eX10_sum_1 rfl rfl).run ?_
  refine Run.callV (d := (d + 2)) (As := [.int x1]) mX10_netNumbered lkX10_114 kd_0 (by decide) rfl rfl rfl rfl rfl (Nat.le_of_ble_eq_true rfl) eX10_sum_2 (Ct.mono (qX10_netNumbered (d + 2) x1 σ) ?_)
  rintro v1 s1 ⟨hv1, hs1⟩
  rw [hv1, hs1]
  by_cases h1 : 0 ≤ x1 ∧ x1 < (σ.1 0 1) ∧ x1 < 8
  · rw [if_pos h1]
    refine (go_astore 6 (L' := [some (.ref 0), some (.int x1), some (.int x2), some (.int x3), some (.int x4), some (.int x5), some (.ref (gr 1 x1.toNatClampNeg))]) eX10_sum_5 (Nat.le_of_ble_eq_true rfl) rfl).run ?_
    refine (go_aload 6 eX10_sum_7 rfl).run ?_
    refine (go_ifnull_r eX10_sum_9).run ?_
    refine (go_iload 5 eX10_sum_12 rfl).run ?_
    refine (bz_lt 23 eX10_sum_14 rfl).run (fun h2 => ?_) (fun h2 => ?_)
    · refine (go_ldc2 csX10_202 eX10_sum_23).run ?_
      exact Run.ret (v := some (.long (-1))) (k1 h1 h2) ⟨rfl, eX10_sum_26⟩ rfl
    · refine (go_iload 5 eX10_sum_17 rfl).run ?_
      refine (go_iconst (v := 1) eX10_sum_19 rfl).run ?_
      refine (bi_le 27 eX10_sum_20 rfl).run (fun h3 => ?_) (fun h3 => ?_)
      · refine (go_aload 6 eX10_sum_27 rfl).run ?_
        refine (go_getr (r := gr (gr 1 x1.toNatClampNeg) 2) flX10_133 rf_5_2 (ka_103 (vp_of h1.1 h1.2.2 (by decide))) rfl eX10_sum_29).run ?_
        refine (go_sub (L' := [none, none, some (.int x2), some (.int x3), some (.int x4), some (.int x5), some (.ref (gr 1 x1.toNatClampNeg))]) (lsub_drop (lsub_drop (lsub_keep (lsub_keep (lsub_keep (lsub_keep (lsub_keep lsub_nil)))))))).run ?_
        exact Run.callV (d := (d + 2)) (As := []) mX8_whole lkX10_146 (kf_5_2 (ka_103 (vp_of h1.1 h1.2.2 (by decide)))).1 (by decide) rfl rfl rfl rfl rfl (Nat.le_of_ble_eq_true rfl) eX10_sum_32 (k2 h1 h2 h3)
      · refine (go_ldc2 csX10_202 eX10_sum_23).run ?_
        exact Run.ret (v := some (.long (-1))) (k3 h1 h2 h3) ⟨rfl, eX10_sum_26⟩ rfl
  · rw [if_neg h1]
    refine (go_astoreN 6 (L' := [some (.ref 0), some (.int x1), some (.int x2), some (.int x3), some (.int x4), some (.int x5), some (.null)]) eX10_sum_5 (Nat.le_of_ble_eq_true rfl) rfl).run ?_
    refine (go_aloadN 6 eX10_sum_7 rfl).run ?_
    refine (go_ifnull_n 23 eX10_sum_9 rfl).run ?_
    refine (go_ldc2 csX10_202 eX10_sum_23).run ?_
    exact Run.ret (v := some (.long (-1))) (k4 h1) ⟨rfl, eX10_sum_26⟩ rfl

set_option maxRecDepth 20000 in
theorem bX10_sum_35 {d : Nat} {Q : Option Value → St → Prop} (x2 : Int32) (x3 : Int32) (x4 : Int32) (x5 : Int32) (rx6 : Nat) (s0 : Int32) (σ : St) (hrx6 : kd rx6 = 5) 
    (k1 : ¬ s0 = 0 → Q (some (.long (if x5 = 0 then ((rX10_sumBits (σ.1 rx6 0) x2 x3 x4 σ)) else ((rX10_carryBits (σ.1 rx6 0) x2 x3 x4 σ))))) σ)
    (k2 : s0 = 0 → Q (some (.long (-2))) σ)
    : Run MX10_sum (d + 3) 35 [none, none, some (.int x2), some (.int x3), some (.int x4), some (.int x5), some (.ref rx6)] [.int s0] σ Q := by
  refine (bz_ne 42 eX10_sum_35 rfl).run (fun h1 => ?_) (fun h1 => ?_)
  · refine (go_iload 5 eX10_sum_42 rfl).run ?_
    have hJh2 : Run MX10_sum (d + 3) 74 [none, none, none, none, none, none, none] [.long (if x5 = 0 then ((rX10_sumBits (σ.1 rx6 0) x2 x3 x4 σ)) else ((rX10_carryBits (σ.1 rx6 0) x2 x3 x4 σ)))] σ Q := by
      exact Run.ret (v := some (.long (if x5 = 0 then ((rX10_sumBits (σ.1 rx6 0) x2 x3 x4 σ)) else ((rX10_carryBits (σ.1 rx6 0) x2 x3 x4 σ))))) (k1 h1) ⟨rfl, eX10_sum_74⟩ rfl
    refine (bz_ne 62 eX10_sum_44 rfl).run (fun h2 => ?_) (fun h2 => ?_)
    · refine (go_aload 6 eX10_sum_62 rfl).run ?_
      refine (go_geti flX10_130 rf_5_0 hrx6 eX10_sum_64).run ?_
      refine (go_iload_n 2 eX10_sum_67 rfl rfl).run ?_
      refine (go_iload_n 3 eX10_sum_68 rfl rfl).run ?_
      refine (go_iload 4 eX10_sum_69 rfl).run ?_
      refine Run.callS1 (d := (d + 2)) (As := [.int (σ.1 rx6 0), .int x2, .int x3, .int x4]) (r := .long ((rX10_carryBits (σ.1 rx6 0) x2 x3 x4 σ))) mX10_carryBits lkX10_210 rfl rfl rfl (Nat.le_of_ble_eq_true rfl) eX10_sum_71 (qX10_carryBits d (σ.1 rx6 0) x2 x3 x4 σ  ) ?_
      refine (go_sub (L' := [none, none, none, none, none, none, none]) (lsub_keep (lsub_keep (lsub_drop (lsub_drop (lsub_drop (lsub_drop (lsub_drop lsub_nil)))))))).run ?_
      first | exact hJh2 | (simp only [if_neg (h2)] at hJh2; exact hJh2) | (simp only [eq_false h2, not_false_eq_true, true_and, and_true, false_and, and_false, true_or, or_true, false_or, or_false, not_true_eq_false, not_false_eq_true] at hJh2; exact hJh2) | exact Run.eq (by simp [eq_false h2, not_false_eq_true, bI]) (by simp [eq_false h2, not_false_eq_true, bI]) rfl hJh2
    · refine (go_aload 6 eX10_sum_47 rfl).run ?_
      refine (go_geti flX10_130 rf_5_0 hrx6 eX10_sum_49).run ?_
      refine (go_iload_n 2 eX10_sum_52 rfl rfl).run ?_
      refine (go_iload_n 3 eX10_sum_53 rfl rfl).run ?_
      refine (go_iload 4 eX10_sum_54 rfl).run ?_
      refine Run.callS1 (d := (d + 2)) (As := [.int (σ.1 rx6 0), .int x2, .int x3, .int x4]) (r := .long ((rX10_sumBits (σ.1 rx6 0) x2 x3 x4 σ))) mX10_sumBits lkX10_206 rfl rfl rfl (Nat.le_of_ble_eq_true rfl) eX10_sum_56 (qX10_sumBits d (σ.1 rx6 0) x2 x3 x4 σ  ) ?_
      refine (go_goto 74 eX10_sum_59 rfl).run ?_
      refine (go_sub (L' := [none, none, none, none, none, none, none]) (lsub_keep (lsub_keep (lsub_drop (lsub_drop (lsub_drop (lsub_drop (lsub_drop lsub_nil)))))))).run ?_
      first | exact hJh2 | (simp only [if_pos h2] at hJh2; exact hJh2) | (simp only [eq_true h2, not_true_eq_false, true_and, and_true, false_and, and_false, true_or, or_true, false_or, or_false, not_true_eq_false, not_false_eq_true] at hJh2; exact hJh2) | exact Run.eq (by simp [eq_true h2, not_true_eq_false, bI]) (by simp [eq_true h2, not_true_eq_false, bI]) rfl hJh2
  · refine (go_ldc2 csX10_204 eX10_sum_38).run ?_
    exact Run.ret (v := some (.long (-2))) (k2 h1) ⟨rfl, eX10_sum_41⟩ rfl

/-! CarryNets.bestIsTold -/
theorem eX10_bestIsTold_0 : decode MX10_bestIsTold.2.1 0 = .ok (.iload_n 0, 1) := by decide +kernel
theorem eX10_bestIsTold_1 : decode MX10_bestIsTold.2.1 1 = .ok (.iconst 2, 1) := by decide +kernel
theorem eX10_bestIsTold_2 : decode MX10_bestIsTold.2.1 2 = .ok (.if_icmp .lt 35, 3) := by decide +kernel
theorem eX10_bestIsTold_5 : decode MX10_bestIsTold.2.1 5 = .ok (.iload_n 0, 1) := by decide +kernel
theorem eX10_bestIsTold_6 : decode MX10_bestIsTold.2.1 6 = .ok (.bipush 7, 2) := by decide +kernel
theorem eX10_bestIsTold_8 : decode MX10_bestIsTold.2.1 8 = .ok (.if_icmp .gt 29, 3) := by decide +kernel
theorem eX10_bestIsTold_11 : decode MX10_bestIsTold.2.1 11 = .ok (.iload_n 1, 1) := by decide +kernel
theorem eX10_bestIsTold_12 : decode MX10_bestIsTold.2.1 12 = .ok (.iconst 1, 1) := by decide +kernel
theorem eX10_bestIsTold_13 : decode MX10_bestIsTold.2.1 13 = .ok (.if_icmp .lt 24, 3) := by decide +kernel
theorem eX10_bestIsTold_16 : decode MX10_bestIsTold.2.1 16 = .ok (.iload_n 1, 1) := by decide +kernel
theorem eX10_bestIsTold_17 : decode MX10_bestIsTold.2.1 17 = .ok (.bipush 6, 2) := by decide +kernel
theorem eX10_bestIsTold_19 : decode MX10_bestIsTold.2.1 19 = .ok (.if_icmp .gt 18, 3) := by decide +kernel
theorem eX10_bestIsTold_22 : decode MX10_bestIsTold.2.1 22 = .ok (.iload_n 2, 1) := by decide +kernel
theorem eX10_bestIsTold_23 : decode MX10_bestIsTold.2.1 23 = .ok (.iconst 1, 1) := by decide +kernel
theorem eX10_bestIsTold_24 : decode MX10_bestIsTold.2.1 24 = .ok (.if_icmp .lt 13, 3) := by decide +kernel
theorem eX10_bestIsTold_27 : decode MX10_bestIsTold.2.1 27 = .ok (.iload_n 2, 1) := by decide +kernel
theorem eX10_bestIsTold_28 : decode MX10_bestIsTold.2.1 28 = .ok (.bipush 6, 2) := by decide +kernel
theorem eX10_bestIsTold_30 : decode MX10_bestIsTold.2.1 30 = .ok (.if_icmp .gt 7, 3) := by decide +kernel
theorem eX10_bestIsTold_33 : decode MX10_bestIsTold.2.1 33 = .ok (.iconst 1, 1) := by decide +kernel
theorem eX10_bestIsTold_34 : decode MX10_bestIsTold.2.1 34 = .ok (.goto 4, 3) := by decide +kernel
theorem eX10_bestIsTold_37 : decode MX10_bestIsTold.2.1 37 = .ok (.iconst 0, 1) := by decide +kernel
theorem eX10_bestIsTold_38 : decode MX10_bestIsTold.2.1 38 = .ok (.ireturn, 1) := by decide +kernel
set_option maxRecDepth 20000 in
theorem bX10_bestIsTold_0 {d : Nat} {Q : Option Value → St → Prop} (x0 : Int32) (x1 : Int32) (x2 : Int32) (σ : St) 
    (k1 : Q (some (.int (bI ((2 : Int32) ≤ x0 ∧ (x0 ≤ 7 ∧ ((1 : Int32) ≤ x1 ∧ (x1 ≤ 6 ∧ ((1 : Int32) ≤ x2 ∧ x2 ≤ 6)))))))) σ)
    : Run MX10_bestIsTold d 0 [some (.int x0), some (.int x1), some (.int x2)] [] σ Q := by
  refine (go_iload_n 0 eX10_bestIsTold_0 rfl rfl).run ?_
  refine (go_iconst (v := 2) eX10_bestIsTold_1 rfl).run ?_
  have hJh1 : Run MX10_bestIsTold d 38 [none, none, none] [.int (bI ((2 : Int32) ≤ x0 ∧ (x0 ≤ 7 ∧ ((1 : Int32) ≤ x1 ∧ (x1 ≤ 6 ∧ ((1 : Int32) ≤ x2 ∧ x2 ≤ 6))))))] σ Q := by
    exact Run.ret (v := some (.int (bI ((2 : Int32) ≤ x0 ∧ (x0 ≤ 7 ∧ ((1 : Int32) ≤ x1 ∧ (x1 ≤ 6 ∧ ((1 : Int32) ≤ x2 ∧ x2 ≤ 6)))))))) k1 ⟨Or.inr ⟨rfl, bI_01⟩, eX10_bestIsTold_38⟩ rfl
  refine (bi_lt 37 eX10_bestIsTold_2 rfl).run (fun h1 => ?_) (fun h1 => ?_)
  · refine (go_iconst (v := 0) eX10_bestIsTold_37 rfl).run ?_
    refine (go_sub (L' := [none, none, none]) (lsub_drop (lsub_drop (lsub_drop lsub_nil)))).run ?_
    first | exact hJh1 | (simp only [if_pos h1] at hJh1; exact hJh1) | (simp only [eq_true h1, eq_false (i32_nle.mpr h1), true_and, and_true, false_and, and_false, true_or, or_true, false_or, or_false, not_true_eq_false, not_false_eq_true] at hJh1; exact hJh1) | exact Run.eq (by simp [eq_true h1, eq_false (i32_nle.mpr h1), bI]) (by simp [eq_true h1, eq_false (i32_nle.mpr h1), bI]) rfl hJh1
  · refine (go_iload_n 0 eX10_bestIsTold_5 rfl rfl).run ?_
    refine (go_bipush (v := 7) eX10_bestIsTold_6 rfl).run ?_
    have hJh2 : Run MX10_bestIsTold d 38 [none, none, none] [.int (bI (x0 ≤ 7 ∧ ((1 : Int32) ≤ x1 ∧ (x1 ≤ 6 ∧ ((1 : Int32) ≤ x2 ∧ x2 ≤ 6)))))] σ Q := by
      first | exact hJh1 | (simp only [if_neg (i32_nlt.mpr h1)] at hJh1; exact hJh1) | (simp only [eq_true h1, eq_false (i32_nlt.mpr h1), true_and, and_true, false_and, and_false, true_or, or_true, false_or, or_false, not_true_eq_false, not_false_eq_true] at hJh1; exact hJh1) | exact Run.eq (by simp [eq_true h1, eq_false (i32_nlt.mpr h1), bI]) (by simp [eq_true h1, eq_false (i32_nlt.mpr h1), bI]) rfl hJh1
    refine (bi_gt 37 eX10_bestIsTold_8 rfl).run (fun h2 => ?_) (fun h2 => ?_)
    · refine (go_iconst (v := 0) eX10_bestIsTold_37 rfl).run ?_
      refine (go_sub (L' := [none, none, none]) (lsub_drop (lsub_drop (lsub_drop lsub_nil)))).run ?_
      first | exact hJh2 | (simp only [if_pos h2] at hJh2; exact hJh2) | (simp only [eq_true h2, eq_false (i32_nle.mpr h2), true_and, and_true, false_and, and_false, true_or, or_true, false_or, or_false, not_true_eq_false, not_false_eq_true] at hJh2; exact hJh2) | exact Run.eq (by simp [eq_true h2, eq_false (i32_nle.mpr h2), bI]) (by simp [eq_true h2, eq_false (i32_nle.mpr h2), bI]) rfl hJh2
    · refine (go_iload_n 1 eX10_bestIsTold_11 rfl rfl).run ?_
      refine (go_iconst (v := 1) eX10_bestIsTold_12 rfl).run ?_
      have hJh3 : Run MX10_bestIsTold d 38 [none, none, none] [.int (bI ((1 : Int32) ≤ x1 ∧ (x1 ≤ 6 ∧ ((1 : Int32) ≤ x2 ∧ x2 ≤ 6))))] σ Q := by
        first | exact hJh2 | (simp only [if_neg (i32_nlt.mpr h2)] at hJh2; exact hJh2) | (simp only [eq_true h2, eq_false (i32_nlt.mpr h2), true_and, and_true, false_and, and_false, true_or, or_true, false_or, or_false, not_true_eq_false, not_false_eq_true] at hJh2; exact hJh2) | exact Run.eq (by simp [eq_true h2, eq_false (i32_nlt.mpr h2), bI]) (by simp [eq_true h2, eq_false (i32_nlt.mpr h2), bI]) rfl hJh2
      refine (bi_lt 37 eX10_bestIsTold_13 rfl).run (fun h3 => ?_) (fun h3 => ?_)
      · refine (go_iconst (v := 0) eX10_bestIsTold_37 rfl).run ?_
        refine (go_sub (L' := [none, none, none]) (lsub_drop (lsub_drop (lsub_drop lsub_nil)))).run ?_
        first | exact hJh3 | (simp only [if_pos h3] at hJh3; exact hJh3) | (simp only [eq_true h3, eq_false (i32_nle.mpr h3), true_and, and_true, false_and, and_false, true_or, or_true, false_or, or_false, not_true_eq_false, not_false_eq_true] at hJh3; exact hJh3) | exact Run.eq (by simp [eq_true h3, eq_false (i32_nle.mpr h3), bI]) (by simp [eq_true h3, eq_false (i32_nle.mpr h3), bI]) rfl hJh3
      · refine (go_iload_n 1 eX10_bestIsTold_16 rfl rfl).run ?_
        refine (go_bipush (v := 6) eX10_bestIsTold_17 rfl).run ?_
        have hJh4 : Run MX10_bestIsTold d 38 [none, none, none] [.int (bI (x1 ≤ 6 ∧ ((1 : Int32) ≤ x2 ∧ x2 ≤ 6)))] σ Q := by
          first | exact hJh3 | (simp only [if_neg (i32_nlt.mpr h3)] at hJh3; exact hJh3) | (simp only [eq_true h3, eq_false (i32_nlt.mpr h3), true_and, and_true, false_and, and_false, true_or, or_true, false_or, or_false, not_true_eq_false, not_false_eq_true] at hJh3; exact hJh3) | exact Run.eq (by simp [eq_true h3, eq_false (i32_nlt.mpr h3), bI]) (by simp [eq_true h3, eq_false (i32_nlt.mpr h3), bI]) rfl hJh3
        refine (bi_gt 37 eX10_bestIsTold_19 rfl).run (fun h4 => ?_) (fun h4 => ?_)
        · refine (go_iconst (v := 0) eX10_bestIsTold_37 rfl).run ?_
          refine (go_sub (L' := [none, none, none]) (lsub_drop (lsub_drop (lsub_drop lsub_nil)))).run ?_
          first | exact hJh4 | (simp only [if_pos h4] at hJh4; exact hJh4) | (simp only [eq_true h4, eq_false (i32_nle.mpr h4), true_and, and_true, false_and, and_false, true_or, or_true, false_or, or_false, not_true_eq_false, not_false_eq_true] at hJh4; exact hJh4) | exact Run.eq (by simp [eq_true h4, eq_false (i32_nle.mpr h4), bI]) (by simp [eq_true h4, eq_false (i32_nle.mpr h4), bI]) rfl hJh4
        · refine (go_iload_n 2 eX10_bestIsTold_22 rfl rfl).run ?_
          refine (go_iconst (v := 1) eX10_bestIsTold_23 rfl).run ?_
          have hJh5 : Run MX10_bestIsTold d 38 [none, none, none] [.int (bI ((1 : Int32) ≤ x2 ∧ x2 ≤ 6))] σ Q := by
            first | exact hJh4 | (simp only [if_neg (i32_nlt.mpr h4)] at hJh4; exact hJh4) | (simp only [eq_true h4, eq_false (i32_nlt.mpr h4), true_and, and_true, false_and, and_false, true_or, or_true, false_or, or_false, not_true_eq_false, not_false_eq_true] at hJh4; exact hJh4) | exact Run.eq (by simp [eq_true h4, eq_false (i32_nlt.mpr h4), bI]) (by simp [eq_true h4, eq_false (i32_nlt.mpr h4), bI]) rfl hJh4
          refine (bi_lt 37 eX10_bestIsTold_24 rfl).run (fun h5 => ?_) (fun h5 => ?_)
          · refine (go_iconst (v := 0) eX10_bestIsTold_37 rfl).run ?_
            refine (go_sub (L' := [none, none, none]) (lsub_drop (lsub_drop (lsub_drop lsub_nil)))).run ?_
            first | exact hJh5 | (simp only [if_pos h5] at hJh5; exact hJh5) | (simp only [eq_true h5, eq_false (i32_nle.mpr h5), true_and, and_true, false_and, and_false, true_or, or_true, false_or, or_false, not_true_eq_false, not_false_eq_true] at hJh5; exact hJh5) | exact Run.eq (by simp [eq_true h5, eq_false (i32_nle.mpr h5), bI]) (by simp [eq_true h5, eq_false (i32_nle.mpr h5), bI]) rfl hJh5
          · refine (go_iload_n 2 eX10_bestIsTold_27 rfl rfl).run ?_
            refine (go_bipush (v := 6) eX10_bestIsTold_28 rfl).run ?_
            have hJh6 : Run MX10_bestIsTold d 38 [none, none, none] [.int (bI (x2 ≤ 6))] σ Q := by
              first | exact hJh5 | (simp only [if_neg (i32_nlt.mpr h5)] at hJh5; exact hJh5) | (simp only [eq_true h5, eq_false (i32_nlt.mpr h5), true_and, and_true, false_and, and_false, true_or, or_true, false_or, or_false, not_true_eq_false, not_false_eq_true] at hJh5; exact hJh5) | exact Run.eq (by simp [eq_true h5, eq_false (i32_nlt.mpr h5), bI]) (by simp [eq_true h5, eq_false (i32_nlt.mpr h5), bI]) rfl hJh5
            refine (bi_gt 37 eX10_bestIsTold_30 rfl).run (fun h6 => ?_) (fun h6 => ?_)
            · refine (go_iconst (v := 0) eX10_bestIsTold_37 rfl).run ?_
              refine (go_sub (L' := [none, none, none]) (lsub_drop (lsub_drop (lsub_drop lsub_nil)))).run ?_
              first | exact hJh6 | (simp only [if_pos h6] at hJh6; exact hJh6) | (simp only [eq_true h6, eq_false (i32_nle.mpr h6), true_and, and_true, false_and, and_false, true_or, or_true, false_or, or_false, not_true_eq_false, not_false_eq_true] at hJh6; exact hJh6) | exact Run.eq (by simp [eq_true h6, eq_false (i32_nle.mpr h6), bI]) (by simp [eq_true h6, eq_false (i32_nle.mpr h6), bI]) rfl hJh6
            · refine (go_iconst (v := 1) eX10_bestIsTold_33 rfl).run ?_
              refine (go_goto 38 eX10_bestIsTold_34 rfl).run ?_
              refine (go_sub (L' := [none, none, none]) (lsub_drop (lsub_drop (lsub_drop lsub_nil)))).run ?_
              first | exact hJh6 | (simp only [if_neg (i32_nlt.mpr h6)] at hJh6; exact hJh6) | (simp only [eq_true h6, eq_false (i32_nlt.mpr h6), true_and, and_true, false_and, and_false, true_or, or_true, false_or, or_false, not_true_eq_false, not_false_eq_true] at hJh6; exact hJh6) | exact Run.eq (by simp [eq_true h6, eq_false (i32_nlt.mpr h6), bI]) (by simp [eq_true h6, eq_false (i32_nlt.mpr h6), bI]) rfl hJh6

theorem qX10_bestIsTold (d : Nat) (x0 : Int32) (x1 : Int32) (x2 : Int32) (σ : St) : Ct yX10_bestIsTold MX10_bestIsTold d [.int x0, .int x1, .int x2] σ (fun v σ1 => v = some (.int (bI ((2 : Int32) ≤ x0 ∧ (x0 ≤ 7 ∧ ((1 : Int32) ≤ x1 ∧ (x1 ≤ 6 ∧ ((1 : Int32) ≤ x2 ∧ x2 ≤ 6))))))) ∧ σ1 = σ) :=
  Ct.of mX10_bestIsTold.1 (Nat.le_of_ble_eq_true rfl) (bX10_bestIsTold_0 x0 x1 x2 σ   (⟨by first | rfl | (simp only [bI, true_and, and_true, false_and, and_false, true_or, or_true, false_or, or_false, not_true_eq_false, not_false_eq_true, if_true, if_false]; done) | (simp [bI]; done), by first | rfl | (simp only [bI, true_and, and_true, false_and, and_false, true_or, or_true, false_or, or_false, not_true_eq_false, not_false_eq_true, if_true, if_false]; done) | (simp [bI]; done)⟩))

/-! CarryNets.best -/
theorem eX10_best_0 : decode MX10_best.2.1 0 = .ok (.iload_n 1, 1) := by decide +kernel
theorem eX10_best_1 : decode MX10_best.2.1 1 = .ok (.iload_n 2, 1) := by decide +kernel
theorem eX10_best_2 : decode MX10_best.2.1 2 = .ok (.iload_n 3, 1) := by decide +kernel
theorem eX10_best_3 : decode MX10_best.2.1 3 = .ok (.invokestatic 213, 3) := by decide +kernel
theorem eX10_best_6 : decode MX10_best.2.1 6 = .ok (.ifCond .eq 14, 3) := by decide +kernel
theorem eX10_best_9 : decode MX10_best.2.1 9 = .ok (.iload 4, 2) := by decide +kernel
theorem eX10_best_11 : decode MX10_best.2.1 11 = .ok (.ifCond .lt 9, 3) := by decide +kernel
theorem eX10_best_14 : decode MX10_best.2.1 14 = .ok (.iload 4, 2) := by decide +kernel
theorem eX10_best_16 : decode MX10_best.2.1 16 = .ok (.iconst 1, 1) := by decide +kernel
theorem eX10_best_17 : decode MX10_best.2.1 17 = .ok (.if_icmp .le 5, 3) := by decide +kernel
theorem eX10_best_20 : decode MX10_best.2.1 20 = .ok (.iconst (-1), 1) := by decide +kernel
theorem eX10_best_21 : decode MX10_best.2.1 21 = .ok (.ireturn, 1) := by decide +kernel
theorem eX10_best_22 : decode MX10_best.2.1 22 = .ok (.aload_n 0, 1) := by decide +kernel
theorem eX10_best_23 : decode MX10_best.2.1 23 = .ok (.getfield 46, 3) := by decide +kernel
theorem eX10_best_26 : decode MX10_best.2.1 26 = .ok (.iload_n 1, 1) := by decide +kernel
theorem eX10_best_27 : decode MX10_best.2.1 27 = .ok (.iload_n 2, 1) := by decide +kernel
theorem eX10_best_28 : decode MX10_best.2.1 28 = .ok (.iload_n 3, 1) := by decide +kernel
theorem eX10_best_29 : decode MX10_best.2.1 29 = .ok (.invokevirtual 217, 3) := by decide +kernel
theorem eX10_best_32 : decode MX10_best.2.1 32 = .ok (.ifCond .ne 6, 3) := by decide +kernel
theorem eX10_best_35 : decode MX10_best.2.1 35 = .ok (.bipush (-4), 2) := by decide +kernel
theorem eX10_best_37 : decode MX10_best.2.1 37 = .ok (.ireturn, 1) := by decide +kernel
theorem eX10_best_38 : decode MX10_best.2.1 38 = .ok (.iload 4, 2) := by decide +kernel
theorem eX10_best_40 : decode MX10_best.2.1 40 = .ok (.ifCond .ne 13, 3) := by decide +kernel
theorem eX10_best_43 : decode MX10_best.2.1 43 = .ok (.aload_n 0, 1) := by decide +kernel
theorem eX10_best_44 : decode MX10_best.2.1 44 = .ok (.getfield 46, 3) := by decide +kernel
theorem eX10_best_47 : decode MX10_best.2.1 47 = .ok (.getfield 220, 3) := by decide +kernel
theorem eX10_best_50 : decode MX10_best.2.1 50 = .ok (.goto 10, 3) := by decide +kernel
theorem eX10_best_53 : decode MX10_best.2.1 53 = .ok (.aload_n 0, 1) := by decide +kernel
theorem eX10_best_54 : decode MX10_best.2.1 54 = .ok (.getfield 46, 3) := by decide +kernel
theorem eX10_best_57 : decode MX10_best.2.1 57 = .ok (.getfield 223, 3) := by decide +kernel
theorem eX10_best_60 : decode MX10_best.2.1 60 = .ok (.ireturn, 1) := by decide +kernel
set_option maxRecDepth 20000 in
theorem bX10_best_0 {d : Nat} {Q : Option Value → St → Prop} (x1 : Int32) (x2 : Int32) (x3 : Int32) (x4 : Int32) (σ : St) 
    (k1 : (¬ ((2 : Int32) ≤ x1 ∧ (x1 ≤ 7 ∧ ((1 : Int32) ≤ x2 ∧ (x2 ≤ 6 ∧ ((1 : Int32) ≤ x3 ∧ x3 ≤ 6)))))) → Q (some (.int (-1))) σ)
    (k2 : ((2 : Int32) ≤ x1 ∧ (x1 ≤ 7 ∧ ((1 : Int32) ≤ x2 ∧ (x2 ≤ 6 ∧ ((1 : Int32) ≤ x3 ∧ x3 ≤ 6))))) → x4 < 0 → Q (some (.int (-1))) σ)
    (k3 : ((2 : Int32) ≤ x1 ∧ (x1 ≤ 7 ∧ ((1 : Int32) ≤ x2 ∧ (x2 ≤ 6 ∧ ((1 : Int32) ≤ x3 ∧ x3 ≤ 6))))) → (0 : Int32) ≤ x4 → x4 ≤ 1 → Ct yX0_search MX0_search (d + 41) [.ref 21, .int x1, .int x2, .int x3] σ (fun v σ1 => Run MX10_best (d + 42) 32 [some (.ref 0), none, none, none, some (.int x4)] (v.toList ++ []) σ1 Q))
    (k4 : ((2 : Int32) ≤ x1 ∧ (x1 ≤ 7 ∧ ((1 : Int32) ≤ x2 ∧ (x2 ≤ 6 ∧ ((1 : Int32) ≤ x3 ∧ x3 ≤ 6))))) → (0 : Int32) ≤ x4 → (1 : Int32) < x4 → Q (some (.int (-1))) σ)
    : Run MX10_best (d + 42) 0 [some (.ref 0), some (.int x1), some (.int x2), some (.int x3), some (.int x4)] [] σ Q := by
  refine (go_iload_n 1 eX10_best_0 rfl rfl).run ?_
  refine (go_iload_n 2 eX10_best_1 rfl rfl).run ?_
  refine (go_iload_n 3 eX10_best_2 rfl rfl).run ?_
  refine Run.callS1 (d := (d + 41)) (As := [.int x1, .int x2, .int x3]) (r := .int (bI ((2 : Int32) ≤ x1 ∧ (x1 ≤ 7 ∧ ((1 : Int32) ≤ x2 ∧ (x2 ≤ 6 ∧ ((1 : Int32) ≤ x3 ∧ x3 ≤ 6))))))) mX10_bestIsTold lkX10_213 rfl rfl rfl (Nat.le_of_ble_eq_true rfl) eX10_best_3 (qX10_bestIsTold (d + 41) x1 x2 x3 σ  ) ?_
  refine (br_ifeq_b 20 eX10_best_6 rfl).run (fun h1 => ?_) (fun h1 => ?_)
  · refine (go_iconst (v := -1) eX10_best_20 rfl).run ?_
    exact Run.ret (v := some (.int (-1))) (k1 h1) ⟨Or.inl rfl, eX10_best_21⟩ rfl
  · refine (go_iload 4 eX10_best_9 rfl).run ?_
    refine (bz_lt 20 eX10_best_11 rfl).run (fun h2 => ?_) (fun h2 => ?_)
    · refine (go_iconst (v := -1) eX10_best_20 rfl).run ?_
      exact Run.ret (v := some (.int (-1))) (k2 h1 h2) ⟨Or.inl rfl, eX10_best_21⟩ rfl
    · refine (go_iload 4 eX10_best_14 rfl).run ?_
      refine (go_iconst (v := 1) eX10_best_16 rfl).run ?_
      refine (bi_le 22 eX10_best_17 rfl).run (fun h3 => ?_) (fun h3 => ?_)
      · refine (go_aload_n 0 eX10_best_22 rfl rfl).run ?_
        refine (go_getr flX10_46 rf_9_6 kd_0 gr_0_6 eX10_best_23).run ?_
        refine (go_iload_n 1 eX10_best_26 rfl rfl).run ?_
        refine (go_iload_n 2 eX10_best_27 rfl rfl).run ?_
        refine (go_iload_n 3 eX10_best_28 rfl rfl).run ?_
        refine (go_sub (L' := [some (.ref 0), none, none, none, some (.int x4)]) (lsub_keep (lsub_drop (lsub_drop (lsub_drop (lsub_keep lsub_nil)))))).run ?_
        exact Run.callV (d := (d + 41)) (As := [.int x1, .int x2, .int x3]) mX0_search lkX10_217 kd_21 (by decide) rfl rfl rfl rfl rfl (Nat.le_of_ble_eq_true rfl) eX10_best_29 (k3 h1 h2 h3)
      · refine (go_iconst (v := -1) eX10_best_20 rfl).run ?_
        exact Run.ret (v := some (.int (-1))) (k4 h1 h2 h3) ⟨Or.inl rfl, eX10_best_21⟩ rfl

set_option maxRecDepth 20000 in
theorem bX10_best_32 {d : Nat} {Q : Option Value → St → Prop} (x4 : Int32) (s0 : Int32) (σ : St) 
    (k1 : ¬ s0 = 0 → Q (some (.int (if x4 = 0 then (σ.1 21 0) else (σ.1 21 1)))) σ)
    (k2 : s0 = 0 → Q (some (.int (-4))) σ)
    : Run MX10_best (d + 42) 32 [some (.ref 0), none, none, none, some (.int x4)] [.int s0] σ Q := by
  refine (bz_ne 38 eX10_best_32 rfl).run (fun h1 => ?_) (fun h1 => ?_)
  · refine (go_iload 4 eX10_best_38 rfl).run ?_
    have hJh2 : Run MX10_best (d + 42) 60 [none, none, none, none, none] [.int (if x4 = 0 then (σ.1 21 0) else (σ.1 21 1))] σ Q := by
      exact Run.ret (v := some (.int (if x4 = 0 then (σ.1 21 0) else (σ.1 21 1)))) (k1 h1) ⟨Or.inl rfl, eX10_best_60⟩ rfl
    refine (bz_ne 53 eX10_best_40 rfl).run (fun h2 => ?_) (fun h2 => ?_)
    · refine (go_aload_n 0 eX10_best_53 rfl rfl).run ?_
      refine (go_getr flX10_46 rf_9_6 kd_0 gr_0_6 eX10_best_54).run ?_
      refine (go_geti flX10_223 rf_0_1 kd_21 eX10_best_57).run ?_
      refine (go_sub (L' := [none, none, none, none, none]) (lsub_drop (lsub_keep (lsub_keep (lsub_keep (lsub_drop lsub_nil)))))).run ?_
      first | exact hJh2 | (simp only [if_neg (h2)] at hJh2; exact hJh2) | (simp only [eq_false h2, not_false_eq_true, true_and, and_true, false_and, and_false, true_or, or_true, false_or, or_false, not_true_eq_false, not_false_eq_true] at hJh2; exact hJh2) | exact Run.eq (by simp [eq_false h2, not_false_eq_true, bI]) (by simp [eq_false h2, not_false_eq_true, bI]) rfl hJh2
    · refine (go_aload_n 0 eX10_best_43 rfl rfl).run ?_
      refine (go_getr flX10_46 rf_9_6 kd_0 gr_0_6 eX10_best_44).run ?_
      refine (go_geti flX10_220 rf_0_0 kd_21 eX10_best_47).run ?_
      refine (go_goto 60 eX10_best_50 rfl).run ?_
      refine (go_sub (L' := [none, none, none, none, none]) (lsub_drop (lsub_keep (lsub_keep (lsub_keep (lsub_drop lsub_nil)))))).run ?_
      first | exact hJh2 | (simp only [if_pos h2] at hJh2; exact hJh2) | (simp only [eq_true h2, not_true_eq_false, true_and, and_true, false_and, and_false, true_or, or_true, false_or, or_false, not_true_eq_false, not_false_eq_true] at hJh2; exact hJh2) | exact Run.eq (by simp [eq_true h2, not_true_eq_false, bI]) (by simp [eq_true h2, not_true_eq_false, bI]) rfl hJh2
  · refine (go_bipush (v := -4) eX10_best_35 rfl).run ?_
    exact Run.ret (v := some (.int (-4))) (k2 h1) ⟨Or.inl rfl, eX10_best_37⟩ rfl

/-! CarryNets.made -/
theorem eX10_made_0 : decode MX10_made.2.1 0 = .ok (.iload_n 1, 1) := by decide +kernel
theorem eX10_made_1 : decode MX10_made.2.1 1 = .ok (.iload_n 2, 1) := by decide +kernel
theorem eX10_made_2 : decode MX10_made.2.1 2 = .ok (.iload_n 3, 1) := by decide +kernel
theorem eX10_made_3 : decode MX10_made.2.1 3 = .ok (.invokestatic 213, 3) := by decide +kernel
theorem eX10_made_6 : decode MX10_made.2.1 6 = .ok (.ifCond .ne 5, 3) := by decide +kernel
theorem eX10_made_9 : decode MX10_made.2.1 9 = .ok (.iconst (-1), 1) := by decide +kernel
theorem eX10_made_10 : decode MX10_made.2.1 10 = .ok (.ireturn, 1) := by decide +kernel
theorem eX10_made_11 : decode MX10_made.2.1 11 = .ok (.aload_n 0, 1) := by decide +kernel
theorem eX10_made_12 : decode MX10_made.2.1 12 = .ok (.getfield 46, 3) := by decide +kernel
theorem eX10_made_15 : decode MX10_made.2.1 15 = .ok (.iload_n 1, 1) := by decide +kernel
theorem eX10_made_16 : decode MX10_made.2.1 16 = .ok (.iload_n 2, 1) := by decide +kernel
theorem eX10_made_17 : decode MX10_made.2.1 17 = .ok (.iload_n 3, 1) := by decide +kernel
theorem eX10_made_18 : decode MX10_made.2.1 18 = .ok (.invokevirtual 217, 3) := by decide +kernel
theorem eX10_made_21 : decode MX10_made.2.1 21 = .ok (.ifCond .ne 6, 3) := by decide +kernel
theorem eX10_made_24 : decode MX10_made.2.1 24 = .ok (.bipush (-4), 2) := by decide +kernel
theorem eX10_made_26 : decode MX10_made.2.1 26 = .ok (.ireturn, 1) := by decide +kernel
theorem eX10_made_27 : decode MX10_made.2.1 27 = .ok (.aload_n 0, 1) := by decide +kernel
theorem eX10_made_28 : decode MX10_made.2.1 28 = .ok (.invokevirtual 87, 3) := by decide +kernel
theorem eX10_made_31 : decode MX10_made.2.1 31 = .ok (.astore 4, 2) := by decide +kernel
theorem eX10_made_33 : decode MX10_made.2.1 33 = .ok (.aload 4, 2) := by decide +kernel
theorem eX10_made_35 : decode MX10_made.2.1 35 = .ok (.ifnonnull 6, 3) := by decide +kernel
theorem eX10_made_38 : decode MX10_made.2.1 38 = .ok (.bipush (-3), 2) := by decide +kernel
theorem eX10_made_40 : decode MX10_made.2.1 40 = .ok (.ireturn, 1) := by decide +kernel
theorem eX10_made_41 : decode MX10_made.2.1 41 = .ok (.aload_n 0, 1) := by decide +kernel
theorem eX10_made_42 : decode MX10_made.2.1 42 = .ok (.getfield 46, 3) := by decide +kernel
theorem eX10_made_45 : decode MX10_made.2.1 45 = .ok (.aload 4, 2) := by decide +kernel
theorem eX10_made_47 : decode MX10_made.2.1 47 = .ok (.invokevirtual 226, 3) := by decide +kernel
theorem eX10_made_50 : decode MX10_made.2.1 50 = .ok (.aload_n 0, 1) := by decide +kernel
theorem eX10_made_51 : decode MX10_made.2.1 51 = .ok (.invokevirtual 95, 3) := by decide +kernel
theorem eX10_made_54 : decode MX10_made.2.1 54 = .ok (.ireturn, 1) := by decide +kernel
set_option maxRecDepth 20000 in
theorem bX10_made_0 {d : Nat} {Q : Option Value → St → Prop} (x1 : Int32) (x2 : Int32) (x3 : Int32) (σ : St) 
    (k1 : ((2 : Int32) ≤ x1 ∧ (x1 ≤ 7 ∧ ((1 : Int32) ≤ x2 ∧ (x2 ≤ 6 ∧ ((1 : Int32) ≤ x3 ∧ x3 ≤ 6))))) → Ct yX0_search MX0_search (d + 41) [.ref 21, .int x1, .int x2, .int x3] σ (fun v σ1 => Run MX10_made (d + 42) 21 [some (.ref 0), none, none, none, none] (v.toList ++ []) σ1 Q))
    (k2 : (¬ ((2 : Int32) ≤ x1 ∧ (x1 ≤ 7 ∧ ((1 : Int32) ≤ x2 ∧ (x2 ≤ 6 ∧ ((1 : Int32) ≤ x3 ∧ x3 ≤ 6)))))) → Q (some (.int (-1))) σ)
    : Run MX10_made (d + 42) 0 [some (.ref 0), some (.int x1), some (.int x2), some (.int x3), none] [] σ Q := by
  refine (go_iload_n 1 eX10_made_0 rfl rfl).run ?_
  refine (go_iload_n 2 eX10_made_1 rfl rfl).run ?_
  refine (go_iload_n 3 eX10_made_2 rfl rfl).run ?_
  refine Run.callS1 (d := (d + 41)) (As := [.int x1, .int x2, .int x3]) (r := .int (bI ((2 : Int32) ≤ x1 ∧ (x1 ≤ 7 ∧ ((1 : Int32) ≤ x2 ∧ (x2 ≤ 6 ∧ ((1 : Int32) ≤ x3 ∧ x3 ≤ 6))))))) mX10_bestIsTold lkX10_213 rfl rfl rfl (Nat.le_of_ble_eq_true rfl) eX10_made_3 (qX10_bestIsTold (d + 41) x1 x2 x3 σ  ) ?_
  refine (br_ifne_b 11 eX10_made_6 rfl).run (fun h1 => ?_) (fun h1 => ?_)
  · refine (go_aload_n 0 eX10_made_11 rfl rfl).run ?_
    refine (go_getr flX10_46 rf_9_6 kd_0 gr_0_6 eX10_made_12).run ?_
    refine (go_iload_n 1 eX10_made_15 rfl rfl).run ?_
    refine (go_iload_n 2 eX10_made_16 rfl rfl).run ?_
    refine (go_iload_n 3 eX10_made_17 rfl rfl).run ?_
    refine (go_sub (L' := [some (.ref 0), none, none, none, none]) (lsub_keep (lsub_drop (lsub_drop (lsub_drop (lsub_keep lsub_nil)))))).run ?_
    exact Run.callV (d := (d + 41)) (As := [.int x1, .int x2, .int x3]) mX0_search lkX10_217 kd_21 (by decide) rfl rfl rfl rfl rfl (Nat.le_of_ble_eq_true rfl) eX10_made_18 (k1 h1)
  · refine (go_iconst (v := -1) eX10_made_9 rfl).run ?_
    exact Run.ret (v := some (.int (-1))) (k2 h1) ⟨Or.inl rfl, eX10_made_10⟩ rfl

set_option maxRecDepth 20000 in
theorem bX10_made_21 {d : Nat} {Q : Option Value → St → Prop} (s0 : Int32) (σ : St) 
    (k1 : ¬ s0 = 0 → (0 ≤ (σ.1 0 1) ∧ (σ.1 0 1) < 8) → Ct yX0_fillLeast MX0_fillLeast (d + 41) [.ref 21, .ref (gr 1 (σ.1 0 1).toNatClampNeg)] σ (fun v σ1 => Run MX10_made (d + 42) 50 [some (.ref 0), none, none, none, none] (v.toList ++ []) σ1 Q))
    (k2 : ¬ s0 = 0 → (¬ (0 ≤ (σ.1 0 1) ∧ (σ.1 0 1) < 8)) → Q (some (.int (-3))) σ)
    (k3 : s0 = 0 → Q (some (.int (-4))) σ)
    : Run MX10_made (d + 42) 21 [some (.ref 0), none, none, none, none] [.int s0] σ Q := by
  refine (bz_ne 27 eX10_made_21 rfl).run (fun h1 => ?_) (fun h1 => ?_)
  · refine (go_aload_n 0 eX10_made_27 rfl rfl).run ?_
    refine Run.callV (d := (d + 41)) (As := []) mX10_freeNet lkX10_87 kd_0 (by decide) rfl rfl rfl rfl rfl (Nat.le_of_ble_eq_true rfl) eX10_made_28 (Ct.mono (qX10_freeNet (d + 41) σ) ?_)
    rintro v1 s1 ⟨hv1, hs1⟩
    rw [hv1, hs1]
    by_cases h2 : 0 ≤ (σ.1 0 1) ∧ (σ.1 0 1) < 8
    · rw [if_pos h2]
      refine (go_astore 4 (L' := [some (.ref 0), none, none, none, some (.ref (gr 1 (σ.1 0 1).toNatClampNeg))]) eX10_made_31 (Nat.le_of_ble_eq_true rfl) rfl).run ?_
      refine (go_aload 4 eX10_made_33 rfl).run ?_
      refine (go_ifnonnull_r 41 eX10_made_35 rfl).run ?_
      refine (go_aload_n 0 eX10_made_41 rfl rfl).run ?_
      refine (go_getr flX10_46 rf_9_6 kd_0 gr_0_6 eX10_made_42).run ?_
      refine (go_aload 4 eX10_made_45 rfl).run ?_
      refine (go_sub (L' := [some (.ref 0), none, none, none, none]) (lsub_keep (lsub_keep (lsub_keep (lsub_keep (lsub_drop lsub_nil)))))).run ?_
      exact Run.callV (d := (d + 41)) (As := [.ref (gr 1 (σ.1 0 1).toNatClampNeg)]) mX0_fillLeast lkX10_226 kd_21 (by decide) rfl rfl rfl rfl rfl (Nat.le_of_ble_eq_true rfl) eX10_made_47 (k1 h1 h2)
    · rw [if_neg h2]
      refine (go_astoreN 4 (L' := [some (.ref 0), none, none, none, some (.null)]) eX10_made_31 (Nat.le_of_ble_eq_true rfl) rfl).run ?_
      refine (go_aloadN 4 eX10_made_33 rfl).run ?_
      refine (go_ifnonnull_n eX10_made_35).run ?_
      refine (go_bipush (v := -3) eX10_made_38 rfl).run ?_
      exact Run.ret (v := some (.int (-3))) (k2 h1 h2) ⟨Or.inl rfl, eX10_made_40⟩ rfl
  · refine (go_bipush (v := -4) eX10_made_24 rfl).run ?_
    exact Run.ret (v := some (.int (-4))) (k3 h1) ⟨Or.inl rfl, eX10_made_26⟩ rfl

set_option maxRecDepth 20000 in
theorem bX10_made_50 {d : Nat} {Q : Option Value → St → Prop} (σ : St) 
    (k1 : Q (some (.int (((((σ.1 0 1) + 1)) - 1)))) (sX10_keepNet  σ))
    : Run MX10_made (d + 42) 50 [some (.ref 0), none, none, none, none] [] σ Q := by
  refine (go_aload_n 0 eX10_made_50 rfl rfl).run ?_
  refine Run.callV1 (d := (d + 41)) (As := []) (r := .int (((((σ.1 0 1) + 1)) - 1))) mX10_keepNet lkX10_95 kd_0 (by decide) rfl rfl rfl rfl rfl (Nat.le_of_ble_eq_true rfl) eX10_made_51 (qX10_keepNet (d + 41)  σ  ) ?_
  exact Run.ret (v := some (.int (((((σ.1 0 1) + 1)) - 1)))) k1 ⟨Or.inl rfl, eX10_made_54⟩ rfl

/-! CarryNets.kindIsTold -/
theorem eX10_kindIsTold_0 : decode MX10_kindIsTold.2.1 0 = .ok (.iload_n 0, 1) := by decide +kernel
theorem eX10_kindIsTold_1 : decode MX10_kindIsTold.2.1 1 = .ok (.iconst 1, 1) := by decide +kernel
theorem eX10_kindIsTold_2 : decode MX10_kindIsTold.2.1 2 = .ok (.if_icmp .eq 18, 3) := by decide +kernel
theorem eX10_kindIsTold_5 : decode MX10_kindIsTold.2.1 5 = .ok (.iload_n 0, 1) := by decide +kernel
theorem eX10_kindIsTold_6 : decode MX10_kindIsTold.2.1 6 = .ok (.ifCond .ne 18, 3) := by decide +kernel
theorem eX10_kindIsTold_9 : decode MX10_kindIsTold.2.1 9 = .ok (.iload_n 1, 1) := by decide +kernel
theorem eX10_kindIsTold_10 : decode MX10_kindIsTold.2.1 10 = .ok (.iconst 1, 1) := by decide +kernel
theorem eX10_kindIsTold_11 : decode MX10_kindIsTold.2.1 11 = .ok (.if_icmp .lt 13, 3) := by decide +kernel
theorem eX10_kindIsTold_14 : decode MX10_kindIsTold.2.1 14 = .ok (.iload_n 1, 1) := by decide +kernel
theorem eX10_kindIsTold_15 : decode MX10_kindIsTold.2.1 15 = .ok (.bipush 9, 2) := by decide +kernel
theorem eX10_kindIsTold_17 : decode MX10_kindIsTold.2.1 17 = .ok (.if_icmp .gt 7, 3) := by decide +kernel
theorem eX10_kindIsTold_20 : decode MX10_kindIsTold.2.1 20 = .ok (.iconst 1, 1) := by decide +kernel
theorem eX10_kindIsTold_21 : decode MX10_kindIsTold.2.1 21 = .ok (.goto 4, 3) := by decide +kernel
theorem eX10_kindIsTold_24 : decode MX10_kindIsTold.2.1 24 = .ok (.iconst 0, 1) := by decide +kernel
theorem eX10_kindIsTold_25 : decode MX10_kindIsTold.2.1 25 = .ok (.ireturn, 1) := by decide +kernel
set_option maxRecDepth 20000 in
theorem bX10_kindIsTold_0 {d : Nat} {Q : Option Value → St → Prop} (x0 : Int32) (x1 : Int32) (σ : St) 
    (k1 : Q (some (.int (bI (x0 = 1 ∨ (x0 = 0 ∧ ((1 : Int32) ≤ x1 ∧ x1 ≤ 9)))))) σ)
    : Run MX10_kindIsTold d 0 [some (.int x0), some (.int x1)] [] σ Q := by
  refine (go_iload_n 0 eX10_kindIsTold_0 rfl rfl).run ?_
  refine (go_iconst (v := 1) eX10_kindIsTold_1 rfl).run ?_
  have hJh1 : Run MX10_kindIsTold d 25 [none, none] [.int (bI (x0 = 1 ∨ (x0 = 0 ∧ ((1 : Int32) ≤ x1 ∧ x1 ≤ 9))))] σ Q := by
    exact Run.ret (v := some (.int (bI (x0 = 1 ∨ (x0 = 0 ∧ ((1 : Int32) ≤ x1 ∧ x1 ≤ 9)))))) k1 ⟨Or.inr ⟨rfl, bI_01⟩, eX10_kindIsTold_25⟩ rfl
  refine (bi_eq 20 eX10_kindIsTold_2 rfl).run (fun h1 => ?_) (fun h1 => ?_)
  · refine (go_iconst (v := 1) eX10_kindIsTold_20 rfl).run ?_
    refine (go_goto 25 eX10_kindIsTold_21 rfl).run ?_
    refine (go_sub (L' := [none, none]) (lsub_drop (lsub_drop lsub_nil))).run ?_
    first | exact hJh1 | (simp only [if_pos h1] at hJh1; exact hJh1) | (simp only [eq_true h1, not_true_eq_false, true_and, and_true, false_and, and_false, true_or, or_true, false_or, or_false, not_true_eq_false, not_false_eq_true] at hJh1; exact hJh1) | exact Run.eq (by simp [eq_true h1, not_true_eq_false, bI]) (by simp [eq_true h1, not_true_eq_false, bI]) rfl hJh1
  · refine (go_iload_n 0 eX10_kindIsTold_5 rfl rfl).run ?_
    have hJh2 : Run MX10_kindIsTold d 25 [none, none] [.int (bI (x0 = 0 ∧ ((1 : Int32) ≤ x1 ∧ x1 ≤ 9)))] σ Q := by
      first | exact hJh1 | (simp only [if_neg (h1)] at hJh1; exact hJh1) | (simp only [eq_false h1, not_false_eq_true, true_and, and_true, false_and, and_false, true_or, or_true, false_or, or_false, not_true_eq_false, not_false_eq_true] at hJh1; exact hJh1) | exact Run.eq (by simp [eq_false h1, not_false_eq_true, bI]) (by simp [eq_false h1, not_false_eq_true, bI]) rfl hJh1
    refine (bz_ne 24 eX10_kindIsTold_6 rfl).run (fun h2 => ?_) (fun h2 => ?_)
    · refine (go_iconst (v := 0) eX10_kindIsTold_24 rfl).run ?_
      refine (go_sub (L' := [none, none]) (lsub_drop (lsub_drop lsub_nil))).run ?_
      first | exact hJh2 | (simp only [if_neg (h2)] at hJh2; exact hJh2) | (simp only [eq_false h2, not_false_eq_true, true_and, and_true, false_and, and_false, true_or, or_true, false_or, or_false, not_true_eq_false, not_false_eq_true] at hJh2; exact hJh2) | exact Run.eq (by simp [eq_false h2, not_false_eq_true, bI]) (by simp [eq_false h2, not_false_eq_true, bI]) rfl hJh2
    · refine (go_iload_n 1 eX10_kindIsTold_9 rfl rfl).run ?_
      refine (go_iconst (v := 1) eX10_kindIsTold_10 rfl).run ?_
      have hJh3 : Run MX10_kindIsTold d 25 [none, none] [.int (bI ((1 : Int32) ≤ x1 ∧ x1 ≤ 9))] σ Q := by
        first | exact hJh2 | (simp only [if_pos h2] at hJh2; exact hJh2) | (simp only [eq_true h2, not_true_eq_false, true_and, and_true, false_and, and_false, true_or, or_true, false_or, or_false, not_true_eq_false, not_false_eq_true] at hJh2; exact hJh2) | exact Run.eq (by simp [eq_true h2, not_true_eq_false, bI]) (by simp [eq_true h2, not_true_eq_false, bI]) rfl hJh2
      refine (bi_lt 24 eX10_kindIsTold_11 rfl).run (fun h3 => ?_) (fun h3 => ?_)
      · refine (go_iconst (v := 0) eX10_kindIsTold_24 rfl).run ?_
        refine (go_sub (L' := [none, none]) (lsub_drop (lsub_drop lsub_nil))).run ?_
        first | exact hJh3 | (simp only [if_pos h3] at hJh3; exact hJh3) | (simp only [eq_true h3, eq_false (i32_nle.mpr h3), true_and, and_true, false_and, and_false, true_or, or_true, false_or, or_false, not_true_eq_false, not_false_eq_true] at hJh3; exact hJh3) | exact Run.eq (by simp [eq_true h3, eq_false (i32_nle.mpr h3), bI]) (by simp [eq_true h3, eq_false (i32_nle.mpr h3), bI]) rfl hJh3
      · refine (go_iload_n 1 eX10_kindIsTold_14 rfl rfl).run ?_
        refine (go_bipush (v := 9) eX10_kindIsTold_15 rfl).run ?_
        have hJh4 : Run MX10_kindIsTold d 25 [none, none] [.int (bI (x1 ≤ 9))] σ Q := by
          first | exact hJh3 | (simp only [if_neg (i32_nlt.mpr h3)] at hJh3; exact hJh3) | (simp only [eq_true h3, eq_false (i32_nlt.mpr h3), true_and, and_true, false_and, and_false, true_or, or_true, false_or, or_false, not_true_eq_false, not_false_eq_true] at hJh3; exact hJh3) | exact Run.eq (by simp [eq_true h3, eq_false (i32_nlt.mpr h3), bI]) (by simp [eq_true h3, eq_false (i32_nlt.mpr h3), bI]) rfl hJh3
        refine (bi_gt 24 eX10_kindIsTold_17 rfl).run (fun h4 => ?_) (fun h4 => ?_)
        · refine (go_iconst (v := 0) eX10_kindIsTold_24 rfl).run ?_
          refine (go_sub (L' := [none, none]) (lsub_drop (lsub_drop lsub_nil))).run ?_
          first | exact hJh4 | (simp only [if_pos h4] at hJh4; exact hJh4) | (simp only [eq_true h4, eq_false (i32_nle.mpr h4), true_and, and_true, false_and, and_false, true_or, or_true, false_or, or_false, not_true_eq_false, not_false_eq_true] at hJh4; exact hJh4) | exact Run.eq (by simp [eq_true h4, eq_false (i32_nle.mpr h4), bI]) (by simp [eq_true h4, eq_false (i32_nle.mpr h4), bI]) rfl hJh4
        · refine (go_iconst (v := 1) eX10_kindIsTold_20 rfl).run ?_
          refine (go_goto 25 eX10_kindIsTold_21 rfl).run ?_
          refine (go_sub (L' := [none, none]) (lsub_drop (lsub_drop lsub_nil))).run ?_
          first | exact hJh4 | (simp only [if_neg (i32_nlt.mpr h4)] at hJh4; exact hJh4) | (simp only [eq_true h4, eq_false (i32_nlt.mpr h4), true_and, and_true, false_and, and_false, true_or, or_true, false_or, or_false, not_true_eq_false, not_false_eq_true] at hJh4; exact hJh4) | exact Run.eq (by simp [eq_true h4, eq_false (i32_nlt.mpr h4), bI]) (by simp [eq_true h4, eq_false (i32_nlt.mpr h4), bI]) rfl hJh4

theorem qX10_kindIsTold (d : Nat) (x0 : Int32) (x1 : Int32) (σ : St) : Ct yX10_kindIsTold MX10_kindIsTold d [.int x0, .int x1] σ (fun v σ1 => v = some (.int (bI (x0 = 1 ∨ (x0 = 0 ∧ ((1 : Int32) ≤ x1 ∧ x1 ≤ 9))))) ∧ σ1 = σ) :=
  Ct.of mX10_kindIsTold.1 (Nat.le_of_ble_eq_true rfl) (bX10_kindIsTold_0 x0 x1 σ   (⟨by first | rfl | (simp only [bI, true_and, and_true, false_and, and_false, true_or, or_true, false_or, or_false, not_true_eq_false, not_false_eq_true, if_true, if_false]; done) | (simp [bI]; done), by first | rfl | (simp only [bI, true_and, and_true, false_and, and_false, true_or, or_true, false_or, or_false, not_true_eq_false, not_false_eq_true, if_true, if_false]; done) | (simp [bI]; done)⟩))

/-! CarryNets.blocks -/
theorem eX10_blocks_0 : decode MX10_blocks.2.1 0 = .ok (.iload_n 3, 1) := by decide +kernel
theorem eX10_blocks_1 : decode MX10_blocks.2.1 1 = .ok (.iload 4, 2) := by decide +kernel
theorem eX10_blocks_3 : decode MX10_blocks.2.1 3 = .ok (.invokestatic 229, 3) := by decide +kernel
theorem eX10_blocks_6 : decode MX10_blocks.2.1 6 = .ok (.ifCond .eq 10, 3) := by decide +kernel
theorem eX10_blocks_9 : decode MX10_blocks.2.1 9 = .ok (.lload_n 1, 1) := by decide +kernel
theorem eX10_blocks_10 : decode MX10_blocks.2.1 10 = .ok (.invokestatic 233, 3) := by decide +kernel
theorem eX10_blocks_13 : decode MX10_blocks.2.1 13 = .ok (.ifCond .ne 5, 3) := by decide +kernel
theorem eX10_blocks_16 : decode MX10_blocks.2.1 16 = .ok (.iconst (-1), 1) := by decide +kernel
theorem eX10_blocks_17 : decode MX10_blocks.2.1 17 = .ok (.ireturn, 1) := by decide +kernel
theorem eX10_blocks_18 : decode MX10_blocks.2.1 18 = .ok (.lload_n 1, 1) := by decide +kernel
theorem eX10_blocks_19 : decode MX10_blocks.2.1 19 = .ok (.iload_n 3, 1) := by decide +kernel
theorem eX10_blocks_20 : decode MX10_blocks.2.1 20 = .ok (.iload 4, 2) := by decide +kernel
theorem eX10_blocks_22 : decode MX10_blocks.2.1 22 = .ok (.invokestatic 236, 3) := by decide +kernel
theorem eX10_blocks_25 : decode MX10_blocks.2.1 25 = .ok (.ireturn, 1) := by decide +kernel
set_option maxRecDepth 20000 in
theorem bX10_blocks_0 {d : Nat} {Q : Option Value → St → Prop} (x1 : Int64) (x3 : Int32) (x4 : Int32) (σ : St) 
    (k1 : (¬ (x3 = 1 ∨ (x3 = 0 ∧ ((1 : Int32) ≤ x4 ∧ x4 ≤ 9)))) → Q (some (.int (-1))) σ)
    (k2 : (x3 = 1 ∨ (x3 = 0 ∧ ((1 : Int32) ≤ x4 ∧ x4 ≤ 9))) → Ct yX1_areTold MX1_areTold (d + 2) [.long x1] σ (fun v σ1 => Run MX10_blocks (d + 3) 13 [none, some (.long x1), none, some (.int x3), some (.int x4)] (v.toList ++ []) σ1 Q))
    : Run MX10_blocks (d + 3) 0 [some (.ref 0), some (.long x1), none, some (.int x3), some (.int x4)] [] σ Q := by
  refine (go_iload_n 3 eX10_blocks_0 rfl rfl).run ?_
  refine (go_iload 4 eX10_blocks_1 rfl).run ?_
  refine Run.callS1 (d := (d + 2)) (As := [.int x3, .int x4]) (r := .int (bI (x3 = 1 ∨ (x3 = 0 ∧ ((1 : Int32) ≤ x4 ∧ x4 ≤ 9))))) mX10_kindIsTold lkX10_229 rfl rfl rfl (Nat.le_of_ble_eq_true rfl) eX10_blocks_3 (qX10_kindIsTold (d + 2) x3 x4 σ  ) ?_
  refine (br_ifeq_b 16 eX10_blocks_6 rfl).run (fun h1 => ?_) (fun h1 => ?_)
  · refine (go_iconst (v := -1) eX10_blocks_16 rfl).run ?_
    exact Run.ret (v := some (.int (-1))) (k1 h1) ⟨Or.inl rfl, eX10_blocks_17⟩ rfl
  · refine (go_lload_n 1 eX10_blocks_9 rfl rfl).run ?_
    refine (go_sub (L' := [none, some (.long x1), none, some (.int x3), some (.int x4)]) (lsub_drop (lsub_keep (lsub_keep (lsub_keep (lsub_keep lsub_nil)))))).run ?_
    exact Run.callS (d := (d + 2)) (As := [.long x1]) mX1_areTold lkX10_233 rfl rfl rfl (Nat.le_of_ble_eq_true rfl) eX10_blocks_10 (k2 h1)

set_option maxRecDepth 20000 in
theorem bX10_blocks_13 {d : Nat} {Q : Option Value → St → Prop} (x1 : Int64) (x3 : Int32) (x4 : Int32) (s0 : Int32) (σ : St) 
    (k1 : ¬ s0 = 0 → Ct yX1_worst MX1_worst (d + 2) [.long x1, .int x3, .int x4] σ (fun v σ1 => Run MX10_blocks (d + 3) 25 [none, none, none, none, none] (v.toList ++ []) σ1 Q))
    (k2 : s0 = 0 → Q (some (.int (-1))) σ)
    : Run MX10_blocks (d + 3) 13 [none, some (.long x1), none, some (.int x3), some (.int x4)] [.int s0] σ Q := by
  refine (bz_ne 18 eX10_blocks_13 rfl).run (fun h1 => ?_) (fun h1 => ?_)
  · refine (go_lload_n 1 eX10_blocks_18 rfl rfl).run ?_
    refine (go_iload_n 3 eX10_blocks_19 rfl rfl).run ?_
    refine (go_iload 4 eX10_blocks_20 rfl).run ?_
    refine (go_sub (L' := [none, none, none, none, none]) (lsub_keep (lsub_drop (lsub_keep (lsub_drop (lsub_drop lsub_nil)))))).run ?_
    exact Run.callS (d := (d + 2)) (As := [.long x1, .int x3, .int x4]) mX1_worst lkX10_236 rfl rfl rfl (Nat.le_of_ble_eq_true rfl) eX10_blocks_22 (k1 h1)
  · refine (go_iconst (v := -1) eX10_blocks_16 rfl).run ?_
    exact Run.ret (v := some (.int (-1))) (k2 h1) ⟨Or.inl rfl, eX10_blocks_17⟩ rfl

set_option maxRecDepth 20000 in
theorem bX10_blocks_25 {d : Nat} {Q : Option Value → St → Prop} (s0 : Int32) (σ : St) 
    (k1 : Q (some (.int s0)) σ)
    : Run MX10_blocks (d + 3) 25 [none, none, none, none, none] [.int s0] σ Q := by
  exact Run.ret (v := some (.int s0)) k1 ⟨Or.inl rfl, eX10_blocks_25⟩ rfl

/-! CarryNets.sizes -/
theorem eX10_sizes_0 : decode MX10_sizes.2.1 0 = .ok (.iload_n 1, 1) := by decide +kernel
theorem eX10_sizes_1 : decode MX10_sizes.2.1 1 = .ok (.iconst 1, 1) := by decide +kernel
theorem eX10_sizes_2 : decode MX10_sizes.2.1 2 = .ok (.if_icmp .lt 28, 3) := by decide +kernel
theorem eX10_sizes_5 : decode MX10_sizes.2.1 5 = .ok (.iload_n 1, 1) := by decide +kernel
theorem eX10_sizes_6 : decode MX10_sizes.2.1 6 = .ok (.bipush 32, 2) := by decide +kernel
theorem eX10_sizes_8 : decode MX10_sizes.2.1 8 = .ok (.if_icmp .gt 22, 3) := by decide +kernel
theorem eX10_sizes_11 : decode MX10_sizes.2.1 11 = .ok (.iload_n 2, 1) := by decide +kernel
theorem eX10_sizes_12 : decode MX10_sizes.2.1 12 = .ok (.iload_n 3, 1) := by decide +kernel
theorem eX10_sizes_13 : decode MX10_sizes.2.1 13 = .ok (.invokestatic 229, 3) := by decide +kernel
theorem eX10_sizes_16 : decode MX10_sizes.2.1 16 = .ok (.ifCond .eq 14, 3) := by decide +kernel
theorem eX10_sizes_19 : decode MX10_sizes.2.1 19 = .ok (.iload 4, 2) := by decide +kernel
theorem eX10_sizes_21 : decode MX10_sizes.2.1 21 = .ok (.ifCond .lt 9, 3) := by decide +kernel
theorem eX10_sizes_24 : decode MX10_sizes.2.1 24 = .ok (.iload 4, 2) := by decide +kernel
theorem eX10_sizes_26 : decode MX10_sizes.2.1 26 = .ok (.iconst 1, 1) := by decide +kernel
theorem eX10_sizes_27 : decode MX10_sizes.2.1 27 = .ok (.if_icmp .le 7, 3) := by decide +kernel
theorem eX10_sizes_30 : decode MX10_sizes.2.1 30 = .ok (.ldc2_w 202, 3) := by decide +kernel
theorem eX10_sizes_33 : decode MX10_sizes.2.1 33 = .ok (.lreturn, 1) := by decide +kernel
theorem eX10_sizes_34 : decode MX10_sizes.2.1 34 = .ok (.iload_n 2, 1) := by decide +kernel
theorem eX10_sizes_35 : decode MX10_sizes.2.1 35 = .ok (.ifCond .ne 15, 3) := by decide +kernel
theorem eX10_sizes_38 : decode MX10_sizes.2.1 38 = .ok (.aload_n 0, 1) := by decide +kernel
theorem eX10_sizes_39 : decode MX10_sizes.2.1 39 = .ok (.getfield 53, 3) := by decide +kernel
theorem eX10_sizes_42 : decode MX10_sizes.2.1 42 = .ok (.iload_n 1, 1) := by decide +kernel
theorem eX10_sizes_43 : decode MX10_sizes.2.1 43 = .ok (.iload_n 3, 1) := by decide +kernel
theorem eX10_sizes_44 : decode MX10_sizes.2.1 44 = .ok (.invokevirtual 240, 3) := by decide +kernel
theorem eX10_sizes_47 : decode MX10_sizes.2.1 47 = .ok (.goto 7, 3) := by decide +kernel
theorem eX10_sizes_50 : decode MX10_sizes.2.1 50 = .ok (.iload_n 1, 1) := by decide +kernel
theorem eX10_sizes_51 : decode MX10_sizes.2.1 51 = .ok (.invokestatic 244, 3) := by decide +kernel
theorem eX10_sizes_54 : decode MX10_sizes.2.1 54 = .ok (.lstore 5, 2) := by decide +kernel
theorem eX10_sizes_56 : decode MX10_sizes.2.1 56 = .ok (.iload 4, 2) := by decide +kernel
theorem eX10_sizes_58 : decode MX10_sizes.2.1 58 = .ok (.ifCond .ne 14, 3) := by decide +kernel
theorem eX10_sizes_61 : decode MX10_sizes.2.1 61 = .ok (.lload 5, 2) := by decide +kernel
theorem eX10_sizes_63 : decode MX10_sizes.2.1 63 = .ok (.iload_n 2, 1) := by decide +kernel
theorem eX10_sizes_64 : decode MX10_sizes.2.1 64 = .ok (.iload_n 3, 1) := by decide +kernel
theorem eX10_sizes_65 : decode MX10_sizes.2.1 65 = .ok (.invokestatic 236, 3) := by decide +kernel
theorem eX10_sizes_68 : decode MX10_sizes.2.1 68 = .ok (.i2l, 1) := by decide +kernel
theorem eX10_sizes_69 : decode MX10_sizes.2.1 69 = .ok (.goto 5, 3) := by decide +kernel
theorem eX10_sizes_72 : decode MX10_sizes.2.1 72 = .ok (.lload 5, 2) := by decide +kernel
theorem eX10_sizes_74 : decode MX10_sizes.2.1 74 = .ok (.lreturn, 1) := by decide +kernel
set_option maxRecDepth 20000 in
theorem bX10_sizes_0 {d : Nat} {Q : Option Value → St → Prop} (x1 : Int32) (x2 : Int32) (x3 : Int32) (x4 : Int32) (σ : St) 
    (k1 : x1 < 1 → Q (some (.long (-1))) σ)
    (k2 : (1 : Int32) ≤ x1 → (32 : Int32) < x1 → Q (some (.long (-1))) σ)
    (k3 : (1 : Int32) ≤ x1 → x1 ≤ 32 → (¬ (x2 = 1 ∨ (x2 = 0 ∧ ((1 : Int32) ≤ x3 ∧ x3 ≤ 9)))) → Q (some (.long (-1))) σ)
    (k4 : (1 : Int32) ≤ x1 → x1 ≤ 32 → (x2 = 1 ∨ (x2 = 0 ∧ ((1 : Int32) ≤ x3 ∧ x3 ≤ 9))) → x4 < 0 → Q (some (.long (-1))) σ)
    (k5 : (1 : Int32) ≤ x1 → x1 ≤ 32 → (x2 = 1 ∨ (x2 = 0 ∧ ((1 : Int32) ≤ x3 ∧ x3 ≤ 9))) → (0 : Int32) ≤ x4 → x4 ≤ 1 → ¬ x2 = 0 → Ct yX1_choiceFigures MX1_choiceFigures (d + 4) [.int x1] σ (fun v σ1 => Run MX10_sizes (d + 5) 54 [none, none, some (.int x2), some (.int x3), some (.int x4), none, none] (v.toList ++ []) σ1 Q))
    (k6 : (1 : Int32) ≤ x1 → x1 ≤ 32 → (x2 = 1 ∨ (x2 = 0 ∧ ((1 : Int32) ≤ x3 ∧ x3 ≤ 9))) → (0 : Int32) ≤ x4 → x4 ≤ 1 → x2 = 0 → Ct yX1_skipFigures MX1_skipFigures (d + 4) [.ref 24, .int x1, .int x3] σ (fun v σ1 => Run MX10_sizes (d + 5) 47 [none, none, some (.int x2), some (.int x3), some (.int x4), none, none] (v.toList ++ []) σ1 Q))
    (k7 : (1 : Int32) ≤ x1 → x1 ≤ 32 → (x2 = 1 ∨ (x2 = 0 ∧ ((1 : Int32) ≤ x3 ∧ x3 ≤ 9))) → (0 : Int32) ≤ x4 → (1 : Int32) < x4 → Q (some (.long (-1))) σ)
    : Run MX10_sizes (d + 5) 0 [some (.ref 0), some (.int x1), some (.int x2), some (.int x3), some (.int x4), none, none] [] σ Q := by
  refine (go_iload_n 1 eX10_sizes_0 rfl rfl).run ?_
  refine (go_iconst (v := 1) eX10_sizes_1 rfl).run ?_
  refine (bi_lt 30 eX10_sizes_2 rfl).run (fun h1 => ?_) (fun h1 => ?_)
  · refine (go_ldc2 csX10_202 eX10_sizes_30).run ?_
    exact Run.ret (v := some (.long (-1))) (k1 h1) ⟨rfl, eX10_sizes_33⟩ rfl
  · refine (go_iload_n 1 eX10_sizes_5 rfl rfl).run ?_
    refine (go_bipush (v := 32) eX10_sizes_6 rfl).run ?_
    refine (bi_gt 30 eX10_sizes_8 rfl).run (fun h2 => ?_) (fun h2 => ?_)
    · refine (go_ldc2 csX10_202 eX10_sizes_30).run ?_
      exact Run.ret (v := some (.long (-1))) (k2 h1 h2) ⟨rfl, eX10_sizes_33⟩ rfl
    · refine (go_iload_n 2 eX10_sizes_11 rfl rfl).run ?_
      refine (go_iload_n 3 eX10_sizes_12 rfl rfl).run ?_
      refine Run.callS1 (d := (d + 4)) (As := [.int x2, .int x3]) (r := .int (bI (x2 = 1 ∨ (x2 = 0 ∧ ((1 : Int32) ≤ x3 ∧ x3 ≤ 9))))) mX10_kindIsTold lkX10_229 rfl rfl rfl (Nat.le_of_ble_eq_true rfl) eX10_sizes_13 (qX10_kindIsTold (d + 4) x2 x3 σ  ) ?_
      refine (br_ifeq_b 30 eX10_sizes_16 rfl).run (fun h3 => ?_) (fun h3 => ?_)
      · refine (go_ldc2 csX10_202 eX10_sizes_30).run ?_
        exact Run.ret (v := some (.long (-1))) (k3 h1 h2 h3) ⟨rfl, eX10_sizes_33⟩ rfl
      · refine (go_iload 4 eX10_sizes_19 rfl).run ?_
        refine (bz_lt 30 eX10_sizes_21 rfl).run (fun h4 => ?_) (fun h4 => ?_)
        · refine (go_ldc2 csX10_202 eX10_sizes_30).run ?_
          exact Run.ret (v := some (.long (-1))) (k4 h1 h2 h3 h4) ⟨rfl, eX10_sizes_33⟩ rfl
        · refine (go_iload 4 eX10_sizes_24 rfl).run ?_
          refine (go_iconst (v := 1) eX10_sizes_26 rfl).run ?_
          refine (bi_le 34 eX10_sizes_27 rfl).run (fun h5 => ?_) (fun h5 => ?_)
          · refine (go_iload_n 2 eX10_sizes_34 rfl rfl).run ?_
            refine (bz_ne 50 eX10_sizes_35 rfl).run (fun h6 => ?_) (fun h6 => ?_)
            · refine (go_iload_n 1 eX10_sizes_50 rfl rfl).run ?_
              refine (go_sub (L' := [none, none, some (.int x2), some (.int x3), some (.int x4), none, none]) (lsub_drop (lsub_drop (lsub_keep (lsub_keep (lsub_keep (lsub_keep (lsub_keep lsub_nil)))))))).run ?_
              exact Run.callS (d := (d + 4)) (As := [.int x1]) mX1_choiceFigures lkX10_244 rfl rfl rfl (Nat.le_of_ble_eq_true rfl) eX10_sizes_51 (k5 h1 h2 h3 h4 h5 h6)
            · refine (go_aload_n 0 eX10_sizes_38 rfl rfl).run ?_
              refine (go_getr flX10_53 rf_9_7 kd_0 gr_0_7 eX10_sizes_39).run ?_
              refine (go_iload_n 1 eX10_sizes_42 rfl rfl).run ?_
              refine (go_iload_n 3 eX10_sizes_43 rfl rfl).run ?_
              refine (go_sub (L' := [none, none, some (.int x2), some (.int x3), some (.int x4), none, none]) (lsub_drop (lsub_drop (lsub_keep (lsub_keep (lsub_keep (lsub_keep (lsub_keep lsub_nil)))))))).run ?_
              exact Run.callV (d := (d + 4)) (As := [.int x1, .int x3]) mX1_skipFigures lkX10_240 kd_24 (by decide) rfl rfl rfl rfl rfl (Nat.le_of_ble_eq_true rfl) eX10_sizes_44 (k6 h1 h2 h3 h4 h5 h6)
          · refine (go_ldc2 csX10_202 eX10_sizes_30).run ?_
            exact Run.ret (v := some (.long (-1))) (k7 h1 h2 h3 h4 h5) ⟨rfl, eX10_sizes_33⟩ rfl

set_option maxRecDepth 20000 in
theorem bX10_sizes_54 {d : Nat} {Q : Option Value → St → Prop} (x2 : Int32) (x3 : Int32) (x4 : Int32) (s0 : Int64) (σ : St) 
    (k1 : ¬ x4 = 0 → Q (some (.long s0)) σ)
    (k2 : x4 = 0 → Ct yX1_worst MX1_worst (d + 4) [.long s0, .int x2, .int x3] σ (fun v σ1 => Run MX10_sizes (d + 5) 68 [none, none, none, none, none, none, none] (v.toList ++ []) σ1 Q))
    : Run MX10_sizes (d + 5) 54 [none, none, some (.int x2), some (.int x3), some (.int x4), none, none] [.long s0] σ Q := by
  refine (go_lstore 5 (L' := [none, none, some (.int x2), some (.int x3), some (.int x4), some (.long s0), none]) eX10_sizes_54 (Nat.le_of_ble_eq_true rfl) rfl).run ?_
  refine (go_iload 4 eX10_sizes_56 rfl).run ?_
  refine (bz_ne 72 eX10_sizes_58 rfl).run (fun h1 => ?_) (fun h1 => ?_)
  · refine (go_lload 5 eX10_sizes_72 rfl).run ?_
    exact Run.ret (v := some (.long s0)) (k1 h1) ⟨rfl, eX10_sizes_74⟩ rfl
  · refine (go_lload 5 eX10_sizes_61 rfl).run ?_
    refine (go_iload_n 2 eX10_sizes_63 rfl rfl).run ?_
    refine (go_iload_n 3 eX10_sizes_64 rfl rfl).run ?_
    refine (go_sub (L' := [none, none, none, none, none, none, none]) (lsub_keep (lsub_keep (lsub_drop (lsub_drop (lsub_drop (lsub_drop (lsub_keep lsub_nil)))))))).run ?_
    exact Run.callS (d := (d + 4)) (As := [.long s0, .int x2, .int x3]) mX1_worst lkX10_236 rfl rfl rfl (Nat.le_of_ble_eq_true rfl) eX10_sizes_65 (k2 h1)

set_option maxRecDepth 20000 in
theorem bX10_sizes_47 {d : Nat} {Q : Option Value → St → Prop} (x2 : Int32) (x3 : Int32) (x4 : Int32) (s0 : Int64) (σ : St) 
    (k1 : ¬ x4 = 0 → Q (some (.long s0)) σ)
    (k2 : x4 = 0 → Ct yX1_worst MX1_worst (d + 4) [.long s0, .int x2, .int x3] σ (fun v σ1 => Run MX10_sizes (d + 5) 68 [none, none, none, none, none, none, none] (v.toList ++ []) σ1 Q))
    : Run MX10_sizes (d + 5) 47 [none, none, some (.int x2), some (.int x3), some (.int x4), none, none] [.long s0] σ Q := by
  refine (go_goto 54 eX10_sizes_47 rfl).run ?_
  refine (go_lstore 5 (L' := [none, none, some (.int x2), some (.int x3), some (.int x4), some (.long s0), none]) eX10_sizes_54 (Nat.le_of_ble_eq_true rfl) rfl).run ?_
  refine (go_iload 4 eX10_sizes_56 rfl).run ?_
  refine (bz_ne 72 eX10_sizes_58 rfl).run (fun h1 => ?_) (fun h1 => ?_)
  · refine (go_lload 5 eX10_sizes_72 rfl).run ?_
    exact Run.ret (v := some (.long s0)) (k1 h1) ⟨rfl, eX10_sizes_74⟩ rfl
  · refine (go_lload 5 eX10_sizes_61 rfl).run ?_
    refine (go_iload_n 2 eX10_sizes_63 rfl rfl).run ?_
    refine (go_iload_n 3 eX10_sizes_64 rfl rfl).run ?_
    refine (go_sub (L' := [none, none, none, none, none, none, none]) (lsub_keep (lsub_keep (lsub_drop (lsub_drop (lsub_drop (lsub_drop (lsub_keep lsub_nil)))))))).run ?_
    exact Run.callS (d := (d + 4)) (As := [.long s0, .int x2, .int x3]) mX1_worst lkX10_236 rfl rfl rfl (Nat.le_of_ble_eq_true rfl) eX10_sizes_65 (k2 h1)

set_option maxRecDepth 20000 in
theorem bX10_sizes_68 {d : Nat} {Q : Option Value → St → Prop} (s0 : Int32) (σ : St) 
    (k1 : Q (some (.long s0.toInt64)) σ)
    : Run MX10_sizes (d + 5) 68 [none, none, none, none, none, none, none] [.int s0] σ Q := by
  refine (go_i2l eX10_sizes_68).run ?_
  refine (go_goto 74 eX10_sizes_69 rfl).run ?_
  exact Run.ret (v := some (.long s0.toInt64)) k1 ⟨rfl, eX10_sizes_74⟩ rfl

/-! CarryNets.hasBits -/
theorem eX10_hasBits_0 : decode MX10_hasBits.2.1 0 = .ok (.iload_n 0, 1) := by decide +kernel
theorem eX10_hasBits_1 : decode MX10_hasBits.2.1 1 = .ok (.ifCond .lt 16, 3) := by decide +kernel
theorem eX10_hasBits_4 : decode MX10_hasBits.2.1 4 = .ok (.iload_n 0, 1) := by decide +kernel
theorem eX10_hasBits_5 : decode MX10_hasBits.2.1 5 = .ok (.i2l, 1) := by decide +kernel
theorem eX10_hasBits_6 : decode MX10_hasBits.2.1 6 = .ok (.lconst 1, 1) := by decide +kernel
theorem eX10_hasBits_7 : decode MX10_hasBits.2.1 7 = .ok (.iload_n 1, 1) := by decide +kernel
theorem eX10_hasBits_8 : decode MX10_hasBits.2.1 8 = .ok (.lshl, 1) := by decide +kernel
theorem eX10_hasBits_9 : decode MX10_hasBits.2.1 9 = .ok (.lcmp, 1) := by decide +kernel
theorem eX10_hasBits_10 : decode MX10_hasBits.2.1 10 = .ok (.ifCond .ge 7, 3) := by decide +kernel
theorem eX10_hasBits_13 : decode MX10_hasBits.2.1 13 = .ok (.iconst 1, 1) := by decide +kernel
theorem eX10_hasBits_14 : decode MX10_hasBits.2.1 14 = .ok (.goto 4, 3) := by decide +kernel
theorem eX10_hasBits_17 : decode MX10_hasBits.2.1 17 = .ok (.iconst 0, 1) := by decide +kernel
theorem eX10_hasBits_18 : decode MX10_hasBits.2.1 18 = .ok (.ireturn, 1) := by decide +kernel
set_option maxRecDepth 20000 in
theorem bX10_hasBits_0 {d : Nat} {Q : Option Value → St → Prop} (x0 : Int32) (x1 : Int32) (σ : St) 
    (k1 : Q (some (.int (bI ((0 : Int32) ≤ x0 ∧ x0.toInt64 < ((1 : Int64) <<< (x1.toInt64 &&& 63)))))) σ)
    : Run MX10_hasBits d 0 [some (.int x0), some (.int x1)] [] σ Q := by
  refine (go_iload_n 0 eX10_hasBits_0 rfl rfl).run ?_
  have hJh1 : Run MX10_hasBits d 18 [none, none] [.int (bI ((0 : Int32) ≤ x0 ∧ x0.toInt64 < ((1 : Int64) <<< (x1.toInt64 &&& 63))))] σ Q := by
    exact Run.ret (v := some (.int (bI ((0 : Int32) ≤ x0 ∧ x0.toInt64 < ((1 : Int64) <<< (x1.toInt64 &&& 63)))))) k1 ⟨Or.inr ⟨rfl, bI_01⟩, eX10_hasBits_18⟩ rfl
  refine (bz_lt 17 eX10_hasBits_1 rfl).run (fun h1 => ?_) (fun h1 => ?_)
  · refine (go_iconst (v := 0) eX10_hasBits_17 rfl).run ?_
    refine (go_sub (L' := [none, none]) (lsub_drop (lsub_drop lsub_nil))).run ?_
    first | exact hJh1 | (simp only [if_pos h1] at hJh1; exact hJh1) | (simp only [eq_true h1, eq_false (i32_nle.mpr h1), true_and, and_true, false_and, and_false, true_or, or_true, false_or, or_false, not_true_eq_false, not_false_eq_true] at hJh1; exact hJh1) | exact Run.eq (by simp [eq_true h1, eq_false (i32_nle.mpr h1), bI]) (by simp [eq_true h1, eq_false (i32_nle.mpr h1), bI]) rfl hJh1
  · refine (go_iload_n 0 eX10_hasBits_4 rfl rfl).run ?_
    refine (go_i2l eX10_hasBits_5).run ?_
    refine (go_lconst (v := 1) eX10_hasBits_6 rfl).run ?_
    refine (go_iload_n 1 eX10_hasBits_7 rfl rfl).run ?_
    refine (go_lshl eX10_hasBits_8).run ?_
    refine (go_lcmp eX10_hasBits_9).run ?_
    have hJh2 : Run MX10_hasBits d 18 [none, none] [.int (bI (x0.toInt64 < ((1 : Int64) <<< (x1.toInt64 &&& 63))))] σ Q := by
      first | exact hJh1 | (simp only [if_neg (i32_nlt.mpr h1)] at hJh1; exact hJh1) | (simp only [eq_true h1, eq_false (i32_nlt.mpr h1), true_and, and_true, false_and, and_false, true_or, or_true, false_or, or_false, not_true_eq_false, not_false_eq_true] at hJh1; exact hJh1) | exact Run.eq (by simp [eq_true h1, eq_false (i32_nlt.mpr h1), bI]) (by simp [eq_true h1, eq_false (i32_nlt.mpr h1), bI]) rfl hJh1
    refine (brl_ge 17 eX10_hasBits_10 rfl).run (fun h2 => ?_) (fun h2 => ?_)
    · refine (go_iconst (v := 0) eX10_hasBits_17 rfl).run ?_
      refine (go_sub (L' := [none, none]) (lsub_drop (lsub_drop lsub_nil))).run ?_
      first | exact hJh2 | (simp only [if_pos h2] at hJh2; exact hJh2) | (simp only [eq_true h2, eq_false (i64_nlt.mpr h2), true_and, and_true, false_and, and_false, true_or, or_true, false_or, or_false, not_true_eq_false, not_false_eq_true] at hJh2; exact hJh2) | exact Run.eq (by simp [eq_true h2, eq_false (i64_nlt.mpr h2), bI]) (by simp [eq_true h2, eq_false (i64_nlt.mpr h2), bI]) rfl hJh2
    · refine (go_iconst (v := 1) eX10_hasBits_13 rfl).run ?_
      refine (go_goto 18 eX10_hasBits_14 rfl).run ?_
      refine (go_sub (L' := [none, none]) (lsub_drop (lsub_drop lsub_nil))).run ?_
      first | exact hJh2 | (simp only [if_neg (i64_nle.mpr h2)] at hJh2; exact hJh2) | (simp only [eq_true h2, eq_false (i64_nle.mpr h2), true_and, and_true, false_and, and_false, true_or, or_true, false_or, or_false, not_true_eq_false, not_false_eq_true] at hJh2; exact hJh2) | exact Run.eq (by simp [eq_true h2, eq_false (i64_nle.mpr h2), bI]) (by simp [eq_true h2, eq_false (i64_nle.mpr h2), bI]) rfl hJh2

theorem qX10_hasBits (d : Nat) (x0 : Int32) (x1 : Int32) (σ : St) : Ct yX10_hasBits MX10_hasBits d [.int x0, .int x1] σ (fun v σ1 => v = some (.int (bI ((0 : Int32) ≤ x0 ∧ x0.toInt64 < ((1 : Int64) <<< (x1.toInt64 &&& 63))))) ∧ σ1 = σ) :=
  Ct.of mX10_hasBits.1 (Nat.le_of_ble_eq_true rfl) (bX10_hasBits_0 x0 x1 σ   (⟨by first | rfl | (simp only [bI, true_and, and_true, false_and, and_false, true_or, or_true, false_or, or_false, not_true_eq_false, not_false_eq_true, if_true, if_false]; done) | (simp [bI]; done), by first | rfl | (simp only [bI, true_and, and_true, false_and, and_false, true_or, or_true, false_or, or_false, not_true_eq_false, not_false_eq_true, if_true, if_false]; done) | (simp [bI]; done)⟩))

/-! CarryNets.run -/
theorem eX10_run_0 : decode MX10_run.2.1 0 = .ok (.iload_n 1, 1) := by decide +kernel
theorem eX10_run_1 : decode MX10_run.2.1 1 = .ok (.iconst 1, 1) := by decide +kernel
theorem eX10_run_2 : decode MX10_run.2.1 2 = .ok (.if_icmp .lt 25, 3) := by decide +kernel
theorem eX10_run_5 : decode MX10_run.2.1 5 = .ok (.iload_n 1, 1) := by decide +kernel
theorem eX10_run_6 : decode MX10_run.2.1 6 = .ok (.bipush 31, 2) := by decide +kernel
theorem eX10_run_8 : decode MX10_run.2.1 8 = .ok (.if_icmp .gt 19, 3) := by decide +kernel
theorem eX10_run_11 : decode MX10_run.2.1 11 = .ok (.iload_n 2, 1) := by decide +kernel
theorem eX10_run_12 : decode MX10_run.2.1 12 = .ok (.iload_n 1, 1) := by decide +kernel
theorem eX10_run_13 : decode MX10_run.2.1 13 = .ok (.invokestatic 248, 3) := by decide +kernel
theorem eX10_run_16 : decode MX10_run.2.1 16 = .ok (.ifCond .eq 11, 3) := by decide +kernel
theorem eX10_run_19 : decode MX10_run.2.1 19 = .ok (.iload_n 3, 1) := by decide +kernel
theorem eX10_run_20 : decode MX10_run.2.1 20 = .ok (.iload_n 1, 1) := by decide +kernel
theorem eX10_run_21 : decode MX10_run.2.1 21 = .ok (.invokestatic 248, 3) := by decide +kernel
theorem eX10_run_24 : decode MX10_run.2.1 24 = .ok (.ifCond .ne 5, 3) := by decide +kernel
theorem eX10_run_27 : decode MX10_run.2.1 27 = .ok (.iconst (-1), 1) := by decide +kernel
theorem eX10_run_28 : decode MX10_run.2.1 28 = .ok (.ireturn, 1) := by decide +kernel
theorem eX10_run_29 : decode MX10_run.2.1 29 = .ok (.iconst 0, 1) := by decide +kernel
theorem eX10_run_30 : decode MX10_run.2.1 30 = .ok (.istore 4, 2) := by decide +kernel
theorem eX10_run_32 : decode MX10_run.2.1 32 = .ok (.iconst 0, 1) := by decide +kernel
theorem eX10_run_33 : decode MX10_run.2.1 33 = .ok (.istore 5, 2) := by decide +kernel
theorem eX10_run_35 : decode MX10_run.2.1 35 = .ok (.iconst 0, 1) := by decide +kernel
theorem eX10_run_36 : decode MX10_run.2.1 36 = .ok (.istore 6, 2) := by decide +kernel
theorem eX10_run_38 : decode MX10_run.2.1 38 = .ok (.iload 6, 2) := by decide +kernel
theorem eX10_run_40 : decode MX10_run.2.1 40 = .ok (.iload_n 1, 1) := by decide +kernel
theorem eX10_run_41 : decode MX10_run.2.1 41 = .ok (.if_icmp .ge 64, 3) := by decide +kernel
theorem eX10_run_44 : decode MX10_run.2.1 44 = .ok (.iload_n 2, 1) := by decide +kernel
theorem eX10_run_45 : decode MX10_run.2.1 45 = .ok (.iload 6, 2) := by decide +kernel
theorem eX10_run_47 : decode MX10_run.2.1 47 = .ok (.ishr, 1) := by decide +kernel
theorem eX10_run_48 : decode MX10_run.2.1 48 = .ok (.iconst 1, 1) := by decide +kernel
theorem eX10_run_49 : decode MX10_run.2.1 49 = .ok (.iand, 1) := by decide +kernel
theorem eX10_run_50 : decode MX10_run.2.1 50 = .ok (.iload_n 3, 1) := by decide +kernel
theorem eX10_run_51 : decode MX10_run.2.1 51 = .ok (.iload 6, 2) := by decide +kernel
theorem eX10_run_53 : decode MX10_run.2.1 53 = .ok (.ishr, 1) := by decide +kernel
theorem eX10_run_54 : decode MX10_run.2.1 54 = .ok (.iconst 1, 1) := by decide +kernel
theorem eX10_run_55 : decode MX10_run.2.1 55 = .ok (.iand, 1) := by decide +kernel
theorem eX10_run_56 : decode MX10_run.2.1 56 = .ok (.iadd, 1) := by decide +kernel
theorem eX10_run_57 : decode MX10_run.2.1 57 = .ok (.istore 7, 2) := by decide +kernel
theorem eX10_run_59 : decode MX10_run.2.1 59 = .ok (.iload 7, 2) := by decide +kernel
theorem eX10_run_61 : decode MX10_run.2.1 61 = .ok (.iconst 2, 1) := by decide +kernel
theorem eX10_run_62 : decode MX10_run.2.1 62 = .ok (.if_icmp .ne 9, 3) := by decide +kernel
theorem eX10_run_65 : decode MX10_run.2.1 65 = .ok (.iconst 1, 1) := by decide +kernel
theorem eX10_run_66 : decode MX10_run.2.1 66 = .ok (.istore 5, 2) := by decide +kernel
theorem eX10_run_68 : decode MX10_run.2.1 68 = .ok (.goto 22, 3) := by decide +kernel
theorem eX10_run_71 : decode MX10_run.2.1 71 = .ok (.iload 7, 2) := by decide +kernel
theorem eX10_run_73 : decode MX10_run.2.1 73 = .ok (.ifCond .ne 9, 3) := by decide +kernel
theorem eX10_run_76 : decode MX10_run.2.1 76 = .ok (.iconst 0, 1) := by decide +kernel
theorem eX10_run_77 : decode MX10_run.2.1 77 = .ok (.istore 5, 2) := by decide +kernel
theorem eX10_run_79 : decode MX10_run.2.1 79 = .ok (.goto 11, 3) := by decide +kernel
theorem eX10_run_82 : decode MX10_run.2.1 82 = .ok (.iload 5, 2) := by decide +kernel
theorem eX10_run_84 : decode MX10_run.2.1 84 = .ok (.ifCond .le 6, 3) := by decide +kernel
theorem eX10_run_87 : decode MX10_run.2.1 87 = .ok (.iinc 5 1, 3) := by decide +kernel
theorem eX10_run_90 : decode MX10_run.2.1 90 = .ok (.iload 4, 2) := by decide +kernel
theorem eX10_run_92 : decode MX10_run.2.1 92 = .ok (.iload 5, 2) := by decide +kernel
theorem eX10_run_94 : decode MX10_run.2.1 94 = .ok (.invokestatic 251, 3) := by decide +kernel
theorem eX10_run_97 : decode MX10_run.2.1 97 = .ok (.istore 4, 2) := by decide +kernel
theorem eX10_run_99 : decode MX10_run.2.1 99 = .ok (.iinc 6 1, 3) := by decide +kernel
theorem eX10_run_102 : decode MX10_run.2.1 102 = .ok (.goto (-64), 3) := by decide +kernel
theorem eX10_run_105 : decode MX10_run.2.1 105 = .ok (.iload 4, 2) := by decide +kernel
theorem eX10_run_107 : decode MX10_run.2.1 107 = .ok (.ireturn, 1) := by decide +kernel
set_option maxRecDepth 20000 in
theorem bX10_run_0 {d : Nat} {Q : Option Value → St → Prop} (x1 : Int32) (x2 : Int32) (x3 : Int32) (σ : St) 
    (k1 : x1 < 1 → Q (some (.int (-1))) σ)
    (k2 : (1 : Int32) ≤ x1 → (31 : Int32) < x1 → Q (some (.int (-1))) σ)
    (k3 : (1 : Int32) ≤ x1 → x1 ≤ 31 → (¬ ((0 : Int32) ≤ x2 ∧ x2.toInt64 < ((1 : Int64) <<< (x1.toInt64 &&& 63)))) → Q (some (.int (-1))) σ)
    (k4 : (1 : Int32) ≤ x1 → x1 ≤ 31 → ((0 : Int32) ≤ x2 ∧ x2.toInt64 < ((1 : Int64) <<< (x1.toInt64 &&& 63))) → ((0 : Int32) ≤ x3 ∧ x3.toInt64 < ((1 : Int64) <<< (x1.toInt64 &&& 63))) → Run MX10_run (d + 1) 38 [none, some (.int x1), some (.int x2), some (.int x3), some (.int 0), some (.int 0), some (.int 0), none] [] σ Q)
    (k5 : (1 : Int32) ≤ x1 → x1 ≤ 31 → ((0 : Int32) ≤ x2 ∧ x2.toInt64 < ((1 : Int64) <<< (x1.toInt64 &&& 63))) → (¬ ((0 : Int32) ≤ x3 ∧ x3.toInt64 < ((1 : Int64) <<< (x1.toInt64 &&& 63)))) → Q (some (.int (-1))) σ)
    : Run MX10_run (d + 1) 0 [some (.ref 0), some (.int x1), some (.int x2), some (.int x3), none, none, none, none] [] σ Q := by
  refine (go_iload_n 1 eX10_run_0 rfl rfl).run ?_
  refine (go_iconst (v := 1) eX10_run_1 rfl).run ?_
  refine (bi_lt 27 eX10_run_2 rfl).run (fun h1 => ?_) (fun h1 => ?_)
  · refine (go_iconst (v := -1) eX10_run_27 rfl).run ?_
    exact Run.ret (v := some (.int (-1))) (k1 h1) ⟨Or.inl rfl, eX10_run_28⟩ rfl
  · refine (go_iload_n 1 eX10_run_5 rfl rfl).run ?_
    refine (go_bipush (v := 31) eX10_run_6 rfl).run ?_
    refine (bi_gt 27 eX10_run_8 rfl).run (fun h2 => ?_) (fun h2 => ?_)
    · refine (go_iconst (v := -1) eX10_run_27 rfl).run ?_
      exact Run.ret (v := some (.int (-1))) (k2 h1 h2) ⟨Or.inl rfl, eX10_run_28⟩ rfl
    · refine (go_iload_n 2 eX10_run_11 rfl rfl).run ?_
      refine (go_iload_n 1 eX10_run_12 rfl rfl).run ?_
      refine Run.callS1 (d := d) (As := [.int x2, .int x1]) (r := .int (bI ((0 : Int32) ≤ x2 ∧ x2.toInt64 < ((1 : Int64) <<< (x1.toInt64 &&& 63))))) mX10_hasBits lkX10_248 rfl rfl rfl (Nat.le_of_ble_eq_true rfl) eX10_run_13 (qX10_hasBits d x2 x1 σ  ) ?_
      refine (br_ifeq_b 27 eX10_run_16 rfl).run (fun h3 => ?_) (fun h3 => ?_)
      · refine (go_iconst (v := -1) eX10_run_27 rfl).run ?_
        exact Run.ret (v := some (.int (-1))) (k3 h1 h2 h3) ⟨Or.inl rfl, eX10_run_28⟩ rfl
      · refine (go_iload_n 3 eX10_run_19 rfl rfl).run ?_
        refine (go_iload_n 1 eX10_run_20 rfl rfl).run ?_
        refine Run.callS1 (d := d) (As := [.int x3, .int x1]) (r := .int (bI ((0 : Int32) ≤ x3 ∧ x3.toInt64 < ((1 : Int64) <<< (x1.toInt64 &&& 63))))) mX10_hasBits lkX10_248 rfl rfl rfl (Nat.le_of_ble_eq_true rfl) eX10_run_21 (qX10_hasBits d x3 x1 σ  ) ?_
        refine (br_ifne_b 29 eX10_run_24 rfl).run (fun h4 => ?_) (fun h4 => ?_)
        · refine (go_iconst (v := 0) eX10_run_29 rfl).run ?_
          refine (go_istore 4 (L' := [some (.ref 0), some (.int x1), some (.int x2), some (.int x3), some (.int 0), none, none, none]) eX10_run_30 (Nat.le_of_ble_eq_true rfl) rfl).run ?_
          refine (go_iconst (v := 0) eX10_run_32 rfl).run ?_
          refine (go_istore 5 (L' := [some (.ref 0), some (.int x1), some (.int x2), some (.int x3), some (.int 0), some (.int 0), none, none]) eX10_run_33 (Nat.le_of_ble_eq_true rfl) rfl).run ?_
          refine (go_iconst (v := 0) eX10_run_35 rfl).run ?_
          refine (go_istore 6 (L' := [some (.ref 0), some (.int x1), some (.int x2), some (.int x3), some (.int 0), some (.int 0), some (.int 0), none]) eX10_run_36 (Nat.le_of_ble_eq_true rfl) rfl).run ?_
          refine (go_sub (L' := [none, some (.int x1), some (.int x2), some (.int x3), some (.int 0), some (.int 0), some (.int 0), none]) (lsub_drop (lsub_keep (lsub_keep (lsub_keep (lsub_keep (lsub_keep (lsub_keep (lsub_keep lsub_nil))))))))).run ?_
          exact (k4 h1 h2 h3 h4)
        · refine (go_iconst (v := -1) eX10_run_27 rfl).run ?_
          exact Run.ret (v := some (.int (-1))) (k5 h1 h2 h3 h4) ⟨Or.inl rfl, eX10_run_28⟩ rfl

set_option maxRecDepth 20000 in
theorem bX10_run_38 {d : Nat} {Q : Option Value → St → Prop} (x1 : Int32) (x2 : Int32) (x3 : Int32) (x4 : Int32) (x5 : Int32) (x6 : Int32) (σ : St) 
    (k1 : x1 ≤ x6 → Q (some (.int x4)) σ)
    (k2 : x6 < x1 → Run MX10_run (d + 1) 38 [none, some (.int x1), some (.int x2), some (.int x3), some (.int (mxI x4 (if (((x2 >>> (x6 &&& 31)) &&& 1) + ((x3 >>> (x6 &&& 31)) &&& 1)) = 2 then (1 : Int32) else (if (((x2 >>> (x6 &&& 31)) &&& 1) + ((x3 >>> (x6 &&& 31)) &&& 1)) = 0 then (0 : Int32) else (if x5 ≤ 0 then x5 else (x5 + 1)))))), some (.int (if (((x2 >>> (x6 &&& 31)) &&& 1) + ((x3 >>> (x6 &&& 31)) &&& 1)) = 2 then (1 : Int32) else (if (((x2 >>> (x6 &&& 31)) &&& 1) + ((x3 >>> (x6 &&& 31)) &&& 1)) = 0 then (0 : Int32) else (if x5 ≤ 0 then x5 else (x5 + 1))))), some (.int (x6 + 1)), none] [] σ Q)
    : Run MX10_run (d + 1) 38 [none, some (.int x1), some (.int x2), some (.int x3), some (.int x4), some (.int x5), some (.int x6), none] [] σ Q := by
  refine (go_iload 6 eX10_run_38 rfl).run ?_
  refine (go_iload_n 1 eX10_run_40 rfl rfl).run ?_
  refine (bi_ge 105 eX10_run_41 rfl).run (fun h1 => ?_) (fun h1 => ?_)
  · refine (go_iload 4 eX10_run_105 rfl).run ?_
    exact Run.ret (v := some (.int x4)) (k1 h1) ⟨Or.inl rfl, eX10_run_107⟩ rfl
  · refine (go_iload_n 2 eX10_run_44 rfl rfl).run ?_
    refine (go_iload 6 eX10_run_45 rfl).run ?_
    refine (go_ishr eX10_run_47).run ?_
    refine (go_iconst (v := 1) eX10_run_48 rfl).run ?_
    refine (go_iand eX10_run_49).run ?_
    refine (go_iload_n 3 eX10_run_50 rfl rfl).run ?_
    refine (go_iload 6 eX10_run_51 rfl).run ?_
    refine (go_ishr eX10_run_53).run ?_
    refine (go_iconst (v := 1) eX10_run_54 rfl).run ?_
    refine (go_iand eX10_run_55).run ?_
    refine (go_iadd eX10_run_56).run ?_
    refine (go_istore 7 (L' := [none, some (.int x1), some (.int x2), some (.int x3), some (.int x4), some (.int x5), some (.int x6), some (.int (((x2 >>> (x6 &&& 31)) &&& 1) + ((x3 >>> (x6 &&& 31)) &&& 1)))]) eX10_run_57 (Nat.le_of_ble_eq_true rfl) rfl).run ?_
    refine (go_iload 7 eX10_run_59 rfl).run ?_
    refine (go_iconst (v := 2) eX10_run_61 rfl).run ?_
    have hJh2 : Run MX10_run (d + 1) 90 [none, some (.int x1), some (.int x2), some (.int x3), some (.int x4), some (.int (if (((x2 >>> (x6 &&& 31)) &&& 1) + ((x3 >>> (x6 &&& 31)) &&& 1)) = 2 then (1 : Int32) else (if (((x2 >>> (x6 &&& 31)) &&& 1) + ((x3 >>> (x6 &&& 31)) &&& 1)) = 0 then (0 : Int32) else (if x5 ≤ 0 then x5 else (x5 + 1))))), some (.int x6), none] [] σ Q := by
      refine (go_iload 4 eX10_run_90 rfl).run ?_
      refine (go_iload 5 eX10_run_92 rfl).run ?_
      refine (go_maxN mm_ok lkX10_251 rfl (Nat.le_of_ble_eq_true rfl) (by omega) eX10_run_94).run ?_
      refine (go_istore 4 (L' := [none, some (.int x1), some (.int x2), some (.int x3), some (.int (mxI x4 (if (((x2 >>> (x6 &&& 31)) &&& 1) + ((x3 >>> (x6 &&& 31)) &&& 1)) = 2 then (1 : Int32) else (if (((x2 >>> (x6 &&& 31)) &&& 1) + ((x3 >>> (x6 &&& 31)) &&& 1)) = 0 then (0 : Int32) else (if x5 ≤ 0 then x5 else (x5 + 1)))))), some (.int (if (((x2 >>> (x6 &&& 31)) &&& 1) + ((x3 >>> (x6 &&& 31)) &&& 1)) = 2 then (1 : Int32) else (if (((x2 >>> (x6 &&& 31)) &&& 1) + ((x3 >>> (x6 &&& 31)) &&& 1)) = 0 then (0 : Int32) else (if x5 ≤ 0 then x5 else (x5 + 1))))), some (.int x6), none]) eX10_run_97 (Nat.le_of_ble_eq_true rfl) rfl).run ?_
      refine (go_iinc 6 (v := (x6 + 1)) (L' := [none, some (.int x1), some (.int x2), some (.int x3), some (.int (mxI x4 (if (((x2 >>> (x6 &&& 31)) &&& 1) + ((x3 >>> (x6 &&& 31)) &&& 1)) = 2 then (1 : Int32) else (if (((x2 >>> (x6 &&& 31)) &&& 1) + ((x3 >>> (x6 &&& 31)) &&& 1)) = 0 then (0 : Int32) else (if x5 ≤ 0 then x5 else (x5 + 1)))))), some (.int (if (((x2 >>> (x6 &&& 31)) &&& 1) + ((x3 >>> (x6 &&& 31)) &&& 1)) = 2 then (1 : Int32) else (if (((x2 >>> (x6 &&& 31)) &&& 1) + ((x3 >>> (x6 &&& 31)) &&& 1)) = 0 then (0 : Int32) else (if x5 ≤ 0 then x5 else (x5 + 1))))), some (.int (x6 + 1)), none]) eX10_run_99 rfl rfl (Nat.le_of_ble_eq_true rfl) rfl).run ?_
      refine (go_goto 38 eX10_run_102 rfl).run ?_
      exact (k2 h1)
    refine (bi_ne 71 eX10_run_62 rfl).run (fun h2 => ?_) (fun h2 => ?_)
    · refine (go_iload 7 eX10_run_71 rfl).run ?_
      have hJh3 : Run MX10_run (d + 1) 90 [none, some (.int x1), some (.int x2), some (.int x3), some (.int x4), some (.int (if (((x2 >>> (x6 &&& 31)) &&& 1) + ((x3 >>> (x6 &&& 31)) &&& 1)) = 0 then (0 : Int32) else (if x5 ≤ 0 then x5 else (x5 + 1)))), some (.int x6), none] [] σ Q := by
        first | exact hJh2 | (simp only [if_neg (h2)] at hJh2; exact hJh2) | (simp only [eq_false h2, not_false_eq_true, true_and, and_true, false_and, and_false, true_or, or_true, false_or, or_false, not_true_eq_false, not_false_eq_true] at hJh2; exact hJh2) | exact Run.eq (by simp [eq_false h2, not_false_eq_true, bI]) (by simp [eq_false h2, not_false_eq_true, bI]) rfl hJh2
      refine (bz_ne 82 eX10_run_73 rfl).run (fun h3 => ?_) (fun h3 => ?_)
      · refine (go_iload 5 eX10_run_82 rfl).run ?_
        have hJh4 : Run MX10_run (d + 1) 90 [none, some (.int x1), some (.int x2), some (.int x3), some (.int x4), some (.int (if x5 ≤ 0 then x5 else (x5 + 1))), some (.int x6), none] [] σ Q := by
          first | exact hJh3 | (simp only [if_neg (h3)] at hJh3; exact hJh3) | (simp only [eq_false h3, not_false_eq_true, true_and, and_true, false_and, and_false, true_or, or_true, false_or, or_false, not_true_eq_false, not_false_eq_true] at hJh3; exact hJh3) | exact Run.eq (by simp [eq_false h3, not_false_eq_true, bI]) (by simp [eq_false h3, not_false_eq_true, bI]) rfl hJh3
        refine (bz_le 90 eX10_run_84 rfl).run (fun h4 => ?_) (fun h4 => ?_)
        · refine (go_sub (L' := [none, some (.int x1), some (.int x2), some (.int x3), some (.int x4), some (.int x5), some (.int x6), none]) (lsub_keep (lsub_keep (lsub_keep (lsub_keep (lsub_keep (lsub_keep (lsub_keep (lsub_drop lsub_nil))))))))).run ?_
          first | exact hJh4 | (simp only [if_pos h4] at hJh4; exact hJh4) | (simp only [eq_true h4, eq_false (i32_nlt.mpr h4), true_and, and_true, false_and, and_false, true_or, or_true, false_or, or_false, not_true_eq_false, not_false_eq_true] at hJh4; exact hJh4) | exact Run.eq (by simp [eq_true h4, eq_false (i32_nlt.mpr h4), bI]) (by simp [eq_true h4, eq_false (i32_nlt.mpr h4), bI]) rfl hJh4
        · refine (go_iinc 5 (v := (x5 + 1)) (L' := [none, some (.int x1), some (.int x2), some (.int x3), some (.int x4), some (.int (x5 + 1)), some (.int x6), some (.int (((x2 >>> (x6 &&& 31)) &&& 1) + ((x3 >>> (x6 &&& 31)) &&& 1)))]) eX10_run_87 rfl rfl (Nat.le_of_ble_eq_true rfl) rfl).run ?_
          refine (go_sub (L' := [none, some (.int x1), some (.int x2), some (.int x3), some (.int x4), some (.int (x5 + 1)), some (.int x6), none]) (lsub_keep (lsub_keep (lsub_keep (lsub_keep (lsub_keep (lsub_keep (lsub_keep (lsub_drop lsub_nil))))))))).run ?_
          first | exact hJh4 | (simp only [if_neg (i32_nle.mpr h4)] at hJh4; exact hJh4) | (simp only [eq_true h4, eq_false (i32_nle.mpr h4), true_and, and_true, false_and, and_false, true_or, or_true, false_or, or_false, not_true_eq_false, not_false_eq_true] at hJh4; exact hJh4) | exact Run.eq (by simp [eq_true h4, eq_false (i32_nle.mpr h4), bI]) (by simp [eq_true h4, eq_false (i32_nle.mpr h4), bI]) rfl hJh4
      · refine (go_iconst (v := 0) eX10_run_76 rfl).run ?_
        refine (go_istore 5 (L' := [none, some (.int x1), some (.int x2), some (.int x3), some (.int x4), some (.int 0), some (.int x6), some (.int (((x2 >>> (x6 &&& 31)) &&& 1) + ((x3 >>> (x6 &&& 31)) &&& 1)))]) eX10_run_77 (Nat.le_of_ble_eq_true rfl) rfl).run ?_
        refine (go_goto 90 eX10_run_79 rfl).run ?_
        refine (go_sub (L' := [none, some (.int x1), some (.int x2), some (.int x3), some (.int x4), some (.int 0), some (.int x6), none]) (lsub_keep (lsub_keep (lsub_keep (lsub_keep (lsub_keep (lsub_keep (lsub_keep (lsub_drop lsub_nil))))))))).run ?_
        first | exact hJh3 | (simp only [if_pos h3] at hJh3; exact hJh3) | (simp only [eq_true h3, not_true_eq_false, true_and, and_true, false_and, and_false, true_or, or_true, false_or, or_false, not_true_eq_false, not_false_eq_true] at hJh3; exact hJh3) | exact Run.eq (by simp [eq_true h3, not_true_eq_false, bI]) (by simp [eq_true h3, not_true_eq_false, bI]) rfl hJh3
    · refine (go_iconst (v := 1) eX10_run_65 rfl).run ?_
      refine (go_istore 5 (L' := [none, some (.int x1), some (.int x2), some (.int x3), some (.int x4), some (.int 1), some (.int x6), some (.int (((x2 >>> (x6 &&& 31)) &&& 1) + ((x3 >>> (x6 &&& 31)) &&& 1)))]) eX10_run_66 (Nat.le_of_ble_eq_true rfl) rfl).run ?_
      refine (go_goto 90 eX10_run_68 rfl).run ?_
      refine (go_sub (L' := [none, some (.int x1), some (.int x2), some (.int x3), some (.int x4), some (.int 1), some (.int x6), none]) (lsub_keep (lsub_keep (lsub_keep (lsub_keep (lsub_keep (lsub_keep (lsub_keep (lsub_drop lsub_nil))))))))).run ?_
      first | exact hJh2 | (simp only [if_pos h2] at hJh2; exact hJh2) | (simp only [eq_true h2, not_true_eq_false, true_and, and_true, false_and, and_false, true_or, or_true, false_or, or_false, not_true_eq_false, not_false_eq_true] at hJh2; exact hJh2) | exact Run.eq (by simp [eq_true h2, not_true_eq_false, bI]) (by simp [eq_true h2, not_true_eq_false, bI]) rfl hJh2

/-! CarryNets.pairsInAll -/
theorem eX10_pairsInAll_0 : decode MX10_pairsInAll.2.1 0 = .ok (.lconst 0, 1) := by decide +kernel
theorem eX10_pairsInAll_1 : decode MX10_pairsInAll.2.1 1 = .ok (.lstore_n 1, 1) := by decide +kernel
theorem eX10_pairsInAll_2 : decode MX10_pairsInAll.2.1 2 = .ok (.aload_n 0, 1) := by decide +kernel
theorem eX10_pairsInAll_3 : decode MX10_pairsInAll.2.1 3 = .ok (.getfield 57, 3) := by decide +kernel
theorem eX10_pairsInAll_6 : decode MX10_pairsInAll.2.1 6 = .ok (.astore_n 3, 1) := by decide +kernel
theorem eX10_pairsInAll_7 : decode MX10_pairsInAll.2.1 7 = .ok (.aload_n 3, 1) := by decide +kernel
theorem eX10_pairsInAll_8 : decode MX10_pairsInAll.2.1 8 = .ok (.arraylength, 1) := by decide +kernel
theorem eX10_pairsInAll_9 : decode MX10_pairsInAll.2.1 9 = .ok (.istore 4, 2) := by decide +kernel
theorem eX10_pairsInAll_11 : decode MX10_pairsInAll.2.1 11 = .ok (.iconst 0, 1) := by decide +kernel
theorem eX10_pairsInAll_12 : decode MX10_pairsInAll.2.1 12 = .ok (.istore 5, 2) := by decide +kernel
theorem eX10_pairsInAll_14 : decode MX10_pairsInAll.2.1 14 = .ok (.iload 5, 2) := by decide +kernel
theorem eX10_pairsInAll_16 : decode MX10_pairsInAll.2.1 16 = .ok (.iload 4, 2) := by decide +kernel
theorem eX10_pairsInAll_18 : decode MX10_pairsInAll.2.1 18 = .ok (.if_icmp .ge 20, 3) := by decide +kernel
theorem eX10_pairsInAll_21 : decode MX10_pairsInAll.2.1 21 = .ok (.aload_n 3, 1) := by decide +kernel
theorem eX10_pairsInAll_22 : decode MX10_pairsInAll.2.1 22 = .ok (.iload 5, 2) := by decide +kernel
theorem eX10_pairsInAll_24 : decode MX10_pairsInAll.2.1 24 = .ok (.laload, 1) := by decide +kernel
theorem eX10_pairsInAll_25 : decode MX10_pairsInAll.2.1 25 = .ok (.lstore 6, 2) := by decide +kernel
theorem eX10_pairsInAll_27 : decode MX10_pairsInAll.2.1 27 = .ok (.lload_n 1, 1) := by decide +kernel
theorem eX10_pairsInAll_28 : decode MX10_pairsInAll.2.1 28 = .ok (.lload 6, 2) := by decide +kernel
theorem eX10_pairsInAll_30 : decode MX10_pairsInAll.2.1 30 = .ok (.ladd, 1) := by decide +kernel
theorem eX10_pairsInAll_31 : decode MX10_pairsInAll.2.1 31 = .ok (.lstore_n 1, 1) := by decide +kernel
theorem eX10_pairsInAll_32 : decode MX10_pairsInAll.2.1 32 = .ok (.iinc 5 1, 3) := by decide +kernel
theorem eX10_pairsInAll_35 : decode MX10_pairsInAll.2.1 35 = .ok (.goto (-21), 3) := by decide +kernel
theorem eX10_pairsInAll_38 : decode MX10_pairsInAll.2.1 38 = .ok (.lload_n 1, 1) := by decide +kernel
theorem eX10_pairsInAll_39 : decode MX10_pairsInAll.2.1 39 = .ok (.lreturn, 1) := by decide +kernel
set_option maxRecDepth 20000 in
theorem bX10_pairsInAll_0 {d : Nat} {Q : Option Value → St → Prop} (σ : St) 
    (k1 : Run MX10_pairsInAll d 14 [none, some (.long 0), none, some (.ref 26), some (.int 32), some (.int 0), none, none] [] σ Q)
    : Run MX10_pairsInAll d 0 [some (.ref 0), none, none, none, none, none, none, none] [] σ Q := by
  refine (go_lconst (v := 0) eX10_pairsInAll_0 rfl).run ?_
  refine (go_lstore_n 1 (L' := [some (.ref 0), some (.long 0), none, none, none, none, none, none]) eX10_pairsInAll_1 rfl (Nat.le_of_ble_eq_true rfl) rfl).run ?_
  refine (go_aload_n 0 eX10_pairsInAll_2 rfl rfl).run ?_
  refine (go_getr flX10_57 rf_9_8 kd_0 gr_0_8 eX10_pairsInAll_3).run ?_
  refine (go_astore_n 3 (L' := [some (.ref 0), some (.long 0), none, some (.ref 26), none, none, none, none]) eX10_pairsInAll_6 rfl (Nat.le_of_ble_eq_true rfl) rfl).run ?_
  refine (go_aload_n 3 eX10_pairsInAll_7 rfl rfl).run ?_
  refine (go_alen101 (v := 32) kd_26 ln_26 rfl eX10_pairsInAll_8).run ?_
  refine (go_istore 4 (L' := [some (.ref 0), some (.long 0), none, some (.ref 26), some (.int 32), none, none, none]) eX10_pairsInAll_9 (Nat.le_of_ble_eq_true rfl) rfl).run ?_
  refine (go_iconst (v := 0) eX10_pairsInAll_11 rfl).run ?_
  refine (go_istore 5 (L' := [some (.ref 0), some (.long 0), none, some (.ref 26), some (.int 32), some (.int 0), none, none]) eX10_pairsInAll_12 (Nat.le_of_ble_eq_true rfl) rfl).run ?_
  refine (go_sub (L' := [none, some (.long 0), none, some (.ref 26), some (.int 32), some (.int 0), none, none]) (lsub_drop (lsub_keep (lsub_keep (lsub_keep (lsub_keep (lsub_keep (lsub_keep (lsub_keep lsub_nil))))))))).run ?_
  exact k1

set_option maxRecDepth 20000 in
theorem bX10_pairsInAll_14 {d : Nat} {Q : Option Value → St → Prop} (x1 : Int64) (x4 : Int32) (x5 : Int32) (σ : St) 
    (g1 : x5 < x4 → vp_in x5 32)
    (k1 : x4 ≤ x5 → Q (some (.long x1)) σ)
    (k2 : x5 < x4 → Run MX10_pairsInAll d 14 [none, some (.long (x1 + (σ.2 26 x5.toNatClampNeg))), none, some (.ref 26), some (.int x4), some (.int (x5 + 1)), none, none] [] σ Q)
    : Run MX10_pairsInAll d 14 [none, some (.long x1), none, some (.ref 26), some (.int x4), some (.int x5), none, none] [] σ Q := by
  refine (go_iload 5 eX10_pairsInAll_14 rfl).run ?_
  refine (go_iload 4 eX10_pairsInAll_16 rfl).run ?_
  refine (bi_ge 38 eX10_pairsInAll_18 rfl).run (fun h1 => ?_) (fun h1 => ?_)
  · refine (go_lload_n 1 eX10_pairsInAll_38 rfl rfl).run ?_
    exact Run.ret (v := some (.long x1)) (k1 h1) ⟨rfl, eX10_pairsInAll_39⟩ rfl
  · refine (go_aload_n 3 eX10_pairsInAll_21 rfl rfl).run ?_
    refine (go_iload 5 eX10_pairsInAll_22 rfl).run ?_
    refine (go_lald kd_26 ln_26 (g1 h1) eX10_pairsInAll_24).run ?_
    refine (go_lstore 6 (L' := [none, some (.long x1), none, some (.ref 26), some (.int x4), some (.int x5), some (.long (σ.2 26 x5.toNatClampNeg)), none]) eX10_pairsInAll_25 (Nat.le_of_ble_eq_true rfl) rfl).run ?_
    refine (go_lload_n 1 eX10_pairsInAll_27 rfl rfl).run ?_
    refine (go_lload 6 eX10_pairsInAll_28 rfl).run ?_
    refine (go_ladd eX10_pairsInAll_30).run ?_
    refine (go_lstore_n 1 (L' := [none, some (.long (x1 + (σ.2 26 x5.toNatClampNeg))), none, some (.ref 26), some (.int x4), some (.int x5), some (.long (σ.2 26 x5.toNatClampNeg)), none]) eX10_pairsInAll_31 rfl (Nat.le_of_ble_eq_true rfl) rfl).run ?_
    refine (go_iinc 5 (v := (x5 + 1)) (L' := [none, some (.long (x1 + (σ.2 26 x5.toNatClampNeg))), none, some (.ref 26), some (.int x4), some (.int (x5 + 1)), some (.long (σ.2 26 x5.toNatClampNeg)), none]) eX10_pairsInAll_32 rfl rfl (Nat.le_of_ble_eq_true rfl) rfl).run ?_
    refine (go_goto 14 eX10_pairsInAll_35 rfl).run ?_
    refine (go_sub (L' := [none, some (.long (x1 + (σ.2 26 x5.toNatClampNeg))), none, some (.ref 26), some (.int x4), some (.int (x5 + 1)), none, none]) (lsub_keep (lsub_keep (lsub_keep (lsub_keep (lsub_keep (lsub_keep (lsub_drop (lsub_keep lsub_nil))))))))).run ?_
    exact (k2 h1)


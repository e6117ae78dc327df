/-! CarryNetsModel.count -/
theorem eX11_count_0 : decode MX11_count.2.1 0 = .ok (.iload_n 1, 1) := by decide +kernel
theorem eX11_count_1 : decode MX11_count.2.1 1 = .ok (.ifCond .ne 10, 3) := by decide +kernel
theorem eX11_count_4 : decode MX11_count.2.1 4 = .ok (.aload_n 0, 1) := by decide +kernel
theorem eX11_count_5 : decode MX11_count.2.1 5 = .ok (.getfield 106, 3) := by decide +kernel
theorem eX11_count_8 : decode MX11_count.2.1 8 = .ok (.goto 70, 3) := by decide +kernel
theorem eX11_count_11 : decode MX11_count.2.1 11 = .ok (.iload_n 1, 1) := by decide +kernel
theorem eX11_count_12 : decode MX11_count.2.1 12 = .ok (.iconst 1, 1) := by decide +kernel
theorem eX11_count_13 : decode MX11_count.2.1 13 = .ok (.if_icmp .ne 10, 3) := by decide +kernel
theorem eX11_count_16 : decode MX11_count.2.1 16 = .ok (.aload_n 0, 1) := by decide +kernel
theorem eX11_count_17 : decode MX11_count.2.1 17 = .ok (.getfield 20, 3) := by decide +kernel
theorem eX11_count_20 : decode MX11_count.2.1 20 = .ok (.goto 58, 3) := by decide +kernel
theorem eX11_count_23 : decode MX11_count.2.1 23 = .ok (.iload_n 1, 1) := by decide +kernel
theorem eX11_count_24 : decode MX11_count.2.1 24 = .ok (.iconst 2, 1) := by decide +kernel
theorem eX11_count_25 : decode MX11_count.2.1 25 = .ok (.if_icmp .ne 10, 3) := by decide +kernel
theorem eX11_count_28 : decode MX11_count.2.1 28 = .ok (.aload_n 0, 1) := by decide +kernel
theorem eX11_count_29 : decode MX11_count.2.1 29 = .ok (.getfield 24, 3) := by decide +kernel
theorem eX11_count_32 : decode MX11_count.2.1 32 = .ok (.goto 46, 3) := by decide +kernel
theorem eX11_count_35 : decode MX11_count.2.1 35 = .ok (.iload_n 1, 1) := by decide +kernel
theorem eX11_count_36 : decode MX11_count.2.1 36 = .ok (.iconst 3, 1) := by decide +kernel
theorem eX11_count_37 : decode MX11_count.2.1 37 = .ok (.if_icmp .ne 10, 3) := by decide +kernel
theorem eX11_count_40 : decode MX11_count.2.1 40 = .ok (.aload_n 0, 1) := by decide +kernel
theorem eX11_count_41 : decode MX11_count.2.1 41 = .ok (.getfield 113, 3) := by decide +kernel
theorem eX11_count_44 : decode MX11_count.2.1 44 = .ok (.goto 34, 3) := by decide +kernel
theorem eX11_count_47 : decode MX11_count.2.1 47 = .ok (.iload_n 1, 1) := by decide +kernel
theorem eX11_count_48 : decode MX11_count.2.1 48 = .ok (.iconst 4, 1) := by decide +kernel
theorem eX11_count_49 : decode MX11_count.2.1 49 = .ok (.if_icmp .ne 28, 3) := by decide +kernel
theorem eX11_count_52 : decode MX11_count.2.1 52 = .ok (.aload_n 0, 1) := by decide +kernel
theorem eX11_count_53 : decode MX11_count.2.1 53 = .ok (.getfield 82, 3) := by decide +kernel
theorem eX11_count_56 : decode MX11_count.2.1 56 = .ok (.iconst 0, 1) := by decide +kernel
theorem eX11_count_57 : decode MX11_count.2.1 57 = .ok (.iaload, 1) := by decide +kernel
theorem eX11_count_58 : decode MX11_count.2.1 58 = .ok (.bipush (-4), 2) := by decide +kernel
theorem eX11_count_60 : decode MX11_count.2.1 60 = .ok (.if_icmp .ne 8, 3) := by decide +kernel
theorem eX11_count_63 : decode MX11_count.2.1 63 = .ok (.bipush (-4), 2) := by decide +kernel
theorem eX11_count_65 : decode MX11_count.2.1 65 = .ok (.goto 13, 3) := by decide +kernel
theorem eX11_count_68 : decode MX11_count.2.1 68 = .ok (.aload_n 0, 1) := by decide +kernel
theorem eX11_count_69 : decode MX11_count.2.1 69 = .ok (.getfield 85, 3) := by decide +kernel
theorem eX11_count_72 : decode MX11_count.2.1 72 = .ok (.iconst 0, 1) := by decide +kernel
theorem eX11_count_73 : decode MX11_count.2.1 73 = .ok (.iaload, 1) := by decide +kernel
theorem eX11_count_74 : decode MX11_count.2.1 74 = .ok (.goto 4, 3) := by decide +kernel
theorem eX11_count_77 : decode MX11_count.2.1 77 = .ok (.iconst (-1), 1) := by decide +kernel
theorem eX11_count_78 : decode MX11_count.2.1 78 = .ok (.ireturn, 1) := by decide +kernel
set_option maxRecDepth 20000 in
theorem bX11_count_0 {d : Nat} {Q : Option Value → St → Prop} (x1 : Int32) (σ : St) 
    (k1 : Q (some (.int (if x1 = 0 then (σ.1 88 0) else (if x1 = 1 then (σ.1 88 4) else (if x1 = 2 then (σ.1 88 5) else (if x1 = 3 then (σ.1 88 10) else (if x1 = 4 then (if (σ.1 108 ((0 : Int32).toNatClampNeg)) = (-4) then (-4 : Int32) else (σ.1 109 ((0 : Int32).toNatClampNeg))) else (-1)))))))) σ)
    : Run MX11_count d 0 [some (.ref 88), some (.int x1)] [] σ Q := by
  refine (go_iload_n 1 eX11_count_0 rfl rfl).run ?_
  have hJh1 : Run MX11_count d 78 [none, none] [.int (if x1 = 0 then (σ.1 88 0) else (if x1 = 1 then (σ.1 88 4) else (if x1 = 2 then (σ.1 88 5) else (if x1 = 3 then (σ.1 88 10) else (if x1 = 4 then (if (σ.1 108 ((0 : Int32).toNatClampNeg)) = (-4) then (-4 : Int32) else (σ.1 109 ((0 : Int32).toNatClampNeg))) else (-1))))))] σ Q := by
    exact Run.ret (v := some (.int (if x1 = 0 then (σ.1 88 0) else (if x1 = 1 then (σ.1 88 4) else (if x1 = 2 then (σ.1 88 5) else (if x1 = 3 then (σ.1 88 10) else (if x1 = 4 then (if (σ.1 108 ((0 : Int32).toNatClampNeg)) = (-4) then (-4 : Int32) else (σ.1 109 ((0 : Int32).toNatClampNeg))) else (-1)))))))) k1 ⟨Or.inl rfl, eX11_count_78⟩ rfl
  refine (bz_ne 11 eX11_count_1 rfl).run (fun h1 => ?_) (fun h1 => ?_)
  · refine (go_iload_n 1 eX11_count_11 rfl rfl).run ?_
    refine (go_iconst (v := 1) eX11_count_12 rfl).run ?_
    have hJh2 : Run MX11_count d 78 [none, none] [.int (if x1 = 1 then (σ.1 88 4) else (if x1 = 2 then (σ.1 88 5) else (if x1 = 3 then (σ.1 88 10) else (if x1 = 4 then (if (σ.1 108 ((0 : Int32).toNatClampNeg)) = (-4) then (-4 : Int32) else (σ.1 109 ((0 : Int32).toNatClampNeg))) else (-1)))))] σ Q := by
      first | exact hJh1 | (simp only [if_neg (h1)] at hJh1; exact hJh1) | (simp only [eq_false h1, not_false_eq_true, true_and, and_true, false_and, and_false, true_or, or_true, false_or, or_false, not_true_eq_false, not_false_eq_true] at hJh1; exact hJh1) | exact Run.eq (by simp [eq_false h1, not_false_eq_true, bI]) (by simp [eq_false h1, not_false_eq_true, bI]) rfl hJh1
    refine (bi_ne 23 eX11_count_13 rfl).run (fun h2 => ?_) (fun h2 => ?_)
    · refine (go_iload_n 1 eX11_count_23 rfl rfl).run ?_
      refine (go_iconst (v := 2) eX11_count_24 rfl).run ?_
      have hJh3 : Run MX11_count d 78 [none, none] [.int (if x1 = 2 then (σ.1 88 5) else (if x1 = 3 then (σ.1 88 10) else (if x1 = 4 then (if (σ.1 108 ((0 : Int32).toNatClampNeg)) = (-4) then (-4 : Int32) else (σ.1 109 ((0 : Int32).toNatClampNeg))) else (-1))))] σ Q := by
        first | exact hJh2 | (simp only [if_neg (h2)] at hJh2; exact hJh2) | (simp only [eq_false h2, not_false_eq_true, true_and, and_true, false_and, and_false, true_or, or_true, false_or, or_false, not_true_eq_false, not_false_eq_true] at hJh2; exact hJh2) | exact Run.eq (by simp [eq_false h2, not_false_eq_true, bI]) (by simp [eq_false h2, not_false_eq_true, bI]) rfl hJh2
      refine (bi_ne 35 eX11_count_25 rfl).run (fun h3 => ?_) (fun h3 => ?_)
      · refine (go_iload_n 1 eX11_count_35 rfl rfl).run ?_
        refine (go_iconst (v := 3) eX11_count_36 rfl).run ?_
        have hJh4 : Run MX11_count d 78 [none, none] [.int (if x1 = 3 then (σ.1 88 10) else (if x1 = 4 then (if (σ.1 108 ((0 : Int32).toNatClampNeg)) = (-4) then (-4 : Int32) else (σ.1 109 ((0 : Int32).toNatClampNeg))) else (-1)))] σ Q := by
          first | exact hJh3 | (simp only [if_neg (h3)] at hJh3; exact hJh3) | (simp only [eq_false h3, not_false_eq_true, true_and, and_true, false_and, and_false, true_or, or_true, false_or, or_false, not_true_eq_false, not_false_eq_true] at hJh3; exact hJh3) | exact Run.eq (by simp [eq_false h3, not_false_eq_true, bI]) (by simp [eq_false h3, not_false_eq_true, bI]) rfl hJh3
        refine (bi_ne 47 eX11_count_37 rfl).run (fun h4 => ?_) (fun h4 => ?_)
        · refine (go_iload_n 1 eX11_count_47 rfl rfl).run ?_
          refine (go_iconst (v := 4) eX11_count_48 rfl).run ?_
          have hJh5 : Run MX11_count d 78 [none, none] [.int (if x1 = 4 then (if (σ.1 108 ((0 : Int32).toNatClampNeg)) = (-4) then (-4 : Int32) else (σ.1 109 ((0 : Int32).toNatClampNeg))) else (-1))] σ Q := by
            first | exact hJh4 | (simp only [if_neg (h4)] at hJh4; exact hJh4) | (simp only [eq_false h4, not_false_eq_true, true_and, and_true, false_and, and_false, true_or, or_true, false_or, or_false, not_true_eq_false, not_false_eq_true] at hJh4; exact hJh4) | exact Run.eq (by simp [eq_false h4, not_false_eq_true, bI]) (by simp [eq_false h4, not_false_eq_true, bI]) rfl hJh4
          refine (bi_ne 77 eX11_count_49 rfl).run (fun h5 => ?_) (fun h5 => ?_)
          · refine (go_iconst (v := -1) eX11_count_77 rfl).run ?_
            refine (go_sub (L' := [none, none]) (lsub_drop (lsub_drop lsub_nil))).run ?_
            first | exact hJh5 | (simp only [if_neg (h5)] at hJh5; exact hJh5) | (simp only [eq_false h5, not_false_eq_true, true_and, and_true, false_and, and_false, true_or, or_true, false_or, or_false, not_true_eq_false, not_false_eq_true] at hJh5; exact hJh5) | exact Run.eq (by simp [eq_false h5, not_false_eq_true, bI]) (by simp [eq_false h5, not_false_eq_true, bI]) rfl hJh5
          · refine (go_aload_n 0 eX11_count_52 rfl rfl).run ?_
            refine (go_getr flX11_82 rf_10_35 kd_88 gr_88_35 eX11_count_53).run ?_
            refine (go_iconst (v := 0) eX11_count_56 rfl).run ?_
            refine (go_iald kd_108 ln_108 (vp_lit rfl rfl) eX11_count_57).run ?_
            refine (go_bipush (v := -4) eX11_count_58 rfl).run ?_
            have hJh6 : Run MX11_count d 78 [none, none] [.int (if (σ.1 108 ((0 : Int32).toNatClampNeg)) = (-4) then (-4 : Int32) else (σ.1 109 ((0 : Int32).toNatClampNeg)))] σ Q := by
              first | exact hJh5 | (simp only [if_pos h5] at hJh5; exact hJh5) | (simp only [eq_true h5, not_true_eq_false, true_and, and_true, false_and, and_false, true_or, or_true, false_or, or_false, not_true_eq_false, not_false_eq_true] at hJh5; exact hJh5) | exact Run.eq (by simp [eq_true h5, not_true_eq_false, bI]) (by simp [eq_true h5, not_true_eq_false, bI]) rfl hJh5
            refine (bi_ne 68 eX11_count_60 rfl).run (fun h6 => ?_) (fun h6 => ?_)
            · refine (go_aload_n 0 eX11_count_68 rfl rfl).run ?_
              refine (go_getr flX11_85 rf_10_36 kd_88 gr_88_36 eX11_count_69).run ?_
              refine (go_iconst (v := 0) eX11_count_72 rfl).run ?_
              refine (go_iald kd_109 ln_109 (vp_lit rfl rfl) eX11_count_73).run ?_
              refine (go_goto 78 eX11_count_74 rfl).run ?_
              refine (go_sub (L' := [none, none]) (lsub_drop (lsub_drop lsub_nil))).run ?_
              first | exact hJh6 | (simp only [if_neg (h6)] at hJh6; exact hJh6) | (simp only [eq_false h6, not_false_eq_true, true_and, and_true, false_and, and_false, true_or, or_true, false_or, or_false, not_true_eq_false, not_false_eq_true] at hJh6; exact hJh6) | exact Run.eq (by simp [eq_false h6, not_false_eq_true, bI]) (by simp [eq_false h6, not_false_eq_true, bI]) rfl hJh6
            · refine (go_bipush (v := -4) eX11_count_63 rfl).run ?_
              refine (go_goto 78 eX11_count_65 rfl).run ?_
              refine (go_sub (L' := [none, none]) (lsub_drop (lsub_drop lsub_nil))).run ?_
              first | exact hJh6 | (simp only [if_pos h6] at hJh6; exact hJh6) | (simp only [eq_true h6, not_true_eq_false, true_and, and_true, false_and, and_false, true_or, or_true, false_or, or_false, not_true_eq_false, not_false_eq_true] at hJh6; exact hJh6) | exact Run.eq (by simp [eq_true h6, not_true_eq_false, bI]) (by simp [eq_true h6, not_true_eq_false, bI]) rfl hJh6
        · refine (go_aload_n 0 eX11_count_40 rfl rfl).run ?_
          refine (go_geti flX11_113 rf_10_10 kd_88 eX11_count_41).run ?_
          refine (go_goto 78 eX11_count_44 rfl).run ?_
          refine (go_sub (L' := [none, none]) (lsub_drop (lsub_drop lsub_nil))).run ?_
          first | exact hJh4 | (simp only [if_pos h4] at hJh4; exact hJh4) | (simp only [eq_true h4, not_true_eq_false, true_and, and_true, false_and, and_false, true_or, or_true, false_or, or_false, not_true_eq_false, not_false_eq_true] at hJh4; exact hJh4) | exact Run.eq (by simp [eq_true h4, not_true_eq_false, bI]) (by simp [eq_true h4, not_true_eq_false, bI]) rfl hJh4
      · refine (go_aload_n 0 eX11_count_28 rfl rfl).run ?_
        refine (go_geti flX11_24 rf_10_5 kd_88 eX11_count_29).run ?_
        refine (go_goto 78 eX11_count_32 rfl).run ?_
        refine (go_sub (L' := [none, none]) (lsub_drop (lsub_drop lsub_nil))).run ?_
        first | exact hJh3 | (simp only [if_pos h3] at hJh3; exact hJh3) | (simp only [eq_true h3, not_true_eq_false, true_and, and_true, false_and, and_false, true_or, or_true, false_or, or_false, not_true_eq_false, not_false_eq_true] at hJh3; exact hJh3) | exact Run.eq (by simp [eq_true h3, not_true_eq_false, bI]) (by simp [eq_true h3, not_true_eq_false, bI]) rfl hJh3
    · refine (go_aload_n 0 eX11_count_16 rfl rfl).run ?_
      refine (go_geti flX11_20 rf_10_4 kd_88 eX11_count_17).run ?_
      refine (go_goto 78 eX11_count_20 rfl).run ?_
      refine (go_sub (L' := [none, none]) (lsub_drop (lsub_drop lsub_nil))).run ?_
      first | exact hJh2 | (simp only [if_pos h2] at hJh2; exact hJh2) | (simp only [eq_true h2, not_true_eq_false, true_and, and_true, false_and, and_false, true_or, or_true, false_or, or_false, not_true_eq_false, not_false_eq_true] at hJh2; exact hJh2) | exact Run.eq (by simp [eq_true h2, not_true_eq_false, bI]) (by simp [eq_true h2, not_true_eq_false, bI]) rfl hJh2
  · refine (go_aload_n 0 eX11_count_4 rfl rfl).run ?_
    refine (go_geti flX11_106 rf_10_0 kd_88 eX11_count_5).run ?_
    refine (go_goto 78 eX11_count_8 rfl).run ?_
    refine (go_sub (L' := [none, none]) (lsub_drop (lsub_drop lsub_nil))).run ?_
    first | exact hJh1 | (simp only [if_pos h1] at hJh1; exact hJh1) | (simp only [eq_true h1, not_true_eq_false, true_and, and_true, false_and, and_false, true_or, or_true, false_or, or_false, not_true_eq_false, not_false_eq_true] at hJh1; exact hJh1) | exact Run.eq (by simp [eq_true h1, not_true_eq_false, bI]) (by simp [eq_true h1, not_true_eq_false, bI]) rfl hJh1

def rX11_count (x1 : Int32) (σ : St) : Int32 := (if x1 = 0 then (σ.1 88 0) else (if x1 = 1 then (σ.1 88 4) else (if x1 = 2 then (σ.1 88 5) else (if x1 = 3 then (σ.1 88 10) else (if x1 = 4 then (if (σ.1 108 ((0 : Int32).toNatClampNeg)) = (-4) then (-4 : Int32) else (σ.1 109 ((0 : Int32).toNatClampNeg))) else (-1))))))
theorem qX11_count (d : Nat) (x1 : Int32) (σ : St) : Ct yX11_count MX11_count d [.ref 88, .int x1] σ (fun v σ1 => v = some (.int (rX11_count x1 σ)) ∧ σ1 = σ) :=
  Ct.of mX11_count.1 (Nat.le_of_ble_eq_true rfl) (bX11_count_0 x1 σ   (⟨by first | rfl | (simp only [rX11_count, true_and, and_true, false_and, and_false, true_or, or_true, false_or, or_false, not_true_eq_false, not_false_eq_true, if_true, if_false]; done) | (simp [rX11_count, bI]; done), by first | rfl | (simp only [rX11_count, true_and, and_true, false_and, and_false, true_or, or_true, false_or, or_false, not_true_eq_false, not_false_eq_true, if_true, if_false]; done) | (simp [rX11_count, bI]; done)⟩))


/-! THE LAW: its loop -/
section LAWL
variable {X : Cx} {p : Program} {l : Launch} {e : Env} {s : State} {m : MethodId} {below : List Frame} {meth : Method} {c : Code} {b L : Nat} {xs : Nat → Int32} {A0 : Nat → Prop} {cells slots : Nat} {Z : State → Prop} {σ : St}
theorem lw_loop (C : LC X p s m c b L xs A0 cells slots) (fin : ∀ Ls σ, AL X p l e s m below meth c b A0 cells slots Z 1315 Ls [] σ) : ∀ (f i : Nat) (σ : St), L ≤ i + 6 * f + 5 → i ≤ L → RA σ → AL X p l e s m below meth c b A0 cells slots Z 18 (LLoc i) [] σ := by
  have hL2 := C.2.2.2.2.2
  have hd : ∀ (i : Nat) (σ : St), i ≤ L → (i + 6 ≤ L → AL X p l e s m below meth c b A0 cells slots Z 27 (LLoc i) [] σ) → AL X p l e s m below meth c b A0 cells slots Z 18 (LLoc i) [] σ := by
    intro i σ hiL k
    refine (go_iload_n (x := nI i) 3 eL_18 rfl rfl).al C ?_
    refine (go_aload_n (x := 200) 0 eL_19 rfl rfl).al C ?_
    refine l_len C eL_20 ?_
    refine (go_bipush (v := 6) eL_21 rfl).al C ?_
    refine (go_isub eL_23).al C ?_
    have ez : nI L - 6 = zI ((L : Int) - 6) := by (simp only [nI_zI, zl0, zl1, zl2, zl3, zl4, zl5, zl6, zl7, zl8, zl9, zl10, zl11, zl12, zl13, zl14, zl15, zl16, zl24, zl30, zl31, zl32, zl48, zl56, zl57, zl60, zl63, zl99, zl100, zl130, zl199, zl200, zl240, zl999, zl1000, ← zI_add, ← zI_sub, ← zI_mul, ← zI_neg] <;> first | rfl | (congr 1; omega))
    rw [ez]
    refine (br_icmp_gt 1315 eL_24 rfl).al C (fun _ => fin _ _) (fun q => k ?_)
    rw [nI_zI, zI_lt (by omega) (by omega)] at q
    omega
  intro f
  induction f with
  | zero => intro i σ h1 h2 h; exact hd i σ h2 (fun q => absurd q (by omega))
  | succ f ih =>
    intro i σ h1 h2 h
    refine hd i σ h2 (fun hi => ?_)
    have nx : ∀ σ', RA σ' → AL X p l e s m below meth c b A0 cells slots Z 1309 (LLoc i) [] σ' := by
      intro σ' h'
      refine (go_iinc (x := nI i) (v := nI (i + 6)) 3 (L' := LLoc (i + 6)) eL_1309 rfl (nI_add i 6) (Nat.le_of_ble_eq_true rfl) rfl).al C ?_
      refine (go_goto 18 eL_1312 rfl).al C ?_
      exact ih (i + 6) σ' (by omega) hi h'
    refine (go_aload_n (x := 200) 0 eL_27 rfl rfl).al C ?_
    refine (go_iload_n (x := nI i) 3 eL_28 rfl rfl).al C ?_
    refine l_ld C (by omega) eL_29 ?_
    refine (go_bipush (v := 31) eL_30 rfl).al C ?_
    refine (go_iand eL_32).al C ?_
    obtain ⟨n, en⟩ := nI_ex (xs i)
    have e31 : xs i &&& 31 = nI (n % 32) := by rw [en, show (31 : Int32) = nI (2 ^ 5 - 1) from rfl, fa_mask]
    rw [e31]
    have lt : n % 32 < 32 := Nat.mod_lt _ (by decide)
    generalize n % 32 = t at lt
    by_cases c29 : t ≤ 29
    · rcases (show t = 0 ∨ t = 1 ∨ t = 2 ∨ t = 3 ∨ t = 4 ∨ t = 5 ∨ t = 6 ∨ t = 7 ∨ t = 8 ∨ t = 9 ∨ t = 10 ∨ t = 11 ∨ t = 12 ∨ t = 13 ∨ t = 14 ∨ t = 15 ∨ t = 16 ∨ t = 17 ∨ t = 18 ∨ t = 19 ∨ t = 20 ∨ t = 21 ∨ t = 22 ∨ t = 23 ∨ t = 24 ∨ t = 25 ∨ t = 26 ∨ t = 27 ∨ t = 28 ∨ t = 29 by omega) with rfl | rfl | rfl | rfl | rfl | rfl | rfl | rfl | rfl | rfl | rfl | rfl | rfl | rfl | rfl | rfl | rfl | rfl | rfl | rfl | rfl | rfl | rfl | rfl | rfl | rfl | rfl | rfl | rfl | rfl
      · exact (go_tableIn (off := 135) 168 eL_33 (by decide) (by decide) rfl rfl).al C (lc_0 C hi h nx)
      · exact (go_tableIn (off := 188) 221 eL_33 (by decide) (by decide) rfl rfl).al C (lc_1 C hi h nx)
      · exact (go_tableIn (off := 211) 244 eL_33 (by decide) (by decide) rfl rfl).al C (lc_2 C hi h nx)
      · exact (go_tableIn (off := 224) 257 eL_33 (by decide) (by decide) rfl rfl).al C (lc_3 C hi h nx)
      · exact (go_tableIn (off := 237) 270 eL_33 (by decide) (by decide) rfl rfl).al C (lc_4 C hi h nx)
      · exact (go_tableIn (off := 270) 303 eL_33 (by decide) (by decide) rfl rfl).al C (lc_5 C hi h nx)
      · exact (go_tableIn (off := 283) 316 eL_33 (by decide) (by decide) rfl rfl).al C (lc_6 C hi h nx)
      · exact (go_tableIn (off := 316) 349 eL_33 (by decide) (by decide) rfl rfl).al C (lc_7 C hi h nx)
      · exact (go_tableIn (off := 369) 402 eL_33 (by decide) (by decide) rfl rfl).al C (lc_8 C hi h nx)
      · exact (go_tableIn (off := 402) 435 eL_33 (by decide) (by decide) rfl rfl).al C (lc_9 C hi h nx)
      · exact (go_tableIn (off := 435) 468 eL_33 (by decide) (by decide) rfl rfl).al C (lc_10 C hi h nx)
      · exact (go_tableIn (off := 468) 501 eL_33 (by decide) (by decide) rfl rfl).al C (lc_11 C hi h nx)
      · exact (go_tableIn (off := 548) 581 eL_33 (by decide) (by decide) rfl rfl).al C (lc_12 C hi h nx)
      · exact (go_tableIn (off := 601) 634 eL_33 (by decide) (by decide) rfl rfl).al C (lc_13 C hi h nx)
      · exact (go_tableIn (off := 644) 677 eL_33 (by decide) (by decide) rfl rfl).al C (lc_14 C hi h nx)
      · exact (go_tableIn (off := 717) 750 eL_33 (by decide) (by decide) rfl rfl).al C (lc_15 C hi h nx)
      · exact (go_tableIn (off := 771) 804 eL_33 (by decide) (by decide) rfl rfl).al C (lc_16 C hi h nx)
      · exact (go_tableIn (off := 814) 847 eL_33 (by decide) (by decide) rfl rfl).al C (lc_17 C hi h nx)
      · exact (go_tableIn (off := 848) 881 eL_33 (by decide) (by decide) rfl rfl).al C (lc_18 C hi h nx)
      · exact (go_tableIn (off := 882) 915 eL_33 (by decide) (by decide) rfl rfl).al C (lc_19 C hi h nx)
      · exact (go_tableIn (off := 915) 948 eL_33 (by decide) (by decide) rfl rfl).al C (lc_20 C hi h nx)
      · exact (go_tableIn (off := 948) 981 eL_33 (by decide) (by decide) rfl rfl).al C (lc_21 C hi h nx)
      · exact (go_tableIn (off := 971) 1004 eL_33 (by decide) (by decide) rfl rfl).al C (lc_22 C hi h nx)
      · exact (go_tableIn (off := 1004) 1037 eL_33 (by decide) (by decide) rfl rfl).al C (lc_23 C hi h nx)
      · exact (go_tableIn (off := 1027) 1060 eL_33 (by decide) (by decide) rfl rfl).al C (lc_24 C hi h nx)
      · exact (go_tableIn (off := 1060) 1093 eL_33 (by decide) (by decide) rfl rfl).al C (lc_25 C hi h nx)
      · exact (go_tableIn (off := 1114) 1147 eL_33 (by decide) (by decide) rfl rfl).al C (lc_26 C hi h nx)
      · exact (go_tableIn (off := 1157) 1190 eL_33 (by decide) (by decide) rfl rfl).al C (lc_27 C hi h nx)
      · exact (go_tableIn (off := 1200) 1233 eL_33 (by decide) (by decide) rfl rfl).al C (lc_28 C hi h nx)
      · exact (go_tableIn (off := 1253) 1286 eL_33 (by decide) (by decide) rfl rfl).al C (lc_29 C hi h nx)
    · refine (go_tableOut 1309 eL_33 (.inr ?_) rfl).al C (nx σ h)
      rw [nI_toInt (by omega)]; omega
end LAWL

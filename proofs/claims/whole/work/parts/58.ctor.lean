/-! THE WORLD IS MADE: constructors -/
section CTOR
theorem oi_n : Cond.instanceMethod Lib.objectInit ∈ GW := gw1 21 rfl rfl
theorem oi_c : Cond.code Lib.objectInit ⟨#[0xb1]⟩ 1 none ∈ GW := gw1 22 rfl rfl
theorem ac_I : Cond.arrayClass .int ∈ GW := gw1 75 rfl rfl
theorem ac_J : Cond.arrayClass .long ∈ GW := gw1 209 rfl rfl
theorem ac_B : Cond.arrayClass .byte ∈ GW := gw1 55 rfl rfl
theorem s0_k {i : Nat} (h2 : kd i ≠ 2) (h6 : kd i ≠ 6) (h10 : kd i ≠ 10) (h8 : i ≠ 108) : s0.1 i = fun _ => 0 := by
  have n14 : i ≠ 14 := fun e => h2 (by rw [e]; rfl)
  have n80 : i ≠ 80 := fun e => h6 (by rw [e]; rfl)
  have n82 : i ≠ 82 := fun e => h6 (by rw [e]; rfl)
  have n84 : i ≠ 84 := fun e => h6 (by rw [e]; rfl)
  have n86 : i ≠ 86 := fun e => h6 (by rw [e]; rfl)
  have n88 : i ≠ 88 := fun e => h10 (by rw [e]; rfl)
  funext k
  show (if i = 14 then _ else _) = _
  rw [if_neg n14, if_neg (by omega), if_neg n88, if_neg h8]
theorem ar_I (X : Cx) {i n : Nat} (h : kd i = 100) (hl : ln i = n) (h8 : i ≠ 108) : hE X s0 i = .inl (X.2.2 0, n, .inl (fun _ => 0)) := by
  rw [hE_int X s0 h, hl, s0_k (by rw [h]; decide) (by rw [h]; decide) (by rw [h]; decide) h8]
theorem ar_B (X : Cx) {i n : Nat} (h : kd i = 102) (hl : ln i = n) : hE X s0 i = .inl (X.2.2 2, n, .inl (fun _ => 0)) := by
  rw [hE_byte X s0 h, hl, s0_k (by rw [h]; decide) (by rw [h]; decide) (by rw [h]; decide) (fun e => by rw [e] at h; exact absurd h (by decide))]
theorem ar_J (X : Cx) {i n : Nat} (h : kd i = 101) (hl : ln i = n) : hE X s0 i = .inl (X.2.2 1, n, .inr (.inl (fun _ => 0))) := by
  rw [hE_long X s0 h, hl]; rfl
theorem vO_fin {X : Cx} {w : Nat → va_E} {o cl : Nat} {fs : List Value} (hk : kd o = cl) (hc : cl < 100) (hfs : fs = fsO X s0 cl o) (i : Nat) : vO X w o cl fs i = vD X w o i := by
  unfold vO vD
  by_cases h : i < o
  · rw [if_pos h, if_pos h]
  · rw [if_neg h, if_neg h]
    by_cases e : i = o
    · rw [if_pos e, e, hE_obj X s0 hk hc, hfs]
    · rw [if_neg e]
theorem mX0_init : MI yX0_init MX0_init := ⟨⟨⟨cn1.1, cn1.2.1, dn3⟩, cn1.2.2, rfl, Nat.le_of_ble_eq_true rfl⟩, rfl, ci1, (gw1 142 rfl rfl), (gw1 141 rfl rfl)⟩
theorem df0 : ∀ j, j < 8 → defaultValue (tyX0 j) = vp_V [.int 0, .int 0, .int 0, .int 0, .int 0, .null, .null, .int 0] j := by
  intro j hj
  rcases (show j = 0 ∨ j = 1 ∨ j = 2 ∨ j = 3 ∨ j = 4 ∨ j = 5 ∨ j = 6 ∨ j = 7 by omega) with rfl | rfl | rfl | rfl | rfl | rfl | rfl | rfl <;> rfl
theorem in0 : Cond.instantiable (cT 0).1 8 ∈ GW := gw1 139 rfl rfl
theorem it0 : Cond.initialized (cT 0).1 ∈ GW := ci1
theorem ol0 : Cond.methodLink RX0 3 Lib.objectInit ∈ GW := gw1 143 rfl rfl
theorem mX1_init : MI yX1_init MX1_init := ⟨⟨⟨cn2.1, cn2.2.1, dn3⟩, cn2.2.2, rfl, Nat.le_of_ble_eq_true rfl⟩, rfl, ci2, (gw1 175 rfl rfl), (gw1 174 rfl rfl)⟩
theorem df1 : ∀ j, j < 3 → defaultValue (tyX1 j) = vp_V [.null, .int 0, .int 0] j := by
  intro j hj
  rcases (show j = 0 ∨ j = 1 ∨ j = 2 by omega) with rfl | rfl | rfl <;> rfl
theorem in1 : Cond.instantiable (cT 1).1 3 ∈ GW := gw1 172 rfl rfl
theorem it1 : Cond.initialized (cT 1).1 ∈ GW := ci2
theorem ol1 : Cond.methodLink RX1 3 Lib.objectInit ∈ GW := gw1 176 rfl rfl
theorem mX2_init : MI yX2_init MX2_init := ⟨⟨⟨cn3.1, cn3.2.1, dn3⟩, cn3.2.2, rfl, Nat.le_of_ble_eq_true rfl⟩, rfl, ci3, (gw1 115 rfl rfl), (gw1 114 rfl rfl)⟩
theorem df2 : ∀ j, j < 5 → defaultValue (tyX2 j) = vp_V [.int 0, .int 0, .null, .null, .null] j := by
  intro j hj
  rcases (show j = 0 ∨ j = 1 ∨ j = 2 ∨ j = 3 ∨ j = 4 by omega) with rfl | rfl | rfl | rfl | rfl <;> rfl
theorem in2 : Cond.instantiable (cT 2).1 5 ∈ GW := gw1 112 rfl rfl
theorem it2 : Cond.initialized (cT 2).1 ∈ GW := ci3
theorem ol2 : Cond.methodLink RX2 3 Lib.objectInit ∈ GW := gw1 116 rfl rfl
theorem mX3_init : MI yX3_init MX3_init := ⟨⟨⟨cn4.1, cn4.2.1, dn3⟩, cn4.2.2, rfl, Nat.le_of_ble_eq_true rfl⟩, rfl, ci4, (gw1 191 rfl rfl), (gw1 190 rfl rfl)⟩
theorem df3 : ∀ j, j < 4 → defaultValue (tyX3 j) = vp_V [.int 0, .int 0, .int 0, .null] j := by
  intro j hj
  rcases (show j = 0 ∨ j = 1 ∨ j = 2 ∨ j = 3 by omega) with rfl | rfl | rfl | rfl <;> rfl
theorem in3 : Cond.instantiable (cT 3).1 4 ∈ GW := gw1 188 rfl rfl
theorem it3 : Cond.initialized (cT 3).1 ∈ GW := ci4
theorem ol3 : Cond.methodLink RX3 3 Lib.objectInit ∈ GW := gw1 192 rfl rfl
theorem mX4_init : MI yX4_init MX4_init := ⟨⟨⟨cn5.1, cn5.2.1, dn3⟩, cn5.2.2, rfl, Nat.le_of_ble_eq_true rfl⟩, rfl, ci5, (gw1 80 rfl rfl), (gw1 79 rfl rfl)⟩
theorem df4 : ∀ j, j < 7 → defaultValue (tyX4 j) = vp_V [.int 0, .int 0, .int 0, .int 0, .int 0, .null, .null] j := by
  intro j hj
  rcases (show j = 0 ∨ j = 1 ∨ j = 2 ∨ j = 3 ∨ j = 4 ∨ j = 5 ∨ j = 6 by omega) with rfl | rfl | rfl | rfl | rfl | rfl | rfl <;> rfl
theorem in4 : Cond.instantiable (cT 4).1 7 ∈ GW := gw1 77 rfl rfl
theorem it4 : Cond.initialized (cT 4).1 ∈ GW := ci5
theorem ol4 : Cond.methodLink RX4 3 Lib.objectInit ∈ GW := gw1 81 rfl rfl
theorem mX6_init : MI yX6_init MX6_init := ⟨⟨⟨cn7.1, cn7.2.1, dn3⟩, cn7.2.2, rfl, Nat.le_of_ble_eq_true rfl⟩, rfl, ci7, (gw1 215 rfl rfl), (gw1 214 rfl rfl)⟩
theorem df5 : ∀ j, j < 4 → defaultValue (tyX6 j) = vp_V [.int 0, .int 0, .null, .null] j := by
  intro j hj
  rcases (show j = 0 ∨ j = 1 ∨ j = 2 ∨ j = 3 by omega) with rfl | rfl | rfl | rfl <;> rfl
theorem in5 : Cond.instantiable (cT 5).1 4 ∈ GW := gw1 212 rfl rfl
theorem it5 : Cond.initialized (cT 5).1 ∈ GW := ci7
theorem ol5 : Cond.methodLink RX6 3 Lib.objectInit ∈ GW := gw1 216 rfl rfl
theorem mX7_init : MI yX7_init MX7_init := ⟨⟨⟨cn8.1, cn8.2.1, dn3⟩, cn8.2.2, rfl, Nat.le_of_ble_eq_true rfl⟩, rfl, ci8, (gw2 5 rfl rfl), (gw2 4 rfl rfl)⟩
theorem df6 : ∀ j, j < 3 → defaultValue (tyX7 j) = vp_V [.int 0, .int 0, .null] j := by
  intro j hj
  rcases (show j = 0 ∨ j = 1 ∨ j = 2 by omega) with rfl | rfl | rfl <;> rfl
theorem in6 : Cond.instantiable (cT 6).1 3 ∈ GW := gw2 2 rfl rfl
theorem it6 : Cond.initialized (cT 6).1 ∈ GW := ci8
theorem ol6 : Cond.methodLink RX7 3 Lib.objectInit ∈ GW := gw2 6 rfl rfl
theorem mX8_init : MI yX8_init MX8_init := ⟨⟨⟨cn9.1, cn9.2.1, dn3⟩, cn9.2.2, rfl, Nat.le_of_ble_eq_true rfl⟩, rfl, ci9, (gw1 60 rfl rfl), (gw1 59 rfl rfl)⟩
theorem df7 : ∀ j, j < 4 → defaultValue (tyX8 j) = vp_V [.int 0, .null, .null, .null] j := by
  intro j hj
  rcases (show j = 0 ∨ j = 1 ∨ j = 2 ∨ j = 3 by omega) with rfl | rfl | rfl | rfl <;> rfl
theorem in7 : Cond.instantiable (cT 7).1 4 ∈ GW := gw1 57 rfl rfl
theorem it7 : Cond.initialized (cT 7).1 ∈ GW := ci9
theorem ol7 : Cond.methodLink RX8 3 Lib.objectInit ∈ GW := gw1 61 rfl rfl
theorem mX9_init : MI yX9_init MX9_init := ⟨⟨⟨cn10.1, cn10.2.1, dn3⟩, cn10.2.2, rfl, Nat.le_of_ble_eq_true rfl⟩, rfl, ci10, (gw1 29 rfl rfl), (gw1 28 rfl rfl)⟩
theorem df8 : ∀ j, j < 7 → defaultValue (tyX9 j) = vp_V [.int 0, .int 0, .null, .int 0, .int 0, .int 0, .int 0] j := by
  intro j hj
  rcases (show j = 0 ∨ j = 1 ∨ j = 2 ∨ j = 3 ∨ j = 4 ∨ j = 5 ∨ j = 6 by omega) with rfl | rfl | rfl | rfl | rfl | rfl | rfl <;> rfl
theorem in8 : Cond.instantiable (cT 8).1 7 ∈ GW := gw1 26 rfl rfl
theorem it8 : Cond.initialized (cT 8).1 ∈ GW := ci10
theorem ol8 : Cond.methodLink RX9 3 Lib.objectInit ∈ GW := gw1 30 rfl rfl
theorem mX10_init : MI yX10_init MX10_init := ⟨⟨⟨cn0.1, cn0.2.1, dn3⟩, cn0.2.2, rfl, Nat.le_of_ble_eq_true rfl⟩, rfl, ci0, (gw1 19 rfl rfl), (gw1 18 rfl rfl)⟩
theorem df9 : ∀ j, j < 12 → defaultValue (tyX10 j) = vp_V [.null, .int 0, .null, .null, .null, .null, .null, .null, .null, .null, .null, .null] j := by
  intro j hj
  rcases (show j = 0 ∨ j = 1 ∨ j = 2 ∨ j = 3 ∨ j = 4 ∨ j = 5 ∨ j = 6 ∨ j = 7 ∨ j = 8 ∨ j = 9 ∨ j = 10 ∨ j = 11 by omega) with rfl | rfl | rfl | rfl | rfl | rfl | rfl | rfl | rfl | rfl | rfl | rfl <;> rfl
theorem in9 : Cond.instantiable (cT 9).1 12 ∈ GW := gw1 16 rfl rfl
theorem it9 : Cond.initialized (cT 9).1 ∈ GW := ci0
theorem ol9 : Cond.methodLink RX10 1 Lib.objectInit ∈ GW := gw1 20 rfl rfl
theorem mX11_init : MI yX11_init MX11_init := ⟨⟨⟨cn11.1, cn11.2.1, dn3⟩, cn11.2.2, rfl, Nat.le_of_ble_eq_true rfl⟩, rfl, ci11, (gw4 132 rfl rfl), (gw4 131 rfl rfl)⟩
theorem df10 : ∀ j, j < 38 → defaultValue (tyX11 j) = vp_V [.int 0, .null, .null, .null, .int 0, .int 0, .null, .null, .null, .null, .int 0, .int 0, .int 0, .int 0, .int 0, .int 0, .int 0, .null, .null, .null, .int 0, .int 0, .null, .null, .int 0, .null, .null, .null, .null, .null, .null, .null, .int 0, .int 0, .int 0, .null, .null, .null] j := by
  intro j hj
  rcases (show j = 0 ∨ j = 1 ∨ j = 2 ∨ j = 3 ∨ j = 4 ∨ j = 5 ∨ j = 6 ∨ j = 7 ∨ j = 8 ∨ j = 9 ∨ j = 10 ∨ j = 11 ∨ j = 12 ∨ j = 13 ∨ j = 14 ∨ j = 15 ∨ j = 16 ∨ j = 17 ∨ j = 18 ∨ j = 19 ∨ j = 20 ∨ j = 21 ∨ j = 22 ∨ j = 23 ∨ j = 24 ∨ j = 25 ∨ j = 26 ∨ j = 27 ∨ j = 28 ∨ j = 29 ∨ j = 30 ∨ j = 31 ∨ j = 32 ∨ j = 33 ∨ j = 34 ∨ j = 35 ∨ j = 36 ∨ j = 37 by omega) with rfl | rfl | rfl | rfl | rfl | rfl | rfl | rfl | rfl | rfl | rfl | rfl | rfl | rfl | rfl | rfl | rfl | rfl | rfl | rfl | rfl | rfl | rfl | rfl | rfl | rfl | rfl | rfl | rfl | rfl | rfl | rfl | rfl | rfl | rfl | rfl | rfl | rfl <;> rfl
theorem in10 : Cond.instantiable (cT 10).1 38 ∈ GW := gw4 129 rfl rfl
theorem it10 : Cond.initialized (cT 10).1 ∈ GW := ci11
theorem ol10 : Cond.methodLink RX11 1 Lib.objectInit ∈ GW := gw4 133 rfl rfl
theorem cl9_9 : Cond.classLink RX10 9 (cT 5).1 ∈ GW := gw1 23 rfl rfl
theorem cl9_15 : Cond.classLink RX10 15 (cT 8).1 ∈ GW := gw1 25 rfl rfl
theorem li9_17 : Li RX10 17 yX9_init := Or.inr ⟨"CarryNets", nw (ts1 27 rfl) rfl⟩
theorem cl9_22 : Cond.classLink RX10 22 (cT 7).1 ∈ GW := gw1 56 rfl rfl
theorem li9_24 : Li RX10 24 yX8_init := Or.inr ⟨"CarryNets", nw (ts1 58 rfl) rfl⟩
theorem cl9_29 : Cond.classLink RX10 29 (cT 4).1 ∈ GW := gw1 76 rfl rfl
theorem li9_31 : Li RX10 31 yX4_init := Or.inr ⟨"CarryNets", nw (ts1 78 rfl) rfl⟩
theorem cl4_9 : Cond.classLink RX4 9 (cT 7).1 ∈ GW := gw1 82 rfl rfl
theorem li4_11 : Li RX4 11 yX8_init := Or.inr ⟨"CarryNets", nw (ts1 83 rfl) rfl⟩
theorem cl9_36 : Cond.classLink RX10 36 (cT 2).1 ∈ GW := gw1 111 rfl rfl
theorem li9_38 : Li RX10 38 yX2_init := Or.inr ⟨"CarryNets", nw (ts1 113 rfl) rfl⟩
theorem cl2_25 : Cond.classLink RX2 25 (cT 7).1 ∈ GW := gw1 117 rfl rfl
theorem li2_27 : Li RX2 27 yX8_init := Or.inr ⟨"CarryNets", nw (ts1 118 rfl) rfl⟩
theorem cl9_43 : Cond.classLink RX10 43 (cT 0).1 ∈ GW := gw1 138 rfl rfl
theorem li9_45 : Li RX10 45 yX0_init := Or.inr ⟨"CarryNets", nw (ts1 140 rfl) rfl⟩
theorem cl9_50 : Cond.classLink RX10 50 (cT 1).1 ∈ GW := gw1 171 rfl rfl
theorem li9_52 : Li RX10 52 yX1_init := Or.inr ⟨"CarryNets", nw (ts1 173 rfl) rfl⟩
theorem cl9_61 : Cond.classLink RX10 61 (cT 3).1 ∈ GW := gw1 187 rfl rfl
theorem li9_63 : Li RX10 63 yX3_init := Or.inr ⟨"CarryNets", nw (ts1 189 rfl) rfl⟩
theorem cl9_71 : Cond.classLink RX10 71 (cT 6).1 ∈ GW := gw1 210 rfl rfl
theorem li9_77 : Li RX10 77 yX6_init := Or.inr ⟨"CarryNets", nw (ts1 213 rfl) rfl⟩
theorem cl5_9 : Cond.classLink RX6 9 (cT 7).1 ∈ GW := gw1 217 rfl rfl
theorem li5_11 : Li RX6 11 yX8_init := Or.inr ⟨"CarryNets", nw (ts1 218 rfl) rfl⟩
theorem li9_78 : Li RX10 78 yX7_init := Or.inr ⟨"CarryNets", nw (ts2 3 rfl) rfl⟩
theorem eX8_init_0 : decode MX8_init.2.1 0 = .ok (.aload_n 0, 1) := by decide +kernel
theorem eX8_init_1 : decode MX8_init.2.1 1 = .ok (.invokespecial 3, 3) := by decide +kernel
theorem eX8_init_4 : decode MX8_init.2.1 4 = .ok (.aload_n 0, 1) := by decide +kernel
theorem eX8_init_5 : decode MX8_init.2.1 5 = .ok (.bipush 32, 2) := by decide +kernel
theorem eX8_init_7 : decode MX8_init.2.1 7 = .ok (.newarray .int, 2) := by decide +kernel
theorem eX8_init_9 : decode MX8_init.2.1 9 = .ok (.putfield 9, 3) := by decide +kernel
theorem eX8_init_12 : decode MX8_init.2.1 12 = .ok (.aload_n 0, 1) := by decide +kernel
theorem eX8_init_13 : decode MX8_init.2.1 13 = .ok (.bipush 32, 2) := by decide +kernel
theorem eX8_init_15 : decode MX8_init.2.1 15 = .ok (.newarray .int, 2) := by decide +kernel
theorem eX8_init_17 : decode MX8_init.2.1 17 = .ok (.putfield 15, 3) := by decide +kernel
theorem eX8_init_20 : decode MX8_init.2.1 20 = .ok (.aload_n 0, 1) := by decide +kernel
theorem eX8_init_21 : decode MX8_init.2.1 21 = .ok (.bipush 32, 2) := by decide +kernel
theorem eX8_init_23 : decode MX8_init.2.1 23 = .ok (.newarray .int, 2) := by decide +kernel
theorem eX8_init_25 : decode MX8_init.2.1 25 = .ok (.putfield 18, 3) := by decide +kernel
theorem eX8_init_28 : decode MX8_init.2.1 28 = .ok (.return_, 1) := by decide +kernel
theorem of7 : ∀ o, o < NC → kd o = 7 → o + 4 ≤ 88 ∧ (kd (o + 1) = 100 ∧ ln (o + 1) = 32) ∧ gr o 1 = o + 1 ∧ (kd (o + 1 + 1) = 100 ∧ ln (o + 1 + 1) = 32) ∧ gr o 2 = o + 1 + 1 ∧ (kd (o + 1 + 1 + 1) = 100 ∧ ln (o + 1 + 1 + 1) = 32) ∧ gr o 3 = o + 1 + 1 + 1 := by decide +kernel
theorem kX8 (o : Nat) (ho : o < NC) (hk : kd o = 7) : Kt yX8_init MX8_init 1 3 96 o (o + 4) 7 [.int 0, .null, .null, .null] := by
  obtain ⟨hz, h1, g1, h2, g2, h3, g3⟩ := of7 o ho hk
  have hs : s0.1 o = fun _ => 0 := s0_k (by rw [hk]; decide) (by rw [hk]; decide) (by rw [hk]; decide) (by omega)
  refine Kt.of mX8_init.1 rfl rfl (Nat.le_of_ble_eq_true rfl) (fun X w p l e s m args below meth c H0 Z F hm fin => ?_)
  refine c_aload_n F 0 eX8_init_0 rfl rfl ?_
  refine c_objInit F ol7 oi_n oi_c rfl (Nat.le_of_ble_eq_true rfl) (Nat.le_of_ble_eq_true rfl) eX8_init_1 ?_
  refine c_aload_n F 0 eX8_init_4 rfl rfl ?_
  refine c_bipush F eX8_init_5 (v := 32) rfl ?_
  refine c_newa F (ty := .int) (j := 0) (n := 32) (a0 := (32, .inl (fun _ => 0))) (by show _ < 111; omega) rfl rfl (fun C h => by cases h) ac_I (by rw [vO_hi (by omega)]; exact ar_I X h1.1 h1.2 (by omega)) (fun _ => rfl) (by decide) rfl (by decide) (Nat.le_of_ble_eq_true rfl) (Nat.le_of_ble_eq_true rfl) eX8_init_7 ?_
  refine c_putF F (v := .ref (o + 1)) flX8_9 hm (by omega) (by show _ ≤ 111; omega) vO_at rfl rfl (tyX8_ok 1 (by decide)) rfl rfl (Nat.le_of_ble_eq_true rfl) eX8_init_9 ?_
  rw [vO_u]
  refine c_aload_n F 0 eX8_init_12 rfl rfl ?_
  refine c_bipush F eX8_init_13 (v := 32) rfl ?_
  refine c_newa F (ty := .int) (j := 0) (n := 32) (a0 := (32, .inl (fun _ => 0))) (by show _ < 111; omega) rfl rfl (fun C h => by cases h) ac_I (by rw [vO_hi (by omega)]; exact ar_I X h2.1 h2.2 (by omega)) (fun _ => rfl) (by decide) rfl (by decide) (Nat.le_of_ble_eq_true rfl) (Nat.le_of_ble_eq_true rfl) eX8_init_15 ?_
  refine c_putF F (v := .ref (o + 1 + 1)) flX8_15 hm (by omega) (by show _ ≤ 111; omega) vO_at rfl rfl (tyX8_ok 2 (by decide)) rfl rfl (Nat.le_of_ble_eq_true rfl) eX8_init_17 ?_
  rw [vO_u]
  refine c_aload_n F 0 eX8_init_20 rfl rfl ?_
  refine c_bipush F eX8_init_21 (v := 32) rfl ?_
  refine c_newa F (ty := .int) (j := 0) (n := 32) (a0 := (32, .inl (fun _ => 0))) (by show _ < 111; omega) rfl rfl (fun C h => by cases h) ac_I (by rw [vO_hi (by omega)]; exact ar_I X h3.1 h3.2 (by omega)) (fun _ => rfl) (by decide) rfl (by decide) (Nat.le_of_ble_eq_true rfl) (Nat.le_of_ble_eq_true rfl) eX8_init_23 ?_
  refine c_putF F (v := .ref (o + 1 + 1 + 1)) flX8_18 hm (by omega) (by show _ ≤ 111; omega) vO_at rfl rfl (tyX8_ok 3 (by decide)) rfl rfl (Nat.le_of_ble_eq_true rfl) eX8_init_25 ?_
  rw [vO_u]
  have efs : ([.int 0, .ref (X.2.1 (o + 1)), .ref (X.2.1 (o + 1 + 1)), .ref (X.2.1 (o + 1 + 1 + 1))] : List Value) = fsO X s0 7 o := by
    show _ = [Value.int (s0.1 o 0), Value.ref (X.2.1 (gr o 1)), Value.ref (X.2.1 (gr o 2)), Value.ref (X.2.1 (gr o 3))]
    rw [g1, g2, g3, hs]
  exact fin _ _ _ eX8_init_28 (fun i _ => vO_fin hk (by decide) efs i)
theorem eX9_init_0 : decode MX9_init.2.1 0 = .ok (.aload_n 0, 1) := by decide +kernel
theorem eX9_init_1 : decode MX9_init.2.1 1 = .ok (.invokespecial 3, 3) := by decide +kernel
theorem eX9_init_4 : decode MX9_init.2.1 4 = .ok (.aload_n 0, 1) := by decide +kernel
theorem eX9_init_5 : decode MX9_init.2.1 5 = .ok (.sipush 240, 3) := by decide +kernel
theorem eX9_init_8 : decode MX9_init.2.1 8 = .ok (.newarray .byte, 2) := by decide +kernel
theorem eX9_init_10 : decode MX9_init.2.1 10 = .ok (.putfield 9, 3) := by decide +kernel
theorem eX9_init_13 : decode MX9_init.2.1 13 = .ok (.return_, 1) := by decide +kernel
theorem kX9 (o : Nat) (ho : o < NC) (hk : kd o = 8) : Kt yX9_init MX9_init 1 1 240 o (o + 2) 8 [.int 0, .int 0, .null, .int 0, .int 0, .int 0, .int 0] := by
  have e : o = 2 := (show ∀ o, o < NC → kd o = 8 → o = 2 by decide +kernel) o ho hk
  subst e
  refine Kt.of mX9_init.1 rfl rfl (Nat.le_of_ble_eq_true rfl) (fun X w p l e s m args below meth c H0 Z F hm fin => ?_)
  refine c_aload_n F 0 eX9_init_0 rfl rfl ?_
  refine c_objInit F ol8 oi_n oi_c rfl (Nat.le_of_ble_eq_true rfl) (Nat.le_of_ble_eq_true rfl) eX9_init_1 ?_
  refine c_aload_n F 0 eX9_init_4 rfl rfl ?_
  refine c_sipush F eX9_init_5 (v := 240) rfl ?_
  refine c_newa F (ty := .byte) (j := 2) (n := 240) (a0 := (240, .inl (fun _ => 0))) (by decide) rfl rfl (fun C h => by cases h) ac_B (by rw [vO_hi (by omega)]; exact ar_B X rfl rfl) (fun _ => rfl) (by decide) rfl (by decide) (Nat.le_of_ble_eq_true rfl) (Nat.le_of_ble_eq_true rfl) eX9_init_8 ?_
  refine c_putF F (v := .ref (2 + 1)) flX9_9 hm (by decide) (by decide) vO_at rfl rfl (tyX9_ok 2 (by decide)) rfl rfl (Nat.le_of_ble_eq_true rfl) eX9_init_10 ?_
  rw [vO_u]
  exact fin _ _ _ eX9_init_13 (fun i _ => vO_fin rfl (by decide) rfl i)
theorem eX3_init_0 : decode MX3_init.2.1 0 = .ok (.aload_n 0, 1) := by decide +kernel
theorem eX3_init_1 : decode MX3_init.2.1 1 = .ok (.invokespecial 3, 3) := by decide +kernel
theorem eX3_init_4 : decode MX3_init.2.1 4 = .ok (.aload_n 0, 1) := by decide +kernel
theorem eX3_init_5 : decode MX3_init.2.1 5 = .ok (.bipush 12, 2) := by decide +kernel
theorem eX3_init_7 : decode MX3_init.2.1 7 = .ok (.newarray .int, 2) := by decide +kernel
theorem eX3_init_9 : decode MX3_init.2.1 9 = .ok (.putfield 9, 3) := by decide +kernel
theorem eX3_init_12 : decode MX3_init.2.1 12 = .ok (.return_, 1) := by decide +kernel
theorem of3 : ∀ o, o < NC → kd o = 3 → o + 2 ≤ 88 ∧ (kd (o + 1) = 100 ∧ ln (o + 1) = 12) ∧ gr o 3 = o + 1 := by decide +kernel
theorem kX3 (o : Nat) (ho : o < NC) (hk : kd o = 3) : Kt yX3_init MX3_init 1 1 12 o (o + 2) 3 [.int 0, .int 0, .int 0, .null] := by
  obtain ⟨hz, h1, g3⟩ := of3 o ho hk
  have hs : s0.1 o = fun _ => 0 := s0_k (by rw [hk]; decide) (by rw [hk]; decide) (by rw [hk]; decide) (by omega)
  refine Kt.of mX3_init.1 rfl rfl (Nat.le_of_ble_eq_true rfl) (fun X w p l e s m args below meth c H0 Z F hm fin => ?_)
  refine c_aload_n F 0 eX3_init_0 rfl rfl ?_
  refine c_objInit F ol3 oi_n oi_c rfl (Nat.le_of_ble_eq_true rfl) (Nat.le_of_ble_eq_true rfl) eX3_init_1 ?_
  refine c_aload_n F 0 eX3_init_4 rfl rfl ?_
  refine c_bipush F eX3_init_5 (v := 12) rfl ?_
  refine c_newa F (ty := .int) (j := 0) (n := 12) (a0 := (12, .inl (fun _ => 0))) (by show _ < 111; omega) rfl rfl (fun C h => by cases h) ac_I (by rw [vO_hi (by omega)]; exact ar_I X h1.1 h1.2 (by omega)) (fun _ => rfl) (by decide) rfl (by decide) (Nat.le_of_ble_eq_true rfl) (Nat.le_of_ble_eq_true rfl) eX3_init_7 ?_
  refine c_putF F (v := .ref (o + 1)) flX3_9 hm (by omega) (by show _ ≤ 111; omega) vO_at rfl rfl (tyX3_ok 3 (by decide)) rfl rfl (Nat.le_of_ble_eq_true rfl) eX3_init_9 ?_
  rw [vO_u]
  have efs : ([.int 0, .int 0, .int 0, .ref (X.2.1 (o + 1))] : List Value) = fsO X s0 3 o := by
    show _ = [Value.int (s0.1 o 0), Value.int (s0.1 o 1), Value.int (s0.1 o 2), Value.ref (X.2.1 (gr o 3))]
    rw [g3, hs]
  exact fin _ _ _ eX3_init_12 (fun i _ => vO_fin hk (by decide) efs i)
theorem eX1_init_0 : decode MX1_init.2.1 0 = .ok (.aload_n 0, 1) := by decide +kernel
theorem eX1_init_1 : decode MX1_init.2.1 1 = .ok (.invokespecial 3, 3) := by decide +kernel
theorem eX1_init_4 : decode MX1_init.2.1 4 = .ok (.aload_n 0, 1) := by decide +kernel
theorem eX1_init_5 : decode MX1_init.2.1 5 = .ok (.sipush 429, 3) := by decide +kernel
theorem eX1_init_8 : decode MX1_init.2.1 8 = .ok (.newarray .int, 2) := by decide +kernel
theorem eX1_init_10 : decode MX1_init.2.1 10 = .ok (.putfield 11, 3) := by decide +kernel
theorem eX1_init_13 : decode MX1_init.2.1 13 = .ok (.return_, 1) := by decide +kernel
theorem kX1 (o : Nat) (ho : o < NC) (hk : kd o = 1) : Kt yX1_init MX1_init 1 1 429 o (o + 2) 1 [.null, .int 0, .int 0] := by
  have e : o = 24 := (show ∀ o, o < NC → kd o = 1 → o = 24 by decide +kernel) o ho hk
  subst e
  refine Kt.of mX1_init.1 rfl rfl (Nat.le_of_ble_eq_true rfl) (fun X w p l e s m args below meth c H0 Z F hm fin => ?_)
  refine c_aload_n F 0 eX1_init_0 rfl rfl ?_
  refine c_objInit F ol1 oi_n oi_c rfl (Nat.le_of_ble_eq_true rfl) (Nat.le_of_ble_eq_true rfl) eX1_init_1 ?_
  refine c_aload_n F 0 eX1_init_4 rfl rfl ?_
  refine c_sipush F eX1_init_5 (v := 429) rfl ?_
  refine c_newa F (ty := .int) (j := 0) (n := 429) (a0 := (429, .inl (fun _ => 0))) (by decide) rfl rfl (fun C h => by cases h) ac_I (by rw [vO_hi (by omega)]; exact ar_I X rfl rfl (by decide)) (fun _ => rfl) (by decide) rfl (by decide) (Nat.le_of_ble_eq_true rfl) (Nat.le_of_ble_eq_true rfl) eX1_init_8 ?_
  refine c_putF F (v := .ref (24 + 1)) flX1_11 hm (by decide) (by decide) vO_at rfl rfl (tyX1_ok 0 (by decide)) rfl rfl (Nat.le_of_ble_eq_true rfl) eX1_init_10 ?_
  rw [vO_u]
  exact fin _ _ _ eX1_init_13 (fun i _ => vO_fin rfl (by decide) rfl i)
theorem eX0_init_0 : decode MX0_init.2.1 0 = .ok (.aload_n 0, 1) := by decide +kernel
theorem eX0_init_1 : decode MX0_init.2.1 1 = .ok (.invokespecial 3, 3) := by decide +kernel
theorem eX0_init_4 : decode MX0_init.2.1 4 = .ok (.aload_n 0, 1) := by decide +kernel
theorem eX0_init_5 : decode MX0_init.2.1 5 = .ok (.bipush 6, 2) := by decide +kernel
theorem eX0_init_7 : decode MX0_init.2.1 7 = .ok (.newarray .int, 2) := by decide +kernel
theorem eX0_init_9 : decode MX0_init.2.1 9 = .ok (.putfield 9, 3) := by decide +kernel
theorem eX0_init_12 : decode MX0_init.2.1 12 = .ok (.aload_n 0, 1) := by decide +kernel
theorem eX0_init_13 : decode MX0_init.2.1 13 = .ok (.bipush 6, 2) := by decide +kernel
theorem eX0_init_15 : decode MX0_init.2.1 15 = .ok (.newarray .int, 2) := by decide +kernel
theorem eX0_init_17 : decode MX0_init.2.1 17 = .ok (.putfield 15, 3) := by decide +kernel
theorem eX0_init_20 : decode MX0_init.2.1 20 = .ok (.return_, 1) := by decide +kernel
theorem kX0 (o : Nat) (ho : o < NC) (hk : kd o = 0) : Kt yX0_init MX0_init 1 2 12 o (o + 3) 0 [.int 0, .int 0, .int 0, .int 0, .int 0, .null, .null, .int 0] := by
  have e : o = 21 := (show ∀ o, o < NC → kd o = 0 → o = 21 by decide +kernel) o ho hk
  subst e
  refine Kt.of mX0_init.1 rfl rfl (Nat.le_of_ble_eq_true rfl) (fun X w p l e s m args below meth c H0 Z F hm fin => ?_)
  refine c_aload_n F 0 eX0_init_0 rfl rfl ?_
  refine c_objInit F ol0 oi_n oi_c rfl (Nat.le_of_ble_eq_true rfl) (Nat.le_of_ble_eq_true rfl) eX0_init_1 ?_
  refine c_aload_n F 0 eX0_init_4 rfl rfl ?_
  refine c_bipush F eX0_init_5 (v := 6) rfl ?_
  refine c_newa F (ty := .int) (j := 0) (n := 6) (a0 := (6, .inl (fun _ => 0))) (by decide) rfl rfl (fun C h => by cases h) ac_I (by rw [vO_hi (by omega)]; exact ar_I X rfl rfl (by decide)) (fun _ => rfl) (by decide) rfl (by decide) (Nat.le_of_ble_eq_true rfl) (Nat.le_of_ble_eq_true rfl) eX0_init_7 ?_
  refine c_putF F (v := .ref (21 + 1)) flX0_9 hm (by decide) (by decide) vO_at rfl rfl (tyX0_ok 5 (by decide)) rfl rfl (Nat.le_of_ble_eq_true rfl) eX0_init_9 ?_
  rw [vO_u]
  refine c_aload_n F 0 eX0_init_12 rfl rfl ?_
  refine c_bipush F eX0_init_13 (v := 6) rfl ?_
  refine c_newa F (ty := .int) (j := 0) (n := 6) (a0 := (6, .inl (fun _ => 0))) (by decide) rfl rfl (fun C h => by cases h) ac_I (by rw [vO_hi (by omega)]; exact ar_I X rfl rfl (by decide)) (fun _ => rfl) (by decide) rfl (by decide) (Nat.le_of_ble_eq_true rfl) (Nat.le_of_ble_eq_true rfl) eX0_init_15 ?_
  refine c_putF F (v := .ref (21 + 1 + 1)) flX0_15 hm (by decide) (by decide) vO_at rfl rfl (tyX0_ok 6 (by decide)) rfl rfl (Nat.le_of_ble_eq_true rfl) eX0_init_17 ?_
  rw [vO_u]
  exact fin _ _ _ eX0_init_20 (fun i _ => vO_fin rfl (by decide) rfl i)
theorem eX7_init_0 : decode MX7_init.2.1 0 = .ok (.aload_n 0, 1) := by decide +kernel
theorem eX7_init_1 : decode MX7_init.2.1 1 = .ok (.invokespecial 3, 3) := by decide +kernel
theorem eX7_init_4 : decode MX7_init.2.1 4 = .ok (.aload_n 0, 1) := by decide +kernel
theorem eX7_init_5 : decode MX7_init.2.1 5 = .ok (.bipush (-4), 2) := by decide +kernel
theorem eX7_init_7 : decode MX7_init.2.1 7 = .ok (.putfield 9, 3) := by decide +kernel
theorem eX7_init_10 : decode MX7_init.2.1 10 = .ok (.aload_n 0, 1) := by decide +kernel
theorem eX7_init_11 : decode MX7_init.2.1 11 = .ok (.bipush 60, 2) := by decide +kernel
theorem eX7_init_13 : decode MX7_init.2.1 13 = .ok (.newarray .int, 2) := by decide +kernel
theorem eX7_init_15 : decode MX7_init.2.1 15 = .ok (.putfield 15, 3) := by decide +kernel
theorem eX7_init_18 : decode MX7_init.2.1 18 = .ok (.return_, 1) := by decide +kernel
theorem of6 : ∀ o, o < NC → kd o = 6 → o + 2 ≤ 88 ∧ (kd (o + 1) = 100 ∧ ln (o + 1) = 60) ∧ gr o 2 = o + 1 := by decide +kernel
theorem ofs6 : ∀ o, o < NC → kd o = 6 → o = 80 ∨ o = 82 ∨ o = 84 ∨ o = 86 := by decide +kernel
theorem kX7 (o : Nat) (ho : o < NC) (hk : kd o = 6) : Kt yX7_init MX7_init 1 1 60 o (o + 2) 6 [.int 0, .int 0, .null] := by
  obtain ⟨hz, h1, g2⟩ := of6 o ho hk
  have hs : s0.1 o = fun k => if k = 1 then -4 else 0 := by
    have : o = 80 ∨ o = 82 ∨ o = 84 ∨ o = 86 := ofs6 o ho hk
    rcases this with rfl | rfl | rfl | rfl <;> rfl
  refine Kt.of mX7_init.1 rfl rfl (Nat.le_of_ble_eq_true rfl) (fun X w p l e s m args below meth c H0 Z F hm fin => ?_)
  refine c_aload_n F 0 eX7_init_0 rfl rfl ?_
  refine c_objInit F ol6 oi_n oi_c rfl (Nat.le_of_ble_eq_true rfl) (Nat.le_of_ble_eq_true rfl) eX7_init_1 ?_
  refine c_aload_n F 0 eX7_init_4 rfl rfl ?_
  refine c_bipush F eX7_init_5 (v := (-4)) rfl ?_
  refine c_put F (v := .int (-4)) flX7_9 (by omega) (by show _ ≤ 111; omega) vO_at rfl (tyX7_ok 1 (by decide)) rfl rfl (Nat.le_of_ble_eq_true rfl) eX7_init_7 ?_
  rw [vO_u]
  refine c_aload_n F 0 eX7_init_10 rfl rfl ?_
  refine c_bipush F eX7_init_11 (v := 60) rfl ?_
  refine c_newa F (ty := .int) (j := 0) (n := 60) (a0 := (60, .inl (fun _ => 0))) (by show _ < 111; omega) rfl rfl (fun C h => by cases h) ac_I (by rw [vO_hi (by omega)]; exact ar_I X h1.1 h1.2 (by omega)) (fun _ => rfl) (by decide) rfl (by decide) (Nat.le_of_ble_eq_true rfl) (Nat.le_of_ble_eq_true rfl) eX7_init_13 ?_
  refine c_putF F (v := .ref (o + 1)) flX7_15 hm (by omega) (by show _ ≤ 111; omega) vO_at rfl rfl (tyX7_ok 2 (by decide)) rfl rfl (Nat.le_of_ble_eq_true rfl) eX7_init_15 ?_
  rw [vO_u]
  have efs : ([.int 0, .int (-4), .ref (X.2.1 (o + 1))] : List Value) = fsO X s0 6 o := by
    show _ = [Value.int (s0.1 o 0), Value.int (s0.1 o 1), Value.ref (X.2.1 (gr o 2))]
    rw [g2, hs]; rfl
  exact fin _ _ _ eX7_init_18 (fun i _ => vO_fin hk (by decide) efs i)
theorem eX4_init_0 : decode MX4_init.2.1 0 = .ok (.aload_n 0, 1) := by decide +kernel
theorem eX4_init_1 : decode MX4_init.2.1 1 = .ok (.invokespecial 3, 3) := by decide +kernel
theorem eX4_init_4 : decode MX4_init.2.1 4 = .ok (.aload_n 0, 1) := by decide +kernel
theorem eX4_init_5 : decode MX4_init.2.1 5 = .ok (.new 9, 3) := by decide +kernel
theorem eX4_init_8 : decode MX4_init.2.1 8 = .ok (.dup, 1) := by decide +kernel
theorem eX4_init_9 : decode MX4_init.2.1 9 = .ok (.invokespecial 11, 3) := by decide +kernel
theorem eX4_init_12 : decode MX4_init.2.1 12 = .ok (.putfield 12, 3) := by decide +kernel
theorem eX4_init_15 : decode MX4_init.2.1 15 = .ok (.aload_n 0, 1) := by decide +kernel
theorem eX4_init_16 : decode MX4_init.2.1 16 = .ok (.bipush 32, 2) := by decide +kernel
theorem eX4_init_18 : decode MX4_init.2.1 18 = .ok (.newarray .int, 2) := by decide +kernel
theorem eX4_init_20 : decode MX4_init.2.1 20 = .ok (.putfield 18, 3) := by decide +kernel
theorem eX4_init_23 : decode MX4_init.2.1 23 = .ok (.return_, 1) := by decide +kernel
theorem kX4 (o : Nat) (ho : o < NC) (hk : kd o = 4) : Kt yX4_init MX4_init 2 5 132 o (o + 6) 4 [.int 0, .int 0, .int 0, .int 0, .int 0, .null, .null] := by
  have e : o = 8 := (show ∀ o, o < NC → kd o = 4 → o = 8 by decide +kernel) o ho hk
  subst e
  refine Kt.of mX4_init.1 rfl rfl (Nat.le_of_ble_eq_true rfl) (fun X w p l e s m args below meth c H0 Z F hm fin => ?_)
  refine c_aload_n F 0 eX4_init_0 rfl rfl ?_
  refine c_objInit F ol4 oi_n oi_c rfl (Nat.le_of_ble_eq_true rfl) (Nat.le_of_ble_eq_true rfl) eX4_init_1 ?_
  refine c_aload_n F 0 eX4_init_4 rfl rfl ?_
  refine c_make F (cn := RX8) (by1 := cX8_init) (mL := 1) (kX8 (8 + 1) (by decide) rfl) mX8_init li4_11 tyX8 lay7 rfl tyX8_ok cl4_9 in7 it7 (by decide) (fun i h1 _ => vO_hi (by omega)) df7 rfl (Nat.le_of_ble_eq_true rfl) (Nat.le_of_ble_eq_true rfl) (Nat.le_of_ble_eq_true rfl) (Nat.le_of_ble_eq_true rfl) (Nat.le_of_ble_eq_true rfl) eX4_init_5 eX4_init_8 eX4_init_9 ?_
  refine c_putF F (v := .ref (8 + 1)) flX4_12 hm (by decide) (by decide) vO_at rfl rfl (tyX4_ok 5 (by decide)) rfl rfl (Nat.le_of_ble_eq_true rfl) eX4_init_12 ?_
  rw [vO_u]
  refine c_aload_n F 0 eX4_init_15 rfl rfl ?_
  refine c_bipush F eX4_init_16 (v := 32) rfl ?_
  refine c_newa F (ty := .int) (j := 0) (n := 32) (a0 := (32, .inl (fun _ => 0))) (by decide) rfl rfl (fun C h => by cases h) ac_I (by rw [vO_hi (by omega)]; exact ar_I X rfl rfl (by decide)) (fun _ => rfl) (by decide) rfl (by decide) (Nat.le_of_ble_eq_true rfl) (Nat.le_of_ble_eq_true rfl) eX4_init_18 ?_
  refine c_putF F (v := .ref (8 + 1 + 4)) flX4_18 hm (by decide) (by decide) vO_at rfl rfl (tyX4_ok 6 (by decide)) rfl rfl (Nat.le_of_ble_eq_true rfl) eX4_init_20 ?_
  rw [vO_u]
  exact fin _ _ _ eX4_init_23 (fun i _ => vO_fin rfl (by decide) rfl i)
theorem eX6_init_0 : decode MX6_init.2.1 0 = .ok (.aload_n 0, 1) := by decide +kernel
theorem eX6_init_1 : decode MX6_init.2.1 1 = .ok (.invokespecial 3, 3) := by decide +kernel
theorem eX6_init_4 : decode MX6_init.2.1 4 = .ok (.aload_n 0, 1) := by decide +kernel
theorem eX6_init_5 : decode MX6_init.2.1 5 = .ok (.new 9, 3) := by decide +kernel
theorem eX6_init_8 : decode MX6_init.2.1 8 = .ok (.dup, 1) := by decide +kernel
theorem eX6_init_9 : decode MX6_init.2.1 9 = .ok (.invokespecial 11, 3) := by decide +kernel
theorem eX6_init_12 : decode MX6_init.2.1 12 = .ok (.putfield 12, 3) := by decide +kernel
theorem eX6_init_15 : decode MX6_init.2.1 15 = .ok (.aload_n 0, 1) := by decide +kernel
theorem eX6_init_16 : decode MX6_init.2.1 16 = .ok (.bipush 32, 2) := by decide +kernel
theorem eX6_init_18 : decode MX6_init.2.1 18 = .ok (.newarray .int, 2) := by decide +kernel
theorem eX6_init_20 : decode MX6_init.2.1 20 = .ok (.putfield 18, 3) := by decide +kernel
theorem eX6_init_23 : decode MX6_init.2.1 23 = .ok (.return_, 1) := by decide +kernel
theorem of5 : ∀ o, o < NC → kd o = 5 → o + 6 ≤ 88 ∧ kd (o + 1) = 7 ∧ gr o 2 = o + 1 ∧ (kd (o + 1 + 4) = 100 ∧ ln (o + 1 + 4) = 32) ∧ gr o 3 = o + 1 + 4 := by decide +kernel
theorem kX6 (o : Nat) (ho : o < NC) (hk : kd o = 5) : Kt yX6_init MX6_init 2 5 132 o (o + 6) 5 [.int 0, .int 0, .null, .null] := by
  obtain ⟨hz, h1, g2, h5, g3⟩ := of5 o ho hk
  have hs : s0.1 o = fun _ => 0 := s0_k (by rw [hk]; decide) (by rw [hk]; decide) (by rw [hk]; decide) (by omega)
  refine Kt.of mX6_init.1 rfl rfl (Nat.le_of_ble_eq_true rfl) (fun X w p l e s m args below meth c H0 Z F hm fin => ?_)
  refine c_aload_n F 0 eX6_init_0 rfl rfl ?_
  refine c_objInit F ol5 oi_n oi_c rfl (Nat.le_of_ble_eq_true rfl) (Nat.le_of_ble_eq_true rfl) eX6_init_1 ?_
  refine c_aload_n F 0 eX6_init_4 rfl rfl ?_
  refine c_make F (cn := RX8) (by1 := cX8_init) (mL := 1) (kX8 (o + 1) (by show _ < 111; omega) h1) mX8_init li5_11 tyX8 lay7 rfl tyX8_ok cl5_9 in7 it7 (by show _ < 111; omega) (fun i h1 _ => vO_hi (by omega)) df7 rfl (Nat.le_of_ble_eq_true rfl) (Nat.le_of_ble_eq_true rfl) (Nat.le_of_ble_eq_true rfl) (Nat.le_of_ble_eq_true rfl) (Nat.le_of_ble_eq_true rfl) eX6_init_5 eX6_init_8 eX6_init_9 ?_
  refine c_putF F (v := .ref (o + 1)) flX6_12 hm (by omega) (by show _ ≤ 111; omega) vO_at rfl rfl (tyX6_ok 2 (by decide)) rfl rfl (Nat.le_of_ble_eq_true rfl) eX6_init_12 ?_
  rw [vO_u]
  refine c_aload_n F 0 eX6_init_15 rfl rfl ?_
  refine c_bipush F eX6_init_16 (v := 32) rfl ?_
  refine c_newa F (ty := .int) (j := 0) (n := 32) (a0 := (32, .inl (fun _ => 0))) (by show _ < 111; omega) rfl rfl (fun C h => by cases h) ac_I (by rw [vO_hi (by omega)]; exact ar_I X h5.1 h5.2 (by omega)) (fun _ => rfl) (by decide) rfl (by decide) (Nat.le_of_ble_eq_true rfl) (Nat.le_of_ble_eq_true rfl) eX6_init_18 ?_
  refine c_putF F (v := .ref (o + 1 + 4)) flX6_18 hm (by omega) (by show _ ≤ 111; omega) vO_at rfl rfl (tyX6_ok 3 (by decide)) rfl rfl (Nat.le_of_ble_eq_true rfl) eX6_init_20 ?_
  rw [vO_u]
  have efs : ([.int 0, .int 0, .ref (X.2.1 (o + 1)), .ref (X.2.1 (o + 1 + 4))] : List Value) = fsO X s0 5 o := by
    show _ = [Value.int (s0.1 o 0), Value.int (s0.1 o 1), Value.ref (X.2.1 (gr o 2)), Value.ref (X.2.1 (gr o 3))]
    rw [g2, g3, hs]
  exact fin _ _ _ eX6_init_23 (fun i _ => vO_fin hk (by decide) efs i)
theorem eX2_init_0 : decode MX2_init.2.1 0 = .ok (.aload_n 0, 1) := by decide +kernel
theorem eX2_init_1 : decode MX2_init.2.1 1 = .ok (.invokespecial 3, 3) := by decide +kernel
theorem eX2_init_4 : decode MX2_init.2.1 4 = .ok (.aload_n 0, 1) := by decide +kernel
theorem eX2_init_5 : decode MX2_init.2.1 5 = .ok (.iconst 2, 1) := by decide +kernel
theorem eX2_init_6 : decode MX2_init.2.1 6 = .ok (.putfield 9, 3) := by decide +kernel
theorem eX2_init_9 : decode MX2_init.2.1 9 = .ok (.aload_n 0, 1) := by decide +kernel
theorem eX2_init_10 : decode MX2_init.2.1 10 = .ok (.iconst 1, 1) := by decide +kernel
theorem eX2_init_11 : decode MX2_init.2.1 11 = .ok (.putfield 15, 3) := by decide +kernel
theorem eX2_init_14 : decode MX2_init.2.1 14 = .ok (.aload_n 0, 1) := by decide +kernel
theorem eX2_init_15 : decode MX2_init.2.1 15 = .ok (.bipush 32, 2) := by decide +kernel
theorem eX2_init_17 : decode MX2_init.2.1 17 = .ok (.newarray .int, 2) := by decide +kernel
theorem eX2_init_19 : decode MX2_init.2.1 19 = .ok (.putfield 18, 3) := by decide +kernel
theorem eX2_init_22 : decode MX2_init.2.1 22 = .ok (.aload_n 0, 1) := by decide +kernel
theorem eX2_init_23 : decode MX2_init.2.1 23 = .ok (.bipush 32, 2) := by decide +kernel
theorem eX2_init_25 : decode MX2_init.2.1 25 = .ok (.newarray .int, 2) := by decide +kernel
theorem eX2_init_27 : decode MX2_init.2.1 27 = .ok (.putfield 22, 3) := by decide +kernel
theorem eX2_init_30 : decode MX2_init.2.1 30 = .ok (.aload_n 0, 1) := by decide +kernel
theorem eX2_init_31 : decode MX2_init.2.1 31 = .ok (.new 25, 3) := by decide +kernel
theorem eX2_init_34 : decode MX2_init.2.1 34 = .ok (.dup, 1) := by decide +kernel
theorem eX2_init_35 : decode MX2_init.2.1 35 = .ok (.invokespecial 27, 3) := by decide +kernel
theorem eX2_init_38 : decode MX2_init.2.1 38 = .ok (.putfield 28, 3) := by decide +kernel
theorem eX2_init_41 : decode MX2_init.2.1 41 = .ok (.return_, 1) := by decide +kernel
theorem kX2 (o : Nat) (ho : o < NC) (hk : kd o = 2) : Kt yX2_init MX2_init 2 6 164 o (o + 7) 2 [.int 0, .int 0, .null, .null, .null] := by
  have e : o = 14 := (show ∀ o, o < NC → kd o = 2 → o = 14 by decide +kernel) o ho hk
  subst e
  refine Kt.of mX2_init.1 rfl rfl (Nat.le_of_ble_eq_true rfl) (fun X w p l e s m args below meth c H0 Z F hm fin => ?_)
  refine c_aload_n F 0 eX2_init_0 rfl rfl ?_
  refine c_objInit F ol2 oi_n oi_c rfl (Nat.le_of_ble_eq_true rfl) (Nat.le_of_ble_eq_true rfl) eX2_init_1 ?_
  refine c_aload_n F 0 eX2_init_4 rfl rfl ?_
  refine c_iconst F eX2_init_5 (v := 2) rfl ?_
  refine c_put F (v := .int 2) flX2_9 (by decide) (by decide) vO_at rfl (tyX2_ok 0 (by decide)) rfl rfl (Nat.le_of_ble_eq_true rfl) eX2_init_6 ?_
  rw [vO_u]
  refine c_aload_n F 0 eX2_init_9 rfl rfl ?_
  refine c_iconst F eX2_init_10 (v := 1) rfl ?_
  refine c_put F (v := .int 1) flX2_15 (by decide) (by decide) vO_at rfl (tyX2_ok 1 (by decide)) rfl rfl (Nat.le_of_ble_eq_true rfl) eX2_init_11 ?_
  rw [vO_u]
  refine c_aload_n F 0 eX2_init_14 rfl rfl ?_
  refine c_bipush F eX2_init_15 (v := 32) rfl ?_
  refine c_newa F (ty := .int) (j := 0) (n := 32) (a0 := (32, .inl (fun _ => 0))) (by decide) rfl rfl (fun C h => by cases h) ac_I (by rw [vO_hi (by omega)]; exact ar_I X rfl rfl (by decide)) (fun _ => rfl) (by decide) rfl (by decide) (Nat.le_of_ble_eq_true rfl) (Nat.le_of_ble_eq_true rfl) eX2_init_17 ?_
  refine c_putF F (v := .ref (14 + 1)) flX2_18 hm (by decide) (by decide) vO_at rfl rfl (tyX2_ok 2 (by decide)) rfl rfl (Nat.le_of_ble_eq_true rfl) eX2_init_19 ?_
  rw [vO_u]
  refine c_aload_n F 0 eX2_init_22 rfl rfl ?_
  refine c_bipush F eX2_init_23 (v := 32) rfl ?_
  refine c_newa F (ty := .int) (j := 0) (n := 32) (a0 := (32, .inl (fun _ => 0))) (by decide) rfl rfl (fun C h => by cases h) ac_I (by rw [vO_hi (by omega)]; exact ar_I X rfl rfl (by decide)) (fun _ => rfl) (by decide) rfl (by decide) (Nat.le_of_ble_eq_true rfl) (Nat.le_of_ble_eq_true rfl) eX2_init_25 ?_
  refine c_putF F (v := .ref (14 + 1 + 1)) flX2_22 hm (by decide) (by decide) vO_at rfl rfl (tyX2_ok 3 (by decide)) rfl rfl (Nat.le_of_ble_eq_true rfl) eX2_init_27 ?_
  rw [vO_u]
  refine c_aload_n F 0 eX2_init_30 rfl rfl ?_
  refine c_make F (cn := RX8) (by1 := cX8_init) (mL := 1) (kX8 (14 + 1 + 1 + 1) (by decide) rfl) mX8_init li2_27 tyX8 lay7 rfl tyX8_ok cl2_25 in7 it7 (by decide) (fun i h1 _ => vO_hi (by omega)) df7 rfl (Nat.le_of_ble_eq_true rfl) (Nat.le_of_ble_eq_true rfl) (Nat.le_of_ble_eq_true rfl) (Nat.le_of_ble_eq_true rfl) (Nat.le_of_ble_eq_true rfl) eX2_init_31 eX2_init_34 eX2_init_35 ?_
  refine c_putF F (v := .ref (14 + 1 + 1 + 1)) flX2_28 hm (by decide) (by decide) vO_at rfl rfl (tyX2_ok 4 (by decide)) rfl rfl (Nat.le_of_ble_eq_true rfl) eX2_init_38 ?_
  rw [vO_u]
  exact fin _ _ _ eX2_init_41 (fun i _ => vO_fin rfl (by decide) rfl i)
end CTOR

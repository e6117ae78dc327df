section BASE
theorem lyk0 : ∀ k : Nat, k < 8 → u_lay RX0 TX0 k ∈ GW := fun k hk => match k, hk with
  | 0, _ => gw1 154 rfl rfl
  | 1, _ => gw1 156 rfl rfl
  | 2, _ => gw1 158 rfl rfl
  | 3, _ => gw1 160 rfl rfl
  | 4, _ => gw1 162 rfl rfl
  | 5, _ => gw1 164 rfl rfl
  | 6, _ => gw1 166 rfl rfl
  | 7, _ => gw1 168 rfl rfl
  | j + 8, h => absurd h (by omega)
theorem lay0 : LayOk 0 := ⟨fun w hw => by obtain ⟨k, hk, rfl⟩ := List.mem_map.mp hw; exact lyk0 k (List.mem_range.mp hk), rfl, rfl, by decide, tyX0, tyX0_ok, nmX0⟩
theorem lyk1 : ∀ k : Nat, k < 3 → u_lay RX1 TX1 k ∈ GW := fun k hk => match k, hk with
  | 0, _ => gw1 180 rfl rfl
  | 1, _ => gw1 182 rfl rfl
  | 2, _ => gw1 184 rfl rfl
  | j + 3, h => absurd h (by omega)
theorem lay1 : LayOk 1 := ⟨fun w hw => by obtain ⟨k, hk, rfl⟩ := List.mem_map.mp hw; exact lyk1 k (List.mem_range.mp hk), rfl, rfl, by decide, tyX1, tyX1_ok, nmX1⟩
theorem lyk2 : ∀ k : Nat, k < 5 → u_lay RX2 TX2 k ∈ GW := fun k hk => match k, hk with
  | 0, _ => gw1 127 rfl rfl
  | 1, _ => gw1 129 rfl rfl
  | 2, _ => gw1 131 rfl rfl
  | 3, _ => gw1 133 rfl rfl
  | 4, _ => gw1 135 rfl rfl
  | j + 5, h => absurd h (by omega)
theorem lay2 : LayOk 2 := ⟨fun w hw => by obtain ⟨k, hk, rfl⟩ := List.mem_map.mp hw; exact lyk2 k (List.mem_range.mp hk), rfl, rfl, by decide, tyX2, tyX2_ok, nmX2⟩
theorem lyk3 : ∀ k : Nat, k < 4 → u_lay RX3 TX3 k ∈ GW := fun k hk => match k, hk with
  | 0, _ => gw1 200 rfl rfl
  | 1, _ => gw1 202 rfl rfl
  | 2, _ => gw1 204 rfl rfl
  | 3, _ => gw1 206 rfl rfl
  | j + 4, h => absurd h (by omega)
theorem lay3 : LayOk 3 := ⟨fun w hw => by obtain ⟨k, hk, rfl⟩ := List.mem_map.mp hw; exact lyk3 k (List.mem_range.mp hk), rfl, rfl, by decide, tyX3, tyX3_ok, nmX3⟩
theorem lyk4 : ∀ k : Nat, k < 7 → u_lay RX4 TX4 k ∈ GW := fun k hk => match k, hk with
  | 0, _ => gw1 96 rfl rfl
  | 1, _ => gw1 98 rfl rfl
  | 2, _ => gw1 100 rfl rfl
  | 3, _ => gw1 102 rfl rfl
  | 4, _ => gw1 104 rfl rfl
  | 5, _ => gw1 106 rfl rfl
  | 6, _ => gw1 108 rfl rfl
  | j + 7, h => absurd h (by omega)
theorem lay4 : LayOk 4 := ⟨fun w hw => by obtain ⟨k, hk, rfl⟩ := List.mem_map.mp hw; exact lyk4 k (List.mem_range.mp hk), rfl, rfl, by decide, tyX4, tyX4_ok, nmX4⟩
theorem lyk5 : ∀ k : Nat, k < 4 → u_lay RX6 TX6 k ∈ GW := fun k hk => match k, hk with
  | 0, _ => gw1 233 rfl rfl
  | 1, _ => gw1 235 rfl rfl
  | 2, _ => gw1 237 rfl rfl
  | 3, _ => gw1 239 rfl rfl
  | j + 4, h => absurd h (by omega)
theorem lay5 : LayOk 5 := ⟨fun w hw => by obtain ⟨k, hk, rfl⟩ := List.mem_map.mp hw; exact lyk5 k (List.mem_range.mp hk), rfl, rfl, by decide, tyX6, tyX6_ok, nmX6⟩
theorem lyk6 : ∀ k : Nat, k < 3 → u_lay RX7 TX7 k ∈ GW := fun k hk => match k, hk with
  | 0, _ => gw2 11 rfl rfl
  | 1, _ => gw2 13 rfl rfl
  | 2, _ => gw2 15 rfl rfl
  | j + 3, h => absurd h (by omega)
theorem lay6 : LayOk 6 := ⟨fun w hw => by obtain ⟨k, hk, rfl⟩ := List.mem_map.mp hw; exact lyk6 k (List.mem_range.mp hk), rfl, rfl, by decide, tyX7, tyX7_ok, nmX7⟩
theorem lyk7 : ∀ k : Nat, k < 4 → u_lay RX8 TX8 k ∈ GW := fun k hk => match k, hk with
  | 0, _ => gw1 66 rfl rfl
  | 1, _ => gw1 68 rfl rfl
  | 2, _ => gw1 70 rfl rfl
  | 3, _ => gw1 72 rfl rfl
  | j + 4, h => absurd h (by omega)
theorem lay7 : LayOk 7 := ⟨fun w hw => by obtain ⟨k, hk, rfl⟩ := List.mem_map.mp hw; exact lyk7 k (List.mem_range.mp hk), rfl, rfl, by decide, tyX8, tyX8_ok, nmX8⟩
theorem lyk8 : ∀ k : Nat, k < 7 → u_lay RX9 TX9 k ∈ GW := fun k hk => match k, hk with
  | 0, _ => gw1 40 rfl rfl
  | 1, _ => gw1 42 rfl rfl
  | 2, _ => gw1 44 rfl rfl
  | 3, _ => gw1 46 rfl rfl
  | 4, _ => gw1 48 rfl rfl
  | 5, _ => gw1 50 rfl rfl
  | 6, _ => gw1 52 rfl rfl
  | j + 7, h => absurd h (by omega)
theorem lay8 : LayOk 8 := ⟨fun w hw => by obtain ⟨k, hk, rfl⟩ := List.mem_map.mp hw; exact lyk8 k (List.mem_range.mp hk), rfl, rfl, by decide, tyX9, tyX9_ok, nmX9⟩
theorem lyk9 : ∀ k : Nat, k < 12 → u_lay RX10 TX10 k ∈ GW := fun k hk => match k, hk with
  | 0, _ => gw2 30 rfl rfl
  | 1, _ => gw2 32 rfl rfl
  | 2, _ => gw2 34 rfl rfl
  | 3, _ => gw2 36 rfl rfl
  | 4, _ => gw2 38 rfl rfl
  | 5, _ => gw2 40 rfl rfl
  | 6, _ => gw2 42 rfl rfl
  | 7, _ => gw2 44 rfl rfl
  | 8, _ => gw2 46 rfl rfl
  | 9, _ => gw2 48 rfl rfl
  | 10, _ => gw2 50 rfl rfl
  | 11, _ => gw2 52 rfl rfl
  | j + 12, h => absurd h (by omega)
theorem lay9 : LayOk 9 := ⟨fun w hw => by obtain ⟨k, hk, rfl⟩ := List.mem_map.mp hw; exact lyk9 k (List.mem_range.mp hk), rfl, rfl, by decide, tyX10, tyX10_ok, nmX10⟩
theorem lyk10 : ∀ k : Nat, k < 38 → u_lay RX11 TX11 k ∈ GW := fun k hk => match k, hk with
  | 0, _ => gw4 173 rfl rfl
  | 1, _ => gw4 175 rfl rfl
  | 2, _ => gw4 177 rfl rfl
  | 3, _ => gw4 179 rfl rfl
  | 4, _ => gw4 181 rfl rfl
  | 5, _ => gw4 183 rfl rfl
  | 6, _ => gw4 185 rfl rfl
  | 7, _ => gw4 187 rfl rfl
  | 8, _ => gw4 189 rfl rfl
  | 9, _ => gw4 191 rfl rfl
  | 10, _ => gw4 193 rfl rfl
  | 11, _ => gw4 195 rfl rfl
  | 12, _ => gw4 197 rfl rfl
  | 13, _ => gw4 199 rfl rfl
  | 14, _ => gw4 201 rfl rfl
  | 15, _ => gw4 203 rfl rfl
  | 16, _ => gw4 205 rfl rfl
  | 17, _ => gw4 207 rfl rfl
  | 18, _ => gw4 209 rfl rfl
  | 19, _ => gw4 211 rfl rfl
  | 20, _ => gw4 213 rfl rfl
  | 21, _ => gw4 215 rfl rfl
  | 22, _ => gw4 217 rfl rfl
  | 23, _ => gw4 219 rfl rfl
  | 24, _ => gw4 221 rfl rfl
  | 25, _ => gw4 223 rfl rfl
  | 26, _ => gw4 225 rfl rfl
  | 27, _ => gw4 227 rfl rfl
  | 28, _ => gw4 229 rfl rfl
  | 29, _ => gw4 231 rfl rfl
  | 30, _ => gw4 233 rfl rfl
  | 31, _ => gw4 235 rfl rfl
  | 32, _ => gw4 237 rfl rfl
  | 33, _ => gw4 239 rfl rfl
  | 34, _ => gw5 1 rfl rfl
  | 35, _ => gw5 3 rfl rfl
  | 36, _ => gw5 5 rfl rfl
  | 37, _ => gw5 7 rfl rfl
  | j + 38, h => absurd h (by omega)
theorem lay10 : LayOk 10 := ⟨fun w hw => by obtain ⟨k, hk, rfl⟩ := List.mem_map.mp hw; exact lyk10 k (List.mem_range.mp hk), rfl, rfl, by decide, tyX11, tyX11_ok, nmX11⟩
theorem flX9_15 : FL RX9 15 8 0 := ⟨lay8, by decide, gw1 31 rfl rfl⟩
theorem flX10_83 : FL RX10 83 8 0 := ⟨lay8, by decide, gw1 32 rfl rfl⟩
theorem flX9_19 : FL RX9 19 8 1 := ⟨lay8, by decide, gw1 33 rfl rfl⟩
theorem flX10_102 : FL RX10 102 8 1 := ⟨lay8, by decide, gw1 34 rfl rfl⟩
theorem flX9_9 : FL RX9 9 8 2 := ⟨lay8, by decide, gw1 35 rfl rfl⟩
theorem flX9_22 : FL RX9 22 8 3 := ⟨lay8, by decide, gw1 36 rfl rfl⟩
theorem flX9_28 : FL RX9 28 8 4 := ⟨lay8, by decide, gw1 37 rfl rfl⟩
theorem flX9_52 : FL RX9 52 8 5 := ⟨lay8, by decide, gw1 38 rfl rfl⟩
theorem flX9_35 : FL RX9 35 8 6 := ⟨lay8, by decide, gw1 39 rfl rfl⟩
theorem flX8_21 : FL RX8 21 7 0 := ⟨lay7, by decide, gw1 62 rfl rfl⟩
theorem flX8_9 : FL RX8 9 7 1 := ⟨lay7, by decide, gw1 63 rfl rfl⟩
theorem flX8_15 : FL RX8 15 7 2 := ⟨lay7, by decide, gw1 64 rfl rfl⟩
theorem flX8_18 : FL RX8 18 7 3 := ⟨lay7, by decide, gw1 65 rfl rfl⟩
theorem flX4_22 : FL RX4 22 4 0 := ⟨lay4, by decide, gw1 84 rfl rfl⟩
theorem flX10_143 : FL RX10 143 4 0 := ⟨lay4, by decide, gw1 85 rfl rfl⟩
theorem flX4_26 : FL RX4 26 4 1 := ⟨lay4, by decide, gw1 86 rfl rfl⟩
theorem flX10_150 : FL RX10 150 4 1 := ⟨lay4, by decide, gw1 87 rfl rfl⟩
theorem flX4_29 : FL RX4 29 4 2 := ⟨lay4, by decide, gw1 88 rfl rfl⟩
theorem flX10_153 : FL RX10 153 4 2 := ⟨lay4, by decide, gw1 89 rfl rfl⟩
theorem flX4_32 : FL RX4 32 4 3 := ⟨lay4, by decide, gw1 90 rfl rfl⟩
theorem flX10_156 : FL RX10 156 4 3 := ⟨lay4, by decide, gw1 91 rfl rfl⟩
theorem flX4_35 : FL RX4 35 4 4 := ⟨lay4, by decide, gw1 92 rfl rfl⟩
theorem flX10_159 : FL RX10 159 4 4 := ⟨lay4, by decide, gw1 93 rfl rfl⟩
theorem flX4_12 : FL RX4 12 4 5 := ⟨lay4, by decide, gw1 94 rfl rfl⟩
theorem flX4_18 : FL RX4 18 4 6 := ⟨lay4, by decide, gw1 95 rfl rfl⟩
theorem flX2_9 : FL RX2 9 2 0 := ⟨lay2, by decide, gw1 119 rfl rfl⟩
theorem flX10_175 : FL RX10 175 2 0 := ⟨lay2, by decide, gw1 120 rfl rfl⟩
theorem flX2_15 : FL RX2 15 2 1 := ⟨lay2, by decide, gw1 121 rfl rfl⟩
theorem flX10_178 : FL RX10 178 2 1 := ⟨lay2, by decide, gw1 122 rfl rfl⟩
theorem flX2_18 : FL RX2 18 2 2 := ⟨lay2, by decide, gw1 123 rfl rfl⟩
theorem flX10_181 : FL RX10 181 2 2 := ⟨lay2, by decide, gw1 124 rfl rfl⟩
theorem flX2_22 : FL RX2 22 2 3 := ⟨lay2, by decide, gw1 125 rfl rfl⟩
theorem flX2_28 : FL RX2 28 2 4 := ⟨lay2, by decide, gw1 126 rfl rfl⟩
theorem flX0_43 : FL RX0 43 0 0 := ⟨lay0, by decide, gw1 144 rfl rfl⟩
theorem flX10_220 : FL RX10 220 0 0 := ⟨lay0, by decide, gw1 145 rfl rfl⟩
theorem flX0_40 : FL RX0 40 0 1 := ⟨lay0, by decide, gw1 146 rfl rfl⟩
theorem flX10_223 : FL RX10 223 0 1 := ⟨lay0, by decide, gw1 147 rfl rfl⟩
theorem flX0_18 : FL RX0 18 0 2 := ⟨lay0, by decide, gw1 148 rfl rfl⟩
theorem flX0_22 : FL RX0 22 0 3 := ⟨lay0, by decide, gw1 149 rfl rfl⟩
theorem flX0_25 : FL RX0 25 0 4 := ⟨lay0, by decide, gw1 150 rfl rfl⟩
theorem flX0_9 : FL RX0 9 0 5 := ⟨lay0, by decide, gw1 151 rfl rfl⟩
theorem flX0_15 : FL RX0 15 0 6 := ⟨lay0, by decide, gw1 152 rfl rfl⟩
theorem flX0_28 : FL RX0 28 0 7 := ⟨lay0, by decide, gw1 153 rfl rfl⟩
theorem flX1_11 : FL RX1 11 1 0 := ⟨lay1, by decide, gw1 177 rfl rfl⟩
theorem flX1_32 : FL RX1 32 1 1 := ⟨lay1, by decide, gw1 178 rfl rfl⟩
theorem flX1_43 : FL RX1 43 1 2 := ⟨lay1, by decide, gw1 179 rfl rfl⟩
theorem flX3_27 : FL RX3 27 3 0 := ⟨lay3, by decide, gw1 193 rfl rfl⟩
theorem flX10_282 : FL RX10 282 3 0 := ⟨lay3, by decide, gw1 194 rfl rfl⟩
theorem flX3_31 : FL RX3 31 3 1 := ⟨lay3, by decide, gw1 195 rfl rfl⟩
theorem flX10_289 : FL RX10 289 3 1 := ⟨lay3, by decide, gw1 196 rfl rfl⟩
theorem flX3_34 : FL RX3 34 3 2 := ⟨lay3, by decide, gw1 197 rfl rfl⟩
theorem flX10_292 : FL RX10 292 3 2 := ⟨lay3, by decide, gw1 198 rfl rfl⟩
theorem flX3_9 : FL RX3 9 3 3 := ⟨lay3, by decide, gw1 199 rfl rfl⟩
theorem flX6_22 : FL RX6 22 5 0 := ⟨lay5, by decide, gw1 219 rfl rfl⟩
theorem flX2_32 : FL RX2 32 5 0 := ⟨lay5, by decide, gw1 220 rfl rfl⟩
theorem flX4_38 : FL RX4 38 5 0 := ⟨lay5, by decide, gw1 221 rfl rfl⟩
theorem flX5_32 : FL RX5 32 5 0 := ⟨lay5, by decide, gw1 222 rfl rfl⟩
theorem flX9_55 : FL RX9 55 5 0 := ⟨lay5, by decide, gw1 223 rfl rfl⟩
theorem flX10_130 : FL RX10 130 5 0 := ⟨lay5, by decide, gw1 224 rfl rfl⟩
theorem flX6_26 : FL RX6 26 5 1 := ⟨lay5, by decide, gw1 225 rfl rfl⟩
theorem flX4_47 : FL RX4 47 5 1 := ⟨lay5, by decide, gw1 226 rfl rfl⟩
theorem flX2_49 : FL RX2 49 5 1 := ⟨lay5, by decide, gw1 227 rfl rfl⟩
theorem flX10_118 : FL RX10 118 5 1 := ⟨lay5, by decide, gw1 228 rfl rfl⟩
theorem flX6_12 : FL RX6 12 5 2 := ⟨lay5, by decide, gw1 229 rfl rfl⟩
theorem flX9_58 : FL RX9 58 5 2 := ⟨lay5, by decide, gw1 230 rfl rfl⟩
theorem flX10_133 : FL RX10 133 5 2 := ⟨lay5, by decide, gw1 231 rfl rfl⟩
theorem flX6_18 : FL RX6 18 5 3 := ⟨lay5, by decide, gw1 232 rfl rfl⟩
theorem flX7_19 : FL RX7 19 6 0 := ⟨lay6, by decide, gw2 7 rfl rfl⟩
theorem flX10_353 : FL RX10 353 6 0 := ⟨lay6, by decide, gw2 8 rfl rfl⟩
theorem flX7_9 : FL RX7 9 6 1 := ⟨lay6, by decide, gw2 9 rfl rfl⟩
theorem flX7_15 : FL RX7 15 6 2 := ⟨lay6, by decide, gw2 10 rfl rfl⟩
theorem flX10_11 : FL RX10 11 9 0 := ⟨lay9, by decide, gw2 18 rfl rfl⟩
theorem flX10_111 : FL RX10 111 9 1 := ⟨lay9, by decide, gw2 19 rfl rfl⟩
theorem flX10_18 : FL RX10 18 9 2 := ⟨lay9, by decide, gw2 20 rfl rfl⟩
theorem flX10_25 : FL RX10 25 9 3 := ⟨lay9, by decide, gw2 21 rfl rfl⟩
theorem flX10_32 : FL RX10 32 9 4 := ⟨lay9, by decide, gw2 22 rfl rfl⟩
theorem flX10_39 : FL RX10 39 9 5 := ⟨lay9, by decide, gw2 23 rfl rfl⟩
theorem flX10_46 : FL RX10 46 9 6 := ⟨lay9, by decide, gw2 24 rfl rfl⟩
theorem flX10_53 : FL RX10 53 9 7 := ⟨lay9, by decide, gw2 25 rfl rfl⟩
theorem flX10_57 : FL RX10 57 9 8 := ⟨lay9, by decide, gw2 26 rfl rfl⟩
theorem flX10_64 : FL RX10 64 9 9 := ⟨lay9, by decide, gw2 27 rfl rfl⟩
theorem flX10_68 : FL RX10 68 9 10 := ⟨lay9, by decide, gw2 28 rfl rfl⟩
theorem flX10_73 : FL RX10 73 9 11 := ⟨lay9, by decide, gw2 29 rfl rfl⟩
theorem flX11_106 : FL RX11 106 10 0 := ⟨lay10, by decide, gw4 135 rfl rfl⟩
theorem flX11_7 : FL RX11 7 10 1 := ⟨lay10, by decide, gw4 136 rfl rfl⟩
theorem flX11_13 : FL RX11 13 10 2 := ⟨lay10, by decide, gw4 137 rfl rfl⟩
theorem flX11_16 : FL RX11 16 10 3 := ⟨lay10, by decide, gw4 138 rfl rfl⟩
theorem flX11_20 : FL RX11 20 10 4 := ⟨lay10, by decide, gw4 139 rfl rfl⟩
theorem flX11_24 : FL RX11 24 10 5 := ⟨lay10, by decide, gw4 140 rfl rfl⟩
theorem flX11_27 : FL RX11 27 10 6 := ⟨lay10, by decide, gw4 141 rfl rfl⟩
theorem flX11_30 : FL RX11 30 10 7 := ⟨lay10, by decide, gw4 142 rfl rfl⟩
theorem flX11_33 : FL RX11 33 10 8 := ⟨lay10, by decide, gw4 143 rfl rfl⟩
theorem flX11_36 : FL RX11 36 10 9 := ⟨lay10, by decide, gw4 144 rfl rfl⟩
theorem flX11_113 : FL RX11 113 10 10 := ⟨lay10, by decide, gw4 145 rfl rfl⟩
theorem flX11_127 : FL RX11 127 10 11 := ⟨lay10, by decide, gw4 146 rfl rfl⟩
theorem flX11_121 : FL RX11 121 10 12 := ⟨lay10, by decide, gw4 147 rfl rfl⟩
theorem flX11_134 : FL RX11 134 10 13 := ⟨lay10, by decide, gw4 148 rfl rfl⟩
theorem flX11_141 : FL RX11 141 10 14 := ⟨lay10, by decide, gw4 149 rfl rfl⟩
theorem flX11_118 : FL RX11 118 10 15 := ⟨lay10, by decide, gw4 150 rfl rfl⟩
theorem flX11_124 : FL RX11 124 10 16 := ⟨lay10, by decide, gw4 151 rfl rfl⟩
theorem flX11_39 : FL RX11 39 10 17 := ⟨lay10, by decide, gw4 152 rfl rfl⟩
theorem flX11_42 : FL RX11 42 10 18 := ⟨lay10, by decide, gw4 153 rfl rfl⟩
theorem flX11_45 : FL RX11 45 10 19 := ⟨lay10, by decide, gw4 154 rfl rfl⟩
theorem flX11_48 : FL RX11 48 10 20 := ⟨lay10, by decide, gw4 155 rfl rfl⟩
theorem flX11_51 : FL RX11 51 10 21 := ⟨lay10, by decide, gw4 156 rfl rfl⟩
theorem flX11_55 : FL RX11 55 10 22 := ⟨lay10, by decide, gw4 157 rfl rfl⟩
theorem flX11_58 : FL RX11 58 10 23 := ⟨lay10, by decide, gw4 158 rfl rfl⟩
theorem flX11_209 : FL RX11 209 10 24 := ⟨lay10, by decide, gw4 159 rfl rfl⟩
theorem flX11_61 : FL RX11 61 10 25 := ⟨lay10, by decide, gw4 160 rfl rfl⟩
theorem flX11_64 : FL RX11 64 10 26 := ⟨lay10, by decide, gw4 161 rfl rfl⟩
theorem flX11_67 : FL RX11 67 10 27 := ⟨lay10, by decide, gw4 162 rfl rfl⟩
theorem flX11_70 : FL RX11 70 10 28 := ⟨lay10, by decide, gw4 163 rfl rfl⟩
theorem flX11_73 : FL RX11 73 10 29 := ⟨lay10, by decide, gw4 164 rfl rfl⟩
theorem flX11_76 : FL RX11 76 10 30 := ⟨lay10, by decide, gw4 165 rfl rfl⟩
theorem flX11_79 : FL RX11 79 10 31 := ⟨lay10, by decide, gw4 166 rfl rfl⟩
theorem flX11_271 : FL RX11 271 10 32 := ⟨lay10, by decide, gw4 167 rfl rfl⟩
theorem flX11_274 : FL RX11 274 10 33 := ⟨lay10, by decide, gw4 168 rfl rfl⟩
theorem flX11_277 : FL RX11 277 10 34 := ⟨lay10, by decide, gw4 169 rfl rfl⟩
theorem flX11_82 : FL RX11 82 10 35 := ⟨lay10, by decide, gw4 170 rfl rfl⟩
theorem flX11_85 : FL RX11 85 10 36 := ⟨lay10, by decide, gw4 171 rfl rfl⟩
theorem flX11_88 : FL RX11 88 10 37 := ⟨lay10, by decide, gw4 172 rfl rfl⟩
theorem lkX10_79 : Lk RX10 79 yX9_append := Or.inl (gw2 59 rfl rfl)
theorem lkX10_87 : Lk RX10 87 yX10_freeNet := Or.inl (gw2 71 rfl rfl)
theorem lkX10_91 : Lk RX10 91 yX9_tells := Or.inl (gw2 75 rfl rfl)
theorem lkX9_25 : Lk RX9 25 yX9_readToken := Or.inl (gw2 79 rfl rfl)
theorem lkX9_71 : Lk RX9 71 yX9_byteAt := Or.inl (gw2 83 rfl rfl)
theorem lkX9_75 : Lk RX9 75 yX9_isFigure := Or.inl (gw2 87 rfl rfl)
theorem lkX9_78 : Lk RX9 78 yX9_readNumber := Or.inl (gw2 90 rfl rfl)
theorem lkX9_81 : Cond.methodLink RX9 81 Lib.Math.min.name ∈ GW := gw2 94 rfl rfl
theorem lkX9_31 : Lk RX9 31 yX9_refuseToken := Or.inl (gw2 97 rfl rfl)
theorem lkX9_38 : Lk RX9 38 yX9_refuse := Or.inl (gw2 101 rfl rfl)
theorem lkX9_42 : Lk RX9 42 yX6_begin := Or.inl (gw2 105 rfl rfl)
theorem lkX6_29 : Lk RX6 29 yX8_begin := Or.inl (gw2 109 rfl rfl)
theorem lkX8_25 : Lk RX8 25 yX10_put := Or.inr ⟨"CarryNets", nw (ts2 113 rfl) rfl⟩
theorem lkX9_48 : Lk RX9 48 yX9_readRow := Or.inl (gw2 116 rfl rfl)
theorem lkX9_62 : Lk RX9 62 yX8_openPlaces := Or.inl (gw2 120 rfl rfl)
theorem lkX8_29 : Lk RX8 29 yX10_at := Or.inr ⟨"CarryNets", nw (ts2 124 rfl) rfl⟩
theorem lkX9_68 : Lk RX9 68 yX6_addRow := Or.inl (gw2 127 rfl rfl)
theorem lkX6_33 : Lk RX6 33 yX8_openPlaces := Or.inl (gw2 131 rfl rfl)
theorem lkX6_37 : Lk RX6 37 yX10_put := Or.inr ⟨"CarryNets", nw (ts2 132 rfl) rfl⟩
theorem lkX6_41 : Lk RX6 41 yX8_join := Or.inl (gw2 133 rfl rfl)
theorem lkX10_95 : Lk RX10 95 yX10_keepNet := Or.inl (gw2 137 rfl rfl)
theorem lkX10_99 : Lk RX10 99 yX9_faultPlace := Or.inl (gw2 141 rfl rfl)
theorem lkX10_105 : Lk RX10 105 yX5_fill := Or.inl (gw2 153 rfl rfl)
theorem lkX5_9 : Lk RX5 9 yX6_begin := Or.inl (gw2 156 rfl rfl)
theorem lkX5_15 : Lk RX5 15 yX5_oneByOne := Or.inl (gw2 157 rfl rfl)
theorem lkX5_28 : Lk RX5 28 yX5_addRow := Or.inl (gw2 160 rfl rfl)
theorem lkX5_36 : Lk RX5 36 yX5_hasCell := Or.inl (gw2 163 rfl rfl)
theorem lkX5_40 : Lk RX5 40 yX6_addRow := Or.inl (gw2 166 rfl rfl)
theorem lkX5_21 : Lk RX5 21 yX5_doubling := Or.inl (gw2 167 rfl rfl)
theorem lkX5_25 : Lk RX5 25 yX5_upAndDown := Or.inl (gw2 170 rfl rfl)
theorem lkX10_114 : Lk RX10 114 yX10_netNumbered := Or.inl (gw2 181 rfl rfl)
theorem lkX10_121 : Lk RX10 121 yX6_row := Or.inl (gw2 185 rfl rfl)
theorem lkX6_44 : Lk RX6 44 yX10_at := Or.inr ⟨"CarryNets", nw (ts2 189 rfl) rfl⟩
theorem lkX10_125 : Lk RX10 125 yJ6_bitCount_0f7a4 := Or.inl (gw2 190 rfl rfl)
theorem lkX10_136 : Lk RX10 136 yX8_lowOf := Or.inl (gw2 196 rfl rfl)
theorem lkX10_139 : Lk RX10 139 yX4_look := Or.inl (gw2 200 rfl rfl)
theorem lkX4_43 : Lk RX4 43 yX8_begin := Or.inl (gw2 204 rfl rfl)
theorem lkX4_50 : Lk RX4 50 yX6_row := Or.inl (gw2 205 rfl rfl)
theorem lkX4_54 : Lk RX4 54 yX8_join := Or.inl (gw2 206 rfl rfl)
theorem lkX4_57 : Lk RX4 57 yX4_lookAtCells := Or.inl (gw2 207 rfl rfl)
theorem lkX4_63 : Lk RX4 63 yX8_loadOf := Or.inl (gw2 211 rfl rfl)
theorem lkX4_66 : Cond.methodLink RX4 66 Lib.Math.max.name ∈ GW := gw2 215 rfl rfl
theorem lkX4_72 : Lk RX4 72 yX8_takenBy := Or.inl (gw2 218 rfl rfl)
theorem lkX4_75 : Lk RX4 75 yX10_at := Or.inr ⟨"CarryNets", nw (ts2 222 rfl) rfl⟩
theorem lkX4_79 : Lk RX4 79 yX10_put := Or.inr ⟨"CarryNets", nw (ts2 223 rfl) rfl⟩
theorem lkX4_60 : Lk RX4 60 yX4_lookAtTracks := Or.inl (gw2 224 rfl rfl)
theorem lkX10_146 : Lk RX10 146 yX8_whole := Or.inl (gw2 228 rfl rfl)
theorem lkX8_33 : Lk RX8 33 yX8_openPlaces := Or.inl (gw2 232 rfl rfl)
theorem lkX10_162 : Lk RX10 162 yX8_begin := Or.inl (gw2 237 rfl rfl)
theorem lkX10_166 : Lk RX10 166 yX8_join := Or.inl (gw2 238 rfl rfl)
theorem lkX10_169 : Lk RX10 169 yX8_takenBy := Or.inl (gw2 239 rfl rfl)
theorem lkX10_172 : Lk RX10 172 yX8_loadOf := Or.inl (gw3 0 rfl rfl)
theorem lkX10_185 : Lk RX10 185 yX10_at := Or.inl (gw3 9 rfl rfl)
theorem lkX10_189 : Lk RX10 189 yX10_put := Or.inl (gw3 10 rfl rfl)
theorem lkX10_193 : Lk RX10 193 yX2_follow := Or.inl (gw3 15 rfl rfl)
theorem lkX2_37 : Lk RX2 37 yX10_at := Or.inr ⟨"CarryNets", nw (ts3 19 rfl) rfl⟩
theorem lkX2_41 : Lk RX2 41 yX10_put := Or.inr ⟨"CarryNets", nw (ts3 20 rfl) rfl⟩
theorem lkX2_45 : Lk RX2 45 yX8_begin := Or.inl (gw3 21 rfl rfl)
theorem lkX2_52 : Lk RX2 52 yX6_row := Or.inl (gw3 22 rfl rfl)
theorem lkX2_56 : Lk RX2 56 yX8_join := Or.inl (gw3 23 rfl rfl)
theorem lkX2_59 : Lk RX2 59 yX2_passRow := Or.inl (gw3 24 rfl rfl)
theorem lkX2_71 : Lk RX2 71 yX8_takenBy := Or.inl (gw3 28 rfl rfl)
theorem lkX2_62 : Lk RX2 62 yX2_readyAt := Or.inl (gw3 29 rfl rfl)
theorem lkX2_65 : Cond.methodLink RX2 65 Lib.Math.max.name ∈ GW := gw3 33 rfl rfl
theorem lkX2_74 : Lk RX2 74 yX8_loadOf := Or.inl (gw3 34 rfl rfl)
theorem lkX10_196 : Lk RX10 196 yX2_latest := Or.inl (gw3 35 rfl rfl)
theorem lkX10_199 : Lk RX10 199 yX2_readyAt := Or.inl (gw3 39 rfl rfl)
theorem lkX10_206 : Lk RX10 206 yX10_sumBits := Or.inl (gw3 46 rfl rfl)
theorem lkX10_341 : Lk RX10 341 yX10_plainSum := Or.inl (gw3 49 rfl rfl)
theorem lkX10_338 : Lk RX10 338 yX10_bitsBelow := Or.inl (gw3 52 rfl rfl)
theorem lkX10_210 : Lk RX10 210 yX10_carryBits := Or.inl (gw3 55 rfl rfl)
theorem lkX10_213 : Lk RX10 213 yX10_bestIsTold := Or.inl (gw3 62 rfl rfl)
theorem lkX10_217 : Lk RX10 217 yX0_search := Or.inl (gw3 65 rfl rfl)
theorem lkX0_32 : Lk RX0 32 yX0_startState := Or.inl (gw3 69 rfl rfl)
theorem lkX0_36 : Lk RX0 36 yX0_waysOn := Or.inl (gw3 73 rfl rfl)
theorem lkX0_55 : Lk RX0 55 yX0_found := Or.inl (gw3 77 rfl rfl)
theorem lkX0_88 : Lk RX0 88 yX10_at := Or.inr ⟨"CarryNets", nw (ts3 81 rfl) rfl⟩
theorem lkX0_80 : Lk RX0 80 yX10_put := Or.inr ⟨"CarryNets", nw (ts3 82 rfl) rfl⟩
theorem lkX0_59 : Lk RX0 59 yX0_longestChain := Or.inl (gw3 83 rfl rfl)
theorem lkX0_92 : Lk RX0 92 yX0_part := Or.inl (gw3 87 rfl rfl)
theorem lkX0_95 : Cond.methodLink RX0 95 Lib.Math.max.name ∈ GW := gw3 90 rfl rfl
theorem lkX0_62 : Lk RX0 62 yX0_waysByRows := Or.inl (gw3 91 rfl rfl)
theorem lkX0_65 : Lk RX0 65 yX0_openPlaces := Or.inl (gw3 95 rfl rfl)
theorem lkX0_68 : Lk RX0 68 yX0_unreadyPlaces := Or.inl (gw3 99 rfl rfl)
theorem lkX0_71 : Lk RX0 71 yJ6_bitCount_0f7a4 := Or.inl (gw3 103 rfl rfl)
theorem lkX0_76 : Lk RX0 76 yX0_loadsFit := Or.inl (gw3 104 rfl rfl)
theorem lkX0_84 : Lk RX0 84 yX0_joined := Or.inl (gw3 108 rfl rfl)
theorem lkX10_226 : Lk RX10 226 yX0_fillLeast := Or.inl (gw3 116 rfl rfl)
theorem lkX0_46 : Lk RX0 46 yX6_begin := Or.inl (gw3 120 rfl rfl)
theorem lkX0_52 : Lk RX0 52 yX6_addRow := Or.inl (gw3 121 rfl rfl)
theorem lkX10_229 : Lk RX10 229 yX10_kindIsTold := Or.inl (gw3 126 rfl rfl)
theorem lkX10_233 : Lk RX10 233 yX1_areTold := Or.inl (gw3 129 rfl rfl)
theorem lkX1_15 : Lk RX1 15 yX1_size := Or.inl (gw3 132 rfl rfl)
theorem lkX10_236 : Lk RX10 236 yX1_worst := Or.inl (gw3 135 rfl rfl)
theorem lkX1_19 : Lk RX1 19 yX1_skipWorst := Or.inl (gw3 138 rfl rfl)
theorem lkX1_26 : Cond.methodLink RX1 26 Lib.Math.max.name ∈ GW := gw3 141 rfl rfl
theorem lkX1_22 : Lk RX1 22 yX1_choiceWorst := Or.inl (gw3 142 rfl rfl)
theorem lkX10_240 : Lk RX10 240 yX1_skipFigures := Or.inl (gw3 149 rfl rfl)
theorem lkX1_36 : Lk RX1 36 yX1_fewestSkipBlocks := Or.inl (gw3 153 rfl rfl)
theorem lkX1_46 : Lk RX1 46 yX1_allowNoBlocks := Or.inl (gw3 157 rfl rfl)
theorem lkX1_57 : Lk RX1 57 yX10_put := Or.inr ⟨"CarryNets", nw (ts3 161 rfl) rfl⟩
theorem lkX1_50 : Lk RX1 50 yX1_allowBlocks := Or.inl (gw3 162 rfl rfl)
theorem lkX1_61 : Lk RX1 61 yX1_greatestSize := Or.inl (gw3 166 rfl rfl)
theorem lkX1_65 : Cond.methodLink RX1 65 Lib.Math.min.name ∈ GW := gw3 170 rfl rfl
theorem lkX1_54 : Lk RX1 54 yX1_wayAllowed := Or.inl (gw3 171 rfl rfl)
theorem lkX1_72 : Lk RX1 72 yX10_at := Or.inr ⟨"CarryNets", nw (ts3 175 rfl) rfl⟩
theorem lkX1_39 : Lk RX1 39 yX1_leastSkipFigures := Or.inl (gw3 176 rfl rfl)
theorem lkX1_68 : Lk RX1 68 yX1_leastSkipSize := Or.inl (gw3 180 rfl rfl)
theorem lkX10_244 : Lk RX10 244 yX1_choiceFigures := Or.inl (gw3 184 rfl rfl)
theorem lkX1_76 : Lk RX1 76 yX1_choicePlaces := Or.inl (gw3 187 rfl rfl)
theorem lkX1_79 : Lk RX1 79 yX1_leastChoiceFigures := Or.inl (gw3 190 rfl rfl)
theorem lkX10_248 : Lk RX10 248 yX10_hasBits := Or.inl (gw3 198 rfl rfl)
theorem lkX10_251 : Cond.methodLink RX10 251 Lib.Math.max.name ∈ GW := gw3 201 rfl rfl
theorem lkX10_257 : Lk RX10 257 yX10_pairsRunningAtMost := Or.inl (gw3 206 rfl rfl)
theorem lkX10_344 : Cond.methodLink RX10 344 Lib.Math.min.name ∈ GW := gw3 210 rfl rfl
theorem lkX10_347 : Lk RX10 347 yX10_pairsInAll := Or.inl (gw3 211 rfl rfl)
theorem lkX10_260 : Lk RX10 260 yX3_heightOf := Or.inl (gw3 224 rfl rfl)
theorem lkX3_15 : Lk RX3 15 yX10_at := Or.inr ⟨"CarryNets", nw (ts3 228 rfl) rfl⟩
theorem lkX10_263 : Lk RX10 263 yX3_setHeight := Or.inl (gw3 229 rfl rfl)
theorem lkX3_19 : Lk RX3 19 yX10_put := Or.inr ⟨"CarryNets", nw (ts3 233 rfl) rfl⟩
theorem lkX10_267 : Lk RX10 267 yX3_clear := Or.inl (gw3 238 rfl rfl)
theorem lkX10_270 : Lk RX10 270 yX3_greatest := Or.inl (gw4 2 rfl rfl)
theorem lkX3_37 : Cond.methodLink RX3 37 Lib.Math.max.name ∈ GW := gw4 6 rfl rfl
theorem lkX10_273 : Lk RX10 273 yX3_done := Or.inl (gw4 11 rfl rfl)
theorem lkX3_43 : Lk RX3 43 yX3_greatest := Or.inl (gw4 15 rfl rfl)
theorem lkX10_276 : Lk RX10 276 yX3_clearTallies := Or.inl (gw4 16 rfl rfl)
theorem lkX10_279 : Lk RX10 279 yX3_bringDown := Or.inl (gw4 20 rfl rfl)
theorem lkX3_47 : Lk RX3 47 yX3_bringDownAtOnce := Or.inl (gw4 24 rfl rfl)
theorem lkX3_50 : Lk RX3 50 yX3_bringDownLate := Or.inl (gw4 28 rfl rfl)
theorem lkX3_53 : Lk RX3 53 yX3_goal := Or.inl (gw4 32 rfl rfl)
theorem lkX10_285 : Lk RX10 285 yX3_copy := Or.inl (gw4 40 rfl rfl)
theorem lkX3_23 : Lk RX3 23 yX3_heightOf := Or.inl (gw4 44 rfl rfl)
theorem lkX10_295 : Lk RX10 295 yX3_allBits := Or.inl (gw4 49 rfl rfl)
theorem lkX10_298 : Lk RX10 298 yX3_filled := Or.inl (gw4 53 rfl rfl)
theorem lkX10_302 : Lk RX10 302 yX10_digitByFours := Or.inl (gw4 62 rfl rfl)
theorem lkX10_305 : Lk RX10 305 yX10_digitsNotZero := Or.inl (gw4 69 rfl rfl)
theorem lkX10_308 : Lk RX10 308 yX10_productByDigits := Or.inl (gw4 72 rfl rfl)
theorem lkX10_311 : Lk RX10 311 yX10_sheetNumbered := Or.inl (gw4 79 rfl rfl)
theorem lkX10_315 : Lk RX10 315 yX7_renew := Or.inl (gw4 83 rfl rfl)
theorem lkX10_318 : Lk RX10 318 yX7_isNothing := Or.inl (gw4 91 rfl rfl)
theorem lkX10_321 : Lk RX10 321 yX7_hasCell := Or.inl (gw4 95 rfl rfl)
theorem lkX10_325 : Lk RX10 325 yX7_write := Or.inl (gw4 99 rfl rfl)
theorem lkX7_26 : Lk RX7 26 yX10_put := Or.inr ⟨"CarryNets", nw (ts4 103 rfl) rfl⟩
theorem lkX10_328 : Lk RX10 328 yX7_refusal := Or.inl (gw4 108 rfl rfl)
theorem lkX7_30 : Lk RX7 30 yX7_isNothing := Or.inl (gw4 112 rfl rfl)
theorem lkX7_34 : Lk RX7 34 yX7_hasCell := Or.inl (gw4 113 rfl rfl)
theorem lkX7_38 : Lk RX7 38 yX7_read := Or.inl (gw4 114 rfl rfl)
theorem lkX7_22 : Lk RX7 22 yX10_at := Or.inr ⟨"CarryNets", nw (ts4 118 rfl) rfl⟩
theorem lkX10_332 : Lk RX10 332 yX7_read := Or.inl (gw4 119 rfl rfl)
theorem lkX10_335 : Lk RX10 335 yX10_cellsOfFirstSheet := Or.inl (gw4 124 rfl rfl)
theorem lkX11_109 : Lk RX11 109 yX11_in := Or.inl (gw5 19 rfl rfl)
theorem lkX11_91 : Lk RX11 91 yX11_begins := Or.inl (gw5 26 rfl rfl)
theorem lkX11_148 : Lk RX11 148 yX11_next := Or.inl (gw5 30 rfl rfl)
theorem lkX11_130 : Lk RX11 130 yX11_look := Or.inl (gw5 34 rfl rfl)
theorem lkX11_144 : Lk RX11 144 yX11_wants := Or.inl (gw5 40 rfl rfl)
theorem lkX11_151 : Lk RX11 151 yX11_isSign := Or.inl (gw5 46 rfl rfl)
theorem lkX11_159 : Lk RX11 159 yX11_readRow := Or.inl (gw5 50 rfl rfl)
theorem lkX11_98 : Lk RX11 98 yX11_joins := Or.inl (gw5 54 rfl rfl)
theorem lkX11_162 : Lk RX11 162 yX11_comes := Or.inl (gw5 67 rfl rfl)
theorem lkX11_167 : Lk RX11 167 yX11_upAndDown := Or.inl (gw5 71 rfl rfl)
theorem lkX11_171 : Lk RX11 171 yX11_placesFrom := Or.inl (gw5 75 rfl rfl)
theorem lkX11_175 : Lk RX11 175 yX11_isNet := Or.inl (gw5 87 rfl rfl)
theorem lkX11_94 : Lk RX11 94 yX11_cellsOf := Or.inl (gw5 92 rfl rfl)
theorem lkX11_180 : Lk RX11 180 yX11_bits := Or.inl (gw5 96 rfl rfl)
theorem lkX11_102 : Lk RX11 102 yX11_goesTo := Or.inl (gw5 100 rfl rfl)
theorem lkX11_186 : Lk RX11 186 yX11_findTakes := Or.inl (gw5 104 rfl rfl)
theorem lkX11_189 : Lk RX11 189 yX11_loadOf := Or.inl (gw5 108 rfl rfl)
theorem lkX11_192 : Lk RX11 192 yX11_tracks := Or.inl (gw5 112 rfl rfl)
theorem lkX11_196 : Lk RX11 196 yX11_isWhole := Or.inl (gw5 116 rfl rfl)
theorem lkX11_230 : Lk RX11 230 yX11_isBest := Or.inl (gw5 149 rfl rfl)
theorem lkX11_234 : Lk RX11 234 yX11_fills := Or.inl (gw5 154 rfl rfl)
theorem lkX11_222 : Lk RX11 222 yX11_fillsRow := Or.inl (gw5 158 rfl rfl)
theorem lkX11_212 : Lk RX11 212 yX11_spansOf := Or.inl (gw5 162 rfl rfl)
theorem lkX11_215 : Lk RX11 215 yX11_behind := Or.inl (gw5 166 rfl rfl)
theorem lkX11_219 : Lk RX11 219 yX11_few := Or.inl (gw5 170 rfl rfl)
theorem lkX11_237 : Lk RX11 237 yX11_firstState := Or.inl (gw5 173 rfl rfl)
theorem lkX11_244 : Lk RX11 244 yX11_least := Or.inl (gw5 191 rfl rfl)
theorem lkX11_256 : Lk RX11 256 yX11_fillsBelow := Or.inl (gw5 194 rfl rfl)
theorem lkX11_248 : Lk RX11 248 yX11_roomOf := Or.inl (gw5 198 rfl rfl)
theorem lkX11_252 : Lk RX11 252 yX11_aboveThen := Or.inl (gw5 201 rfl rfl)
theorem lkX11_260 : Lk RX11 260 yX11_runsOf := Or.inl (gw5 212 rfl rfl)
theorem lkX11_267 : Lk RX11 267 yX11_greatest := Or.inl (gw5 234 rfl rfl)
theorem lkX11_280 : Lk RX11 280 yX11_copies := Or.inl (gw5 237 rfl rfl)
theorem lkX11_283 : Lk RX11 283 yX11_rowDown := Or.inl (gw6 1 rfl rfl)
theorem lkX11_288 : Lk RX11 288 yX11_allBits := Or.inl (gw6 14 rfl rfl)
theorem lkX11_295 : Lk RX11 295 yX11_digitOf := Or.inl (gw6 24 rfl rfl)
theorem lkX11_302 : Lk RX11 302 yX11_isSheet := Or.inl (gw6 37 rfl rfl)
theorem csJ6_265 : Cond.constant RJ6 265 (1431655765) ∈ GW := gw2 193 rfl rfl
theorem csJ6_266 : Cond.constant RJ6 266 (858993459) ∈ GW := gw2 194 rfl rfl
theorem csJ6_267 : Cond.constant RJ6 267 (252645135) ∈ GW := gw2 195 rfl rfl
theorem csX10_202 : Cond.constantLong RX10 202 (-1) ∈ GW := gw3 44 rfl rfl
theorem csX10_204 : Cond.constantLong RX10 204 (-2) ∈ GW := gw3 45 rfl rfl
theorem csX1_83 : Cond.constantLong RX1 83 (-1) ∈ GW := gw3 193 rfl rfl
theorem csX10_351 : Cond.constantLong RX10 351 (2) ∈ GW := gw3 215 rfl rfl
theorem csX10_301 : Cond.constant RX10 301 (65535) ∈ GW := gw4 61 rfl rfl
theorem csX11_54 : Cond.constant RX11 54 (35280) ∈ GW := gw4 134 rfl rfl
theorem csX11_116 : Cond.constantLong RX11 116 (255) ∈ GW := gw5 14 rfl rfl
theorem csX11_137 : Cond.constantLong RX11 137 (48) ∈ GW := gw5 38 rfl rfl
theorem csX11_139 : Cond.constantLong RX11 139 (57) ∈ GW := gw5 39 rfl rfl
theorem csX11_155 : Cond.constantLong RX11 155 (2) ∈ GW := gw5 44 rfl rfl
theorem csX11_157 : Cond.constantLong RX11 157 (32) ∈ GW := gw5 45 rfl rfl
theorem csX11_165 : Cond.constantLong RX11 165 (4) ∈ GW := gw5 66 rfl rfl
theorem csX11_178 : Cond.constantLong RX11 178 (100) ∈ GW := gw5 91 rfl rfl
theorem csX11_184 : Cond.constantLong RX11 184 (200) ∈ GW := gw5 99 rfl rfl
theorem csX11_199 : Cond.constantLong RX11 199 (9) ∈ GW := gw5 128 rfl rfl
theorem csX11_201 : Cond.constantLong RX11 201 (31) ∈ GW := gw5 133 rfl rfl
theorem csX11_203 : Cond.constantLong RX11 203 (99) ∈ GW := gw5 134 rfl rfl
theorem csX11_205 : Cond.constantLong RX11 205 (-1) ∈ GW := gw5 143 rfl rfl
theorem csX11_207 : Cond.constantLong RX11 207 (-2) ∈ GW := gw5 144 rfl rfl
theorem csX11_226 : Cond.constantLong RX11 226 (7) ∈ GW := gw5 152 rfl rfl
theorem csX11_228 : Cond.constantLong RX11 228 (6) ∈ GW := gw5 153 rfl rfl
theorem csX11_240 : Cond.constantLong RX11 240 (281474976710655) ∈ GW := gw5 185 rfl rfl
theorem csX11_242 : Cond.constantLong RX11 242 (15) ∈ GW := gw5 186 rfl rfl
theorem csX11_263 : Cond.constantLong RX11 263 (11) ∈ GW := gw5 224 rfl rfl
theorem csX11_265 : Cond.constantLong RX11 265 (12) ∈ GW := gw5 225 rfl rfl
theorem csX11_286 : Cond.constantLong RX11 286 (3) ∈ GW := gw6 9 rfl rfl
theorem csX11_291 : Cond.constantLong RX11 291 (65535) ∈ GW := gw6 22 rfl rfl
theorem csX11_293 : Cond.constantLong RX11 293 (8) ∈ GW := gw6 23 rfl rfl
theorem csX11_298 : Cond.constantLong RX11 298 (32767) ∈ GW := gw6 31 rfl rfl
theorem csX11_300 : Cond.constantLong RX11 300 (4294967295) ∈ GW := gw6 32 rfl rfl
theorem mm_ok : MMok := ⟨(gw2 216 rfl rfl), (gw1 12 rfl rfl), (gw2 217 rfl rfl), (gw2 95 rfl rfl), (gw2 96 rfl rfl)⟩
theorem kd_0 : kd 0 = 9 := rfl
theorem gr_0_0 : gr 0 0 = 1 := rfl
theorem gr_0_2 : gr 0 2 = 2 := rfl
theorem gr_0_3 : gr 0 3 = 4 := rfl
theorem gr_0_4 : gr 0 4 = 8 := rfl
theorem gr_0_5 : gr 0 5 = 14 := rfl
theorem gr_0_6 : gr 0 6 = 21 := rfl
theorem gr_0_7 : gr 0 7 = 24 := rfl
theorem gr_0_8 : gr 0 8 = 26 := rfl
theorem gr_0_9 : gr 0 9 = 27 := rfl
theorem gr_0_10 : gr 0 10 = 29 := rfl
theorem gr_0_11 : gr 0 11 = 31 := rfl
theorem kd_1 : kd 1 = 103 := rfl
theorem ln_1 : ln 1 = 8 := rfl
theorem gr_1_0 : gr 1 0 = 32 := rfl
theorem gr_1_1 : gr 1 1 = 38 := rfl
theorem gr_1_2 : gr 1 2 = 44 := rfl
theorem gr_1_3 : gr 1 3 = 50 := rfl
theorem gr_1_4 : gr 1 4 = 56 := rfl
theorem gr_1_5 : gr 1 5 = 62 := rfl
theorem gr_1_6 : gr 1 6 = 68 := rfl
theorem gr_1_7 : gr 1 7 = 74 := rfl
theorem kd_2 : kd 2 = 8 := rfl
theorem gr_2_2 : gr 2 2 = 3 := rfl
theorem kd_3 : kd 3 = 102 := rfl
theorem ln_3 : ln 3 = 240 := rfl
theorem kd_4 : kd 4 = 7 := rfl
theorem gr_4_1 : gr 4 1 = 5 := rfl
theorem gr_4_2 : gr 4 2 = 6 := rfl
theorem gr_4_3 : gr 4 3 = 7 := rfl
theorem kd_5 : kd 5 = 100 := rfl
theorem ln_5 : ln 5 = 32 := rfl
theorem kd_6 : kd 6 = 100 := rfl
theorem ln_6 : ln 6 = 32 := rfl
theorem kd_7 : kd 7 = 100 := rfl
theorem ln_7 : ln 7 = 32 := rfl
theorem kd_8 : kd 8 = 4 := rfl
theorem gr_8_5 : gr 8 5 = 9 := rfl
theorem gr_8_6 : gr 8 6 = 13 := rfl
theorem kd_9 : kd 9 = 7 := rfl
theorem gr_9_1 : gr 9 1 = 10 := rfl
theorem gr_9_2 : gr 9 2 = 11 := rfl
theorem gr_9_3 : gr 9 3 = 12 := rfl
theorem kd_10 : kd 10 = 100 := rfl
theorem ln_10 : ln 10 = 32 := rfl
theorem kd_11 : kd 11 = 100 := rfl
theorem ln_11 : ln 11 = 32 := rfl
theorem kd_12 : kd 12 = 100 := rfl
theorem ln_12 : ln 12 = 32 := rfl
theorem kd_13 : kd 13 = 100 := rfl
theorem ln_13 : ln 13 = 32 := rfl
theorem kd_14 : kd 14 = 2 := rfl
theorem gr_14_2 : gr 14 2 = 15 := rfl
theorem gr_14_3 : gr 14 3 = 16 := rfl
theorem gr_14_4 : gr 14 4 = 17 := rfl
theorem kd_15 : kd 15 = 100 := rfl
theorem ln_15 : ln 15 = 32 := rfl
theorem kd_16 : kd 16 = 100 := rfl
theorem ln_16 : ln 16 = 32 := rfl
theorem kd_17 : kd 17 = 7 := rfl
theorem gr_17_1 : gr 17 1 = 18 := rfl
theorem gr_17_2 : gr 17 2 = 19 := rfl
theorem gr_17_3 : gr 17 3 = 20 := rfl
theorem kd_18 : kd 18 = 100 := rfl
theorem ln_18 : ln 18 = 32 := rfl
theorem kd_19 : kd 19 = 100 := rfl
theorem ln_19 : ln 19 = 32 := rfl
theorem kd_20 : kd 20 = 100 := rfl
theorem ln_20 : ln 20 = 32 := rfl
theorem kd_21 : kd 21 = 0 := rfl
theorem gr_21_5 : gr 21 5 = 22 := rfl
theorem gr_21_6 : gr 21 6 = 23 := rfl
theorem kd_22 : kd 22 = 100 := rfl
theorem ln_22 : ln 22 = 6 := rfl
theorem kd_23 : kd 23 = 100 := rfl
theorem ln_23 : ln 23 = 6 := rfl
theorem kd_24 : kd 24 = 1 := rfl
theorem gr_24_0 : gr 24 0 = 25 := rfl
theorem kd_25 : kd 25 = 100 := rfl
theorem ln_25 : ln 25 = 429 := rfl
theorem kd_26 : kd 26 = 101 := rfl
theorem ln_26 : ln 26 = 32 := rfl
theorem kd_27 : kd 27 = 3 := rfl
theorem gr_27_3 : gr 27 3 = 28 := rfl
theorem kd_28 : kd 28 = 100 := rfl
theorem ln_28 : ln 28 = 12 := rfl
theorem kd_29 : kd 29 = 3 := rfl
theorem gr_29_3 : gr 29 3 = 30 := rfl
theorem kd_30 : kd 30 = 100 := rfl
theorem ln_30 : ln 30 = 12 := rfl
theorem kd_31 : kd 31 = 104 := rfl
theorem ln_31 : ln 31 = 4 := rfl
theorem gr_31_0 : gr 31 0 = 80 := rfl
theorem gr_31_1 : gr 31 1 = 82 := rfl
theorem gr_31_2 : gr 31 2 = 84 := rfl
theorem gr_31_3 : gr 31 3 = 86 := rfl
theorem kd_32 : kd 32 = 5 := rfl
theorem gr_32_2 : gr 32 2 = 33 := rfl
theorem gr_32_3 : gr 32 3 = 37 := rfl
theorem kd_33 : kd 33 = 7 := rfl
theorem gr_33_1 : gr 33 1 = 34 := rfl
theorem gr_33_2 : gr 33 2 = 35 := rfl
theorem gr_33_3 : gr 33 3 = 36 := rfl
theorem kd_34 : kd 34 = 100 := rfl
theorem ln_34 : ln 34 = 32 := rfl
theorem kd_35 : kd 35 = 100 := rfl
theorem ln_35 : ln 35 = 32 := rfl
theorem kd_36 : kd 36 = 100 := rfl
theorem ln_36 : ln 36 = 32 := rfl
theorem kd_37 : kd 37 = 100 := rfl
theorem ln_37 : ln 37 = 32 := rfl
theorem kd_38 : kd 38 = 5 := rfl
theorem gr_38_2 : gr 38 2 = 39 := rfl
theorem gr_38_3 : gr 38 3 = 43 := rfl
theorem kd_39 : kd 39 = 7 := rfl
theorem gr_39_1 : gr 39 1 = 40 := rfl
theorem gr_39_2 : gr 39 2 = 41 := rfl
theorem gr_39_3 : gr 39 3 = 42 := rfl
theorem kd_40 : kd 40 = 100 := rfl
theorem ln_40 : ln 40 = 32 := rfl
theorem kd_41 : kd 41 = 100 := rfl
theorem ln_41 : ln 41 = 32 := rfl
theorem kd_42 : kd 42 = 100 := rfl
theorem ln_42 : ln 42 = 32 := rfl
theorem kd_43 : kd 43 = 100 := rfl
theorem ln_43 : ln 43 = 32 := rfl
theorem kd_44 : kd 44 = 5 := rfl
theorem gr_44_2 : gr 44 2 = 45 := rfl
theorem gr_44_3 : gr 44 3 = 49 := rfl
theorem kd_45 : kd 45 = 7 := rfl
theorem gr_45_1 : gr 45 1 = 46 := rfl
theorem gr_45_2 : gr 45 2 = 47 := rfl
theorem gr_45_3 : gr 45 3 = 48 := rfl
theorem kd_46 : kd 46 = 100 := rfl
theorem ln_46 : ln 46 = 32 := rfl
theorem kd_47 : kd 47 = 100 := rfl
theorem ln_47 : ln 47 = 32 := rfl
theorem kd_48 : kd 48 = 100 := rfl
theorem ln_48 : ln 48 = 32 := rfl
theorem kd_49 : kd 49 = 100 := rfl
theorem ln_49 : ln 49 = 32 := rfl
theorem kd_50 : kd 50 = 5 := rfl
theorem gr_50_2 : gr 50 2 = 51 := rfl
theorem gr_50_3 : gr 50 3 = 55 := rfl
theorem kd_51 : kd 51 = 7 := rfl
theorem gr_51_1 : gr 51 1 = 52 := rfl
theorem gr_51_2 : gr 51 2 = 53 := rfl
theorem gr_51_3 : gr 51 3 = 54 := rfl
theorem kd_52 : kd 52 = 100 := rfl
theorem ln_52 : ln 52 = 32 := rfl
theorem kd_53 : kd 53 = 100 := rfl
theorem ln_53 : ln 53 = 32 := rfl
theorem kd_54 : kd 54 = 100 := rfl
theorem ln_54 : ln 54 = 32 := rfl
theorem kd_55 : kd 55 = 100 := rfl
theorem ln_55 : ln 55 = 32 := rfl
theorem kd_56 : kd 56 = 5 := rfl
theorem gr_56_2 : gr 56 2 = 57 := rfl
theorem gr_56_3 : gr 56 3 = 61 := rfl
theorem kd_57 : kd 57 = 7 := rfl
theorem gr_57_1 : gr 57 1 = 58 := rfl
theorem gr_57_2 : gr 57 2 = 59 := rfl
theorem gr_57_3 : gr 57 3 = 60 := rfl
theorem kd_58 : kd 58 = 100 := rfl
theorem ln_58 : ln 58 = 32 := rfl
theorem kd_59 : kd 59 = 100 := rfl
theorem ln_59 : ln 59 = 32 := rfl
theorem kd_60 : kd 60 = 100 := rfl
theorem ln_60 : ln 60 = 32 := rfl
theorem kd_61 : kd 61 = 100 := rfl
theorem ln_61 : ln 61 = 32 := rfl
theorem kd_62 : kd 62 = 5 := rfl
theorem gr_62_2 : gr 62 2 = 63 := rfl
theorem gr_62_3 : gr 62 3 = 67 := rfl
theorem kd_63 : kd 63 = 7 := rfl
theorem gr_63_1 : gr 63 1 = 64 := rfl
theorem gr_63_2 : gr 63 2 = 65 := rfl
theorem gr_63_3 : gr 63 3 = 66 := rfl
theorem kd_64 : kd 64 = 100 := rfl
theorem ln_64 : ln 64 = 32 := rfl
theorem kd_65 : kd 65 = 100 := rfl
theorem ln_65 : ln 65 = 32 := rfl
theorem kd_66 : kd 66 = 100 := rfl
theorem ln_66 : ln 66 = 32 := rfl
theorem kd_67 : kd 67 = 100 := rfl
theorem ln_67 : ln 67 = 32 := rfl
theorem kd_68 : kd 68 = 5 := rfl
theorem gr_68_2 : gr 68 2 = 69 := rfl
theorem gr_68_3 : gr 68 3 = 73 := rfl
theorem kd_69 : kd 69 = 7 := rfl
theorem gr_69_1 : gr 69 1 = 70 := rfl
theorem gr_69_2 : gr 69 2 = 71 := rfl
theorem gr_69_3 : gr 69 3 = 72 := rfl
theorem kd_70 : kd 70 = 100 := rfl
theorem ln_70 : ln 70 = 32 := rfl
theorem kd_71 : kd 71 = 100 := rfl
theorem ln_71 : ln 71 = 32 := rfl
theorem kd_72 : kd 72 = 100 := rfl
theorem ln_72 : ln 72 = 32 := rfl
theorem kd_73 : kd 73 = 100 := rfl
theorem ln_73 : ln 73 = 32 := rfl
theorem kd_74 : kd 74 = 5 := rfl
theorem gr_74_2 : gr 74 2 = 75 := rfl
theorem gr_74_3 : gr 74 3 = 79 := rfl
theorem kd_75 : kd 75 = 7 := rfl
theorem gr_75_1 : gr 75 1 = 76 := rfl
theorem gr_75_2 : gr 75 2 = 77 := rfl
theorem gr_75_3 : gr 75 3 = 78 := rfl
theorem kd_76 : kd 76 = 100 := rfl
theorem ln_76 : ln 76 = 32 := rfl
theorem kd_77 : kd 77 = 100 := rfl
theorem ln_77 : ln 77 = 32 := rfl
theorem kd_78 : kd 78 = 100 := rfl
theorem ln_78 : ln 78 = 32 := rfl
theorem kd_79 : kd 79 = 100 := rfl
theorem ln_79 : ln 79 = 32 := rfl
theorem kd_80 : kd 80 = 6 := rfl
theorem gr_80_2 : gr 80 2 = 81 := rfl
theorem kd_81 : kd 81 = 100 := rfl
theorem ln_81 : ln 81 = 60 := rfl
theorem kd_82 : kd 82 = 6 := rfl
theorem gr_82_2 : gr 82 2 = 83 := rfl
theorem kd_83 : kd 83 = 100 := rfl
theorem ln_83 : ln 83 = 60 := rfl
theorem kd_84 : kd 84 = 6 := rfl
theorem gr_84_2 : gr 84 2 = 85 := rfl
theorem kd_85 : kd 85 = 100 := rfl
theorem ln_85 : ln 85 = 60 := rfl
theorem kd_86 : kd 86 = 6 := rfl
theorem gr_86_2 : gr 86 2 = 87 := rfl
theorem kd_87 : kd 87 = 100 := rfl
theorem ln_87 : ln 87 = 60 := rfl
theorem kd_88 : kd 88 = 10 := rfl
theorem gr_88_1 : gr 88 1 = 89 := rfl
theorem gr_88_2 : gr 88 2 = 90 := rfl
theorem gr_88_3 : gr 88 3 = 91 := rfl
theorem gr_88_6 : gr 88 6 = 92 := rfl
theorem gr_88_7 : gr 88 7 = 93 := rfl
theorem gr_88_8 : gr 88 8 = 94 := rfl
theorem gr_88_9 : gr 88 9 = 95 := rfl
theorem gr_88_17 : gr 88 17 = 96 := rfl
theorem gr_88_18 : gr 88 18 = 97 := rfl
theorem gr_88_19 : gr 88 19 = 98 := rfl
theorem gr_88_22 : gr 88 22 = 99 := rfl
theorem gr_88_23 : gr 88 23 = 100 := rfl
theorem gr_88_25 : gr 88 25 = 101 := rfl
theorem gr_88_26 : gr 88 26 = 102 := rfl
theorem gr_88_27 : gr 88 27 = 103 := rfl
theorem gr_88_28 : gr 88 28 = 104 := rfl
theorem gr_88_29 : gr 88 29 = 105 := rfl
theorem gr_88_30 : gr 88 30 = 106 := rfl
theorem gr_88_31 : gr 88 31 = 107 := rfl
theorem gr_88_35 : gr 88 35 = 108 := rfl
theorem gr_88_36 : gr 88 36 = 109 := rfl
theorem gr_88_37 : gr 88 37 = 110 := rfl
theorem kd_89 : kd 89 = 100 := rfl
theorem ln_89 : ln 89 = 8 := rfl
theorem kd_90 : kd 90 = 100 := rfl
theorem ln_90 : ln 90 = 8 := rfl
theorem kd_91 : kd 91 = 101 := rfl
theorem ln_91 : ln 91 = 256 := rfl
theorem kd_92 : kd 92 = 100 := rfl
theorem ln_92 : ln 92 = 32 := rfl
theorem kd_93 : kd 93 = 100 := rfl
theorem ln_93 : ln 93 = 32 := rfl
theorem kd_94 : kd 94 = 100 := rfl
theorem ln_94 : ln 94 = 32 := rfl
theorem kd_95 : kd 95 = 100 := rfl
theorem ln_95 : ln 95 = 240 := rfl
theorem kd_96 : kd 96 = 100 := rfl
theorem ln_96 : ln 96 = 32 := rfl
theorem kd_97 : kd 97 = 100 := rfl
theorem ln_97 : ln 97 = 32 := rfl
theorem kd_98 : kd 98 = 100 := rfl
theorem ln_98 : ln 98 = 32 := rfl
theorem kd_99 : kd 99 = 100 := rfl
theorem ln_99 : ln 99 = 35280 := rfl
theorem kd_100 : kd 100 = 100 := rfl
theorem ln_100 : ln 100 = 35280 := rfl
theorem kd_101 : kd 101 = 100 := rfl
theorem ln_101 : ln 101 = 7 := rfl
theorem kd_102 : kd 102 = 100 := rfl
theorem ln_102 : ln 102 = 12 := rfl
theorem kd_103 : kd 103 = 100 := rfl
theorem ln_103 : ln 103 = 1690 := rfl
theorem kd_104 : kd 104 = 101 := rfl
theorem ln_104 : ln 104 = 33 := rfl
theorem kd_105 : kd 105 = 101 := rfl
theorem ln_105 : ln 105 = 33 := rfl
theorem kd_106 : kd 106 = 100 := rfl
theorem ln_106 : ln 106 = 12 := rfl
theorem kd_107 : kd 107 = 100 := rfl
theorem ln_107 : ln 107 = 12 := rfl
theorem kd_108 : kd 108 = 100 := rfl
theorem ln_108 : ln 108 = 4 := rfl
theorem kd_109 : kd 109 = 100 := rfl
theorem ln_109 : ln 109 = 4 := rfl
theorem kd_110 : kd 110 = 100 := rfl
theorem ln_110 : ln 110 = 240 := rfl
theorem kf_3_3 {o : Nat} (h : kd o = 3) : kd (gr o 3) = 100 ∧ ln (gr o 3) = 12 := by
  have q : ∀ o, o < NC → kd o = 3 → kd (gr o 3) = 100 ∧ ln (gr o 3) = 12 := by decide +kernel
  exact q o (kd_lt h (by decide)) h
theorem kf_5_2 {o : Nat} (h : kd o = 5) : kd (gr o 2) = 7 ∧ ln (gr o 2) = 0 := by
  have q : ∀ o, o < NC → kd o = 5 → kd (gr o 2) = 7 ∧ ln (gr o 2) = 0 := by decide +kernel
  exact q o (kd_lt h (by decide)) h
theorem kf_5_3 {o : Nat} (h : kd o = 5) : kd (gr o 3) = 100 ∧ ln (gr o 3) = 32 := by
  have q : ∀ o, o < NC → kd o = 5 → kd (gr o 3) = 100 ∧ ln (gr o 3) = 32 := by decide +kernel
  exact q o (kd_lt h (by decide)) h
theorem kf_6_2 {o : Nat} (h : kd o = 6) : kd (gr o 2) = 100 ∧ ln (gr o 2) = 60 := by
  have q : ∀ o, o < NC → kd o = 6 → kd (gr o 2) = 100 ∧ ln (gr o 2) = 60 := by decide +kernel
  exact q o (kd_lt h (by decide)) h
theorem kf_7_1 {o : Nat} (h : kd o = 7) : kd (gr o 1) = 100 ∧ ln (gr o 1) = 32 := by
  have q : ∀ o, o < NC → kd o = 7 → kd (gr o 1) = 100 ∧ ln (gr o 1) = 32 := by decide +kernel
  exact q o (kd_lt h (by decide)) h
theorem kf_7_2 {o : Nat} (h : kd o = 7) : kd (gr o 2) = 100 ∧ ln (gr o 2) = 32 := by
  have q : ∀ o, o < NC → kd o = 7 → kd (gr o 2) = 100 ∧ ln (gr o 2) = 32 := by decide +kernel
  exact q o (kd_lt h (by decide)) h
theorem kf_7_3 {o : Nat} (h : kd o = 7) : kd (gr o 3) = 100 ∧ ln (gr o 3) = 32 := by
  have q : ∀ o, o < NC → kd o = 7 → kd (gr o 3) = 100 ∧ ln (gr o 3) = 32 := by decide +kernel
  exact q o (kd_lt h (by decide)) h
theorem rf_0_0 : rF 0 0 = false := rfl
theorem pf_0_0 : parseFieldDescriptor ((cT 0).2.1 0).2.2.1 = some .int := tyX0_ok 0 (by decide)
theorem rf_0_1 : rF 0 1 = false := rfl
theorem pf_0_1 : parseFieldDescriptor ((cT 0).2.1 1).2.2.1 = some .int := tyX0_ok 1 (by decide)
theorem rf_0_2 : rF 0 2 = false := rfl
theorem pf_0_2 : parseFieldDescriptor ((cT 0).2.1 2).2.2.1 = some .int := tyX0_ok 2 (by decide)
theorem rf_0_3 : rF 0 3 = false := rfl
theorem pf_0_3 : parseFieldDescriptor ((cT 0).2.1 3).2.2.1 = some .int := tyX0_ok 3 (by decide)
theorem rf_0_4 : rF 0 4 = false := rfl
theorem pf_0_4 : parseFieldDescriptor ((cT 0).2.1 4).2.2.1 = some .int := tyX0_ok 4 (by decide)
theorem rf_0_5 : rF 0 5 = true := rfl
theorem rf_0_6 : rF 0 6 = true := rfl
theorem rf_0_7 : rF 0 7 = false := rfl
theorem pf_0_7 : parseFieldDescriptor ((cT 0).2.1 7).2.2.1 = some .boolean := tyX0_ok 7 (by decide)
theorem rf_1_0 : rF 1 0 = true := rfl
theorem rf_1_1 : rF 1 1 = false := rfl
theorem pf_1_1 : parseFieldDescriptor ((cT 1).2.1 1).2.2.1 = some .int := tyX1_ok 1 (by decide)
theorem rf_1_2 : rF 1 2 = false := rfl
theorem pf_1_2 : parseFieldDescriptor ((cT 1).2.1 2).2.2.1 = some .int := tyX1_ok 2 (by decide)
theorem rf_2_0 : rF 2 0 = false := rfl
theorem pf_2_0 : parseFieldDescriptor ((cT 2).2.1 0).2.2.1 = some .int := tyX2_ok 0 (by decide)
theorem rf_2_1 : rF 2 1 = false := rfl
theorem pf_2_1 : parseFieldDescriptor ((cT 2).2.1 1).2.2.1 = some .int := tyX2_ok 1 (by decide)
theorem rf_2_2 : rF 2 2 = true := rfl
theorem rf_2_3 : rF 2 3 = true := rfl
theorem rf_2_4 : rF 2 4 = true := rfl
theorem rf_3_0 : rF 3 0 = false := rfl
theorem pf_3_0 : parseFieldDescriptor ((cT 3).2.1 0).2.2.1 = some .int := tyX3_ok 0 (by decide)
theorem rf_3_1 : rF 3 1 = false := rfl
theorem pf_3_1 : parseFieldDescriptor ((cT 3).2.1 1).2.2.1 = some .int := tyX3_ok 1 (by decide)
theorem rf_3_2 : rF 3 2 = false := rfl
theorem pf_3_2 : parseFieldDescriptor ((cT 3).2.1 2).2.2.1 = some .int := tyX3_ok 2 (by decide)
theorem rf_3_3 : rF 3 3 = true := rfl
theorem rf_4_0 : rF 4 0 = false := rfl
theorem pf_4_0 : parseFieldDescriptor ((cT 4).2.1 0).2.2.1 = some .int := tyX4_ok 0 (by decide)
theorem rf_4_1 : rF 4 1 = false := rfl
theorem pf_4_1 : parseFieldDescriptor ((cT 4).2.1 1).2.2.1 = some .int := tyX4_ok 1 (by decide)
theorem rf_4_2 : rF 4 2 = false := rfl
theorem pf_4_2 : parseFieldDescriptor ((cT 4).2.1 2).2.2.1 = some .int := tyX4_ok 2 (by decide)
theorem rf_4_3 : rF 4 3 = false := rfl
theorem pf_4_3 : parseFieldDescriptor ((cT 4).2.1 3).2.2.1 = some .int := tyX4_ok 3 (by decide)
theorem rf_4_4 : rF 4 4 = false := rfl
theorem pf_4_4 : parseFieldDescriptor ((cT 4).2.1 4).2.2.1 = some .int := tyX4_ok 4 (by decide)
theorem rf_4_5 : rF 4 5 = true := rfl
theorem rf_4_6 : rF 4 6 = true := rfl
theorem rf_5_0 : rF 5 0 = false := rfl
theorem pf_5_0 : parseFieldDescriptor ((cT 5).2.1 0).2.2.1 = some .int := tyX6_ok 0 (by decide)
theorem rf_5_1 : rF 5 1 = false := rfl
theorem pf_5_1 : parseFieldDescriptor ((cT 5).2.1 1).2.2.1 = some .int := tyX6_ok 1 (by decide)
theorem rf_5_2 : rF 5 2 = true := rfl
theorem rf_5_3 : rF 5 3 = true := rfl
theorem rf_6_0 : rF 6 0 = false := rfl
theorem pf_6_0 : parseFieldDescriptor ((cT 6).2.1 0).2.2.1 = some .int := tyX7_ok 0 (by decide)
theorem rf_6_1 : rF 6 1 = false := rfl
theorem pf_6_1 : parseFieldDescriptor ((cT 6).2.1 1).2.2.1 = some .int := tyX7_ok 1 (by decide)
theorem rf_6_2 : rF 6 2 = true := rfl
theorem rf_7_0 : rF 7 0 = false := rfl
theorem pf_7_0 : parseFieldDescriptor ((cT 7).2.1 0).2.2.1 = some .int := tyX8_ok 0 (by decide)
theorem rf_7_1 : rF 7 1 = true := rfl
theorem rf_7_2 : rF 7 2 = true := rfl
theorem rf_7_3 : rF 7 3 = true := rfl
theorem rf_8_0 : rF 8 0 = false := rfl
theorem pf_8_0 : parseFieldDescriptor ((cT 8).2.1 0).2.2.1 = some .int := tyX9_ok 0 (by decide)
theorem rf_8_1 : rF 8 1 = false := rfl
theorem pf_8_1 : parseFieldDescriptor ((cT 8).2.1 1).2.2.1 = some .int := tyX9_ok 1 (by decide)
theorem rf_8_2 : rF 8 2 = true := rfl
theorem rf_8_3 : rF 8 3 = false := rfl
theorem pf_8_3 : parseFieldDescriptor ((cT 8).2.1 3).2.2.1 = some .int := tyX9_ok 3 (by decide)
theorem rf_8_4 : rF 8 4 = false := rfl
theorem pf_8_4 : parseFieldDescriptor ((cT 8).2.1 4).2.2.1 = some .int := tyX9_ok 4 (by decide)
theorem rf_8_5 : rF 8 5 = false := rfl
theorem pf_8_5 : parseFieldDescriptor ((cT 8).2.1 5).2.2.1 = some .int := tyX9_ok 5 (by decide)
theorem rf_8_6 : rF 8 6 = false := rfl
theorem pf_8_6 : parseFieldDescriptor ((cT 8).2.1 6).2.2.1 = some .int := tyX9_ok 6 (by decide)
theorem rf_9_0 : rF 9 0 = true := rfl
theorem rf_9_1 : rF 9 1 = false := rfl
theorem pf_9_1 : parseFieldDescriptor ((cT 9).2.1 1).2.2.1 = some .int := tyX10_ok 1 (by decide)
theorem rf_9_2 : rF 9 2 = true := rfl
theorem rf_9_3 : rF 9 3 = true := rfl
theorem rf_9_4 : rF 9 4 = true := rfl
theorem rf_9_5 : rF 9 5 = true := rfl
theorem rf_9_6 : rF 9 6 = true := rfl
theorem rf_9_7 : rF 9 7 = true := rfl
theorem rf_9_8 : rF 9 8 = true := rfl
theorem rf_9_9 : rF 9 9 = true := rfl
theorem rf_9_10 : rF 9 10 = true := rfl
theorem rf_9_11 : rF 9 11 = true := rfl
theorem rf_10_0 : rF 10 0 = false := rfl
theorem pf_10_0 : parseFieldDescriptor ((cT 10).2.1 0).2.2.1 = some .int := tyX11_ok 0 (by decide)
theorem rf_10_1 : rF 10 1 = true := rfl
theorem rf_10_2 : rF 10 2 = true := rfl
theorem rf_10_3 : rF 10 3 = true := rfl
theorem rf_10_4 : rF 10 4 = false := rfl
theorem pf_10_4 : parseFieldDescriptor ((cT 10).2.1 4).2.2.1 = some .int := tyX11_ok 4 (by decide)
theorem rf_10_5 : rF 10 5 = false := rfl
theorem pf_10_5 : parseFieldDescriptor ((cT 10).2.1 5).2.2.1 = some .int := tyX11_ok 5 (by decide)
theorem rf_10_6 : rF 10 6 = true := rfl
theorem rf_10_7 : rF 10 7 = true := rfl
theorem rf_10_8 : rF 10 8 = true := rfl
theorem rf_10_9 : rF 10 9 = true := rfl
theorem rf_10_10 : rF 10 10 = false := rfl
theorem pf_10_10 : parseFieldDescriptor ((cT 10).2.1 10).2.2.1 = some .int := tyX11_ok 10 (by decide)
theorem rf_10_11 : rF 10 11 = false := rfl
theorem pf_10_11 : parseFieldDescriptor ((cT 10).2.1 11).2.2.1 = some .int := tyX11_ok 11 (by decide)
theorem rf_10_12 : rF 10 12 = false := rfl
theorem pf_10_12 : parseFieldDescriptor ((cT 10).2.1 12).2.2.1 = some .int := tyX11_ok 12 (by decide)
theorem rf_10_13 : rF 10 13 = false := rfl
theorem pf_10_13 : parseFieldDescriptor ((cT 10).2.1 13).2.2.1 = some .int := tyX11_ok 13 (by decide)
theorem rf_10_14 : rF 10 14 = false := rfl
theorem pf_10_14 : parseFieldDescriptor ((cT 10).2.1 14).2.2.1 = some .int := tyX11_ok 14 (by decide)
theorem rf_10_15 : rF 10 15 = false := rfl
theorem pf_10_15 : parseFieldDescriptor ((cT 10).2.1 15).2.2.1 = some .int := tyX11_ok 15 (by decide)
theorem rf_10_16 : rF 10 16 = false := rfl
theorem pf_10_16 : parseFieldDescriptor ((cT 10).2.1 16).2.2.1 = some .int := tyX11_ok 16 (by decide)
theorem rf_10_17 : rF 10 17 = true := rfl
theorem rf_10_18 : rF 10 18 = true := rfl
theorem rf_10_19 : rF 10 19 = true := rfl
theorem rf_10_20 : rF 10 20 = false := rfl
theorem pf_10_20 : parseFieldDescriptor ((cT 10).2.1 20).2.2.1 = some .int := tyX11_ok 20 (by decide)
theorem rf_10_21 : rF 10 21 = false := rfl
theorem pf_10_21 : parseFieldDescriptor ((cT 10).2.1 21).2.2.1 = some .int := tyX11_ok 21 (by decide)
theorem rf_10_22 : rF 10 22 = true := rfl
theorem rf_10_23 : rF 10 23 = true := rfl
theorem rf_10_24 : rF 10 24 = false := rfl
theorem pf_10_24 : parseFieldDescriptor ((cT 10).2.1 24).2.2.1 = some .int := tyX11_ok 24 (by decide)
theorem rf_10_25 : rF 10 25 = true := rfl
theorem rf_10_26 : rF 10 26 = true := rfl
theorem rf_10_27 : rF 10 27 = true := rfl
theorem rf_10_28 : rF 10 28 = true := rfl
theorem rf_10_29 : rF 10 29 = true := rfl
theorem rf_10_30 : rF 10 30 = true := rfl
theorem rf_10_31 : rF 10 31 = true := rfl
theorem rf_10_32 : rF 10 32 = false := rfl
theorem pf_10_32 : parseFieldDescriptor ((cT 10).2.1 32).2.2.1 = some .int := tyX11_ok 32 (by decide)
theorem rf_10_33 : rF 10 33 = false := rfl
theorem pf_10_33 : parseFieldDescriptor ((cT 10).2.1 33).2.2.1 = some .int := tyX11_ok 33 (by decide)
theorem rf_10_34 : rF 10 34 = false := rfl
theorem pf_10_34 : parseFieldDescriptor ((cT 10).2.1 34).2.2.1 = some .int := tyX11_ok 34 (by decide)
theorem rf_10_35 : rF 10 35 = true := rfl
theorem rf_10_36 : rF 10 36 = true := rfl
theorem rf_10_37 : rF 10 37 = true := rfl
theorem ka_103 {i : Int32} (h : vp_in i 8) : kd (gr 1 i.toNatClampNeg) = 5 := by
  have q : ∀ k, k < 8 → kd (gr 1 k) = 5 := by decide
  exact q _ (Nat.lt_of_not_le fun z => h (Or.inr z))
theorem ka_104 {i : Int32} (h : vp_in i 4) : kd (gr 31 i.toNatClampNeg) = 6 := by
  have q : ∀ k, k < 4 → kd (gr 31 k) = 6 := by decide
  exact q _ (Nat.lt_of_not_le fun z => h (Or.inr z))
/-! derived rules -/
def bI (c : Prop) [Decidable c] : Int32 := if c then 1 else 0
theorem bI_pos {c : Prop} [Decidable c] (h : c) : bI c = 1 := if_pos h
theorem bI_neg {c : Prop} [Decidable c] (h : ¬ c) : bI c = 0 := if_neg h
theorem bI_01 {c : Prop} [Decidable c] : bI c = 0 ∨ bI c = 1 := by by_cases h : c <;> simp [bI, h]
theorem lsub_nil : lsub [] [] := trivial
theorem lsub_keep {a : Option Value} {l l' : List (Option Value)} (h : lsub l l') : lsub (a :: l) (a :: l') := ⟨Or.inr rfl, h⟩
theorem lsub_drop {a : Option Value} {l l' : List (Option Value)} (h : lsub l l') : lsub (a :: l) (none :: l') := ⟨Or.inl rfl, h⟩
section BASEV
variable {M : Mt} {d pc pc' : Nat} {L L' : List (Option Value)} {st st' : List Value} {σ σ' : St} {Q : Option Value → St → Prop}
theorem br_ifeq_b {c : Prop} [Decidable c] {off : Int} (tgt : Nat) (hd : decode M.2.1 pc = .ok (.ifCond .eq off, 3)) (ht : (pc : Int) + off = (tgt : Int)) : Br M d pc L (.int (bI c) :: st) σ (¬ c) c tgt (pc + 3) st := by
  intro X p l e R s m args below meth c0 A0 H0 cells slots Q F kt kf
  exact br_if_eq tgt hd ht X p l e R s m args below meth c0 A0 H0 cells slots Q F (fun h => kt (fun h2 => by rw [bI_pos h2] at h; exact absurd h (by decide))) (fun h => kf (Decidable.byContradiction fun h2 => h (bI_neg h2)))
theorem br_ifne_b {c : Prop} [Decidable c] {off : Int} (tgt : Nat) (hd : decode M.2.1 pc = .ok (.ifCond .ne off, 3)) (ht : (pc : Int) + off = (tgt : Int)) : Br M d pc L (.int (bI c) :: st) σ c (¬ c) tgt (pc + 3) st := by
  intro X p l e R s m args below meth c0 A0 H0 cells slots Q F kt kf
  exact br_if_ne tgt hd ht X p l e R s m args below meth c0 A0 H0 cells slots Q F (fun h => kt (Decidable.byContradiction fun h2 => h (bI_neg h2))) (fun h => kf (fun h2 => by rw [bI_pos h2] at h; exact absurd h (by decide)))
theorem lc_lt {x y : Int64} : lg_cmp x y < 0 ↔ x < y := by
  unfold lg_cmp
  by_cases h1 : x > y
  · rw [if_pos h1]; exact ⟨fun h => absurd h (by decide), fun h => absurd h1 (lg_lt_not h)⟩
  · rw [if_neg h1]
    by_cases h2 : x = y
    · rw [if_pos h2]; subst h2; exact ⟨fun h => absurd h (by decide), fun h => absurd h (by simp [Int64.lt_iff_toInt_lt])⟩
    · rw [if_neg h2]; refine ⟨fun _ => ?_, fun _ => by decide⟩
      simp only [Int64.lt_iff_toInt_lt, ← Int64.toInt_inj] at *; omega
theorem lc_eq {x y : Int64} : lg_cmp x y = 0 ↔ x = y := by
  unfold lg_cmp
  by_cases h1 : x > y
  · rw [if_pos h1]; refine ⟨fun h => absurd h (by decide), fun h => ?_⟩
    subst h; exact absurd h1 (by simp [Int64.lt_iff_toInt_lt])
  · rw [if_neg h1]
    by_cases h2 : x = y
    · rw [if_pos h2]; exact ⟨fun _ => h2, fun _ => rfl⟩
    · rw [if_neg h2]; exact ⟨fun h => absurd h (by decide), fun h => absurd h h2⟩
theorem lc_gt {x y : Int64} : 0 < lg_cmp x y ↔ y < x := by
  unfold lg_cmp
  by_cases h1 : x > y
  · rw [if_pos h1]; exact ⟨fun _ => h1, fun _ => by decide⟩
  · rw [if_neg h1]
    by_cases h2 : x = y
    · rw [if_pos h2]; subst h2; exact ⟨fun h => absurd h (by decide), fun h => absurd h (by simp [Int64.lt_iff_toInt_lt])⟩
    · rw [if_neg h2]; exact ⟨fun h => absurd h (by decide), fun h => absurd h h1⟩
theorem i32_nlt {x y : Int32} : ¬ x < y ↔ y ≤ x := by simp only [Int32.lt_iff_toInt_lt, Int32.le_iff_toInt_le]; omega
theorem i32_nle {x y : Int32} : ¬ x ≤ y ↔ y < x := by simp only [Int32.lt_iff_toInt_lt, Int32.le_iff_toInt_le]; omega
theorem i64_nlt {x y : Int64} : ¬ x < y ↔ y ≤ x := by simp only [Int64.lt_iff_toInt_lt, Int64.le_iff_toInt_le]; omega
theorem i64_nle {x y : Int64} : ¬ x ≤ y ↔ y < x := by simp only [Int64.lt_iff_toInt_lt, Int64.le_iff_toInt_le]; omega
theorem Br.imp {q q2 r r2 : Prop} {pc1 pc2 : Nat} (h : Br M d pc L st σ q q2 pc1 pc2 st') (h1 : q → r) (h2 : q2 → r2) : Br M d pc L st σ r r2 pc1 pc2 st' :=
  fun X p l e R s m args below meth c0 A0 H0 cells slots Q F kt kf => h X p l e R s m args below meth c0 A0 H0 cells slots Q F (fun a => kt (h1 a)) (fun a => kf (h2 a))
theorem Go.br {q q2 : Prop} {pc1 pc2 : Nat} {st1 : List Value} (h : Go M d pc L st σ pc' L' st' σ') (h2 : Br M d pc' L' st' σ' q q2 pc1 pc2 st1) (k1 : q → Run M d pc1 L' st1 σ' Q) (k2 : q2 → Run M d pc2 L' st1 σ' Q) : Run M d pc L st σ Q := h.run (h2.run k1 k2)
theorem brl_lt {x y : Int64} {off : Int} (tgt : Nat) (hd : decode M.2.1 pc = .ok (.ifCond .lt off, 3)) (ht : (pc : Int) + off = (tgt : Int)) : Br M d pc L (.int (lg_cmp x y) :: st) σ (x < y) (y ≤ x) tgt (pc + 3) st := (br_if_lt tgt hd ht).imp (fun h => lc_lt.mp h) (fun h => i64_nlt.mp fun h2 => h (lc_lt.mpr h2))
theorem brl_ge {x y : Int64} {off : Int} (tgt : Nat) (hd : decode M.2.1 pc = .ok (.ifCond .ge off, 3)) (ht : (pc : Int) + off = (tgt : Int)) : Br M d pc L (.int (lg_cmp x y) :: st) σ (y ≤ x) (x < y) tgt (pc + 3) st := (br_if_ge tgt hd ht).imp (fun h => i64_nlt.mp fun h2 => absurd h (i32_nle.mpr (lc_lt.mpr h2))) (fun h => lc_lt.mp (i32_nle.mp h))
theorem brl_gt {x y : Int64} {off : Int} (tgt : Nat) (hd : decode M.2.1 pc = .ok (.ifCond .gt off, 3)) (ht : (pc : Int) + off = (tgt : Int)) : Br M d pc L (.int (lg_cmp x y) :: st) σ (y < x) (x ≤ y) tgt (pc + 3) st := (br_if_gt tgt hd ht).imp (fun h => lc_gt.mp h) (fun h => i64_nlt.mp fun h2 => h (lc_gt.mpr h2))
theorem brl_le {x y : Int64} {off : Int} (tgt : Nat) (hd : decode M.2.1 pc = .ok (.ifCond .le off, 3)) (ht : (pc : Int) + off = (tgt : Int)) : Br M d pc L (.int (lg_cmp x y) :: st) σ (x ≤ y) (y < x) tgt (pc + 3) st := (br_if_le tgt hd ht).imp (fun h => i64_nlt.mp fun h2 => absurd h (i32_nle.mpr (lc_gt.mpr h2))) (fun h => lc_gt.mp (i32_nle.mp h))
theorem brl_eq {x y : Int64} {off : Int} (tgt : Nat) (hd : decode M.2.1 pc = .ok (.ifCond .eq off, 3)) (ht : (pc : Int) + off = (tgt : Int)) : Br M d pc L (.int (lg_cmp x y) :: st) σ (x = y) (¬ x = y) tgt (pc + 3) st := (br_if_eq tgt hd ht).imp (fun h => lc_eq.mp h) (fun h h2 => h (lc_eq.mpr h2))
theorem brl_ne {x y : Int64} {off : Int} (tgt : Nat) (hd : decode M.2.1 pc = .ok (.ifCond .ne off, 3)) (ht : (pc : Int) + off = (tgt : Int)) : Br M d pc L (.int (lg_cmp x y) :: st) σ (¬ x = y) (x = y) tgt (pc + 3) st := (br_if_ne tgt hd ht).imp (fun h h2 => h (lc_eq.mpr h2)) (fun h => lc_eq.mp h)
/-! the plain branches, with what holds said without a 'not' -/
theorem bi_lt {x y : Int32} {off : Int} (tgt : Nat) (hd : decode M.2.1 pc = .ok (.if_icmp .lt off, 3)) (ht : (pc : Int) + off = (tgt : Int)) : Br M d pc L (.int y :: .int x :: st) σ (x < y) (y ≤ x) tgt (pc + 3) st := (br_icmp_lt tgt hd ht).imp id (fun h => i32_nlt.mp h)
theorem bi_ge {x y : Int32} {off : Int} (tgt : Nat) (hd : decode M.2.1 pc = .ok (.if_icmp .ge off, 3)) (ht : (pc : Int) + off = (tgt : Int)) : Br M d pc L (.int y :: .int x :: st) σ (y ≤ x) (x < y) tgt (pc + 3) st := (br_icmp_ge tgt hd ht).imp id (fun h => i32_nle.mp h)
theorem bi_gt {x y : Int32} {off : Int} (tgt : Nat) (hd : decode M.2.1 pc = .ok (.if_icmp .gt off, 3)) (ht : (pc : Int) + off = (tgt : Int)) : Br M d pc L (.int y :: .int x :: st) σ (y < x) (x ≤ y) tgt (pc + 3) st := (br_icmp_gt tgt hd ht).imp id (fun h => i32_nlt.mp h)
theorem bi_le {x y : Int32} {off : Int} (tgt : Nat) (hd : decode M.2.1 pc = .ok (.if_icmp .le off, 3)) (ht : (pc : Int) + off = (tgt : Int)) : Br M d pc L (.int y :: .int x :: st) σ (x ≤ y) (y < x) tgt (pc + 3) st := (br_icmp_le tgt hd ht).imp id (fun h => i32_nle.mp h)
theorem bi_eq {x y : Int32} {off : Int} (tgt : Nat) (hd : decode M.2.1 pc = .ok (.if_icmp .eq off, 3)) (ht : (pc : Int) + off = (tgt : Int)) : Br M d pc L (.int y :: .int x :: st) σ (x = y) (¬ x = y) tgt (pc + 3) st := br_icmp_eq tgt hd ht
theorem bi_ne {x y : Int32} {off : Int} (tgt : Nat) (hd : decode M.2.1 pc = .ok (.if_icmp .ne off, 3)) (ht : (pc : Int) + off = (tgt : Int)) : Br M d pc L (.int y :: .int x :: st) σ (¬ x = y) (x = y) tgt (pc + 3) st := br_icmp_ne tgt hd ht
theorem bz_lt {x : Int32} {off : Int} (tgt : Nat) (hd : decode M.2.1 pc = .ok (.ifCond .lt off, 3)) (ht : (pc : Int) + off = (tgt : Int)) : Br M d pc L (.int x :: st) σ (x < 0) (0 ≤ x) tgt (pc + 3) st := (br_if_lt tgt hd ht).imp id (fun h => i32_nlt.mp h)
theorem bz_ge {x : Int32} {off : Int} (tgt : Nat) (hd : decode M.2.1 pc = .ok (.ifCond .ge off, 3)) (ht : (pc : Int) + off = (tgt : Int)) : Br M d pc L (.int x :: st) σ (0 ≤ x) (x < 0) tgt (pc + 3) st := (br_if_ge tgt hd ht).imp id (fun h => i32_nle.mp h)
theorem bz_gt {x : Int32} {off : Int} (tgt : Nat) (hd : decode M.2.1 pc = .ok (.ifCond .gt off, 3)) (ht : (pc : Int) + off = (tgt : Int)) : Br M d pc L (.int x :: st) σ (0 < x) (x ≤ 0) tgt (pc + 3) st := (br_if_gt tgt hd ht).imp id (fun h => i32_nlt.mp h)
theorem bz_le {x : Int32} {off : Int} (tgt : Nat) (hd : decode M.2.1 pc = .ok (.ifCond .le off, 3)) (ht : (pc : Int) + off = (tgt : Int)) : Br M d pc L (.int x :: st) σ (x ≤ 0) (0 < x) tgt (pc + 3) st := (br_if_le tgt hd ht).imp id (fun h => i32_nle.mp h)
theorem bz_eq {x : Int32} {off : Int} (tgt : Nat) (hd : decode M.2.1 pc = .ok (.ifCond .eq off, 3)) (ht : (pc : Int) + off = (tgt : Int)) : Br M d pc L (.int x :: st) σ (x = 0) (¬ x = 0) tgt (pc + 3) st := br_if_eq tgt hd ht
theorem bz_ne {x : Int32} {off : Int} (tgt : Nat) (hd : decode M.2.1 pc = .ok (.ifCond .ne off, 3)) (ht : (pc : Int) + off = (tgt : Int)) : Br M d pc L (.int x :: st) σ (¬ x = 0) (x = 0) tgt (pc + 3) st := br_if_ne tgt hd ht
def mxI (x y : Int32) : Int32 := if x < y then y else x
def mnI (x y : Int32) : Int32 := if y < x then y else x
theorem go_maxN (hm : MMok) {i : Nat} {x y : Int32} (hl : Cond.methodLink M.1 i Lib.Math.max.name ∈ GW) (hML : L.length = M.2.2.1) (hst : (st.map fun v => v.category).sum ≤ 8) (hd1 : 1 ≤ d) (hd : decode M.2.1 pc = .ok (.invokestatic i, 3)) : Go M d pc L (.int y :: .int x :: st) σ (pc + 3) L (.int (mxI x y) :: st) σ := go_max hm hl hML hst hd1 hd
theorem go_minN (hm : MMok) {i : Nat} {x y : Int32} (hl : Cond.methodLink M.1 i Lib.Math.min.name ∈ GW) (hML : L.length = M.2.2.1) (hst : (st.map fun v => v.category).sum ≤ 8) (hd1 : 1 ≤ d) (hd : decode M.2.1 pc = .ok (.invokestatic i, 3)) : Go M d pc L (.int y :: .int x :: st) σ (pc + 3) L (.int (mnI x y) :: st) σ := go_min hm hl hML hst hd1 hd
/-! calls whose answer and world are known -/
theorem Run.callS1 {y : MethodName} {Mc : Mt} {n i : Nat} {As : List Value} {r : Value} (hm : MS y Mc n) (hl : Lk M.1 i y) (hn : As.length = n) (hst : As.reverse ++ st = st') (hML : L.length = M.2.2.1) (hs : (st.map fun v => v.category).sum ≤ 8)
    (hd : decode M.2.1 pc = .ok (.invokestatic i, 3)) (hc : Ct y Mc d As σ (fun v σ1 => v = some r ∧ σ1 = σ')) (k : Run M (d + 1) (pc + 3) L (r :: st) σ' Q) : Run M (d + 1) pc L st' σ Q :=
  Run.callS hm hl hn hst hML hs hd (hc.mono (by rintro _ _ ⟨rfl, rfl⟩; exact k))
theorem Run.callS0 {y : MethodName} {Mc : Mt} {n i : Nat} {As : List Value} (hm : MS y Mc n) (hl : Lk M.1 i y) (hn : As.length = n) (hst : As.reverse ++ st = st') (hML : L.length = M.2.2.1) (hs : (st.map fun v => v.category).sum ≤ 8)
    (hd : decode M.2.1 pc = .ok (.invokestatic i, 3)) (hc : Ct y Mc d As σ (fun v σ1 => v = none ∧ σ1 = σ')) (k : Run M (d + 1) (pc + 3) L st σ' Q) : Run M (d + 1) pc L st' σ Q :=
  Run.callS hm hl hn hst hML hs hd (hc.mono (by rintro _ _ ⟨rfl, rfl⟩; exact k))
theorem Run.callV1 {y : MethodName} {Mc : Mt} {n i b ci : Nat} {As : List Value} {q : vw_C} {r : Value} (hm : MV y Mc n) (hl : Lk M.1 i y) (hk : kd b = ci) (hci : ci < 100) (hq : cls[ci]? = some q) (hqn : q.1 = y.cls) (hn : As.length = n) (hst : As.reverse ++ .ref b :: st = st') (hML : L.length = M.2.2.1) (hs : (st.map fun v => v.category).sum ≤ 8)
    (hd : decode M.2.1 pc = .ok (.invokevirtual i, 3)) (hc : Ct y Mc d (.ref b :: As) σ (fun v σ1 => v = some r ∧ σ1 = σ')) (k : Run M (d + 1) (pc + 3) L (r :: st) σ' Q) : Run M (d + 1) pc L st' σ Q :=
  Run.callV hm hl hk hci hq hqn hn hst hML hs hd (hc.mono (by rintro _ _ ⟨rfl, rfl⟩; exact k))
theorem Run.callV0 {y : MethodName} {Mc : Mt} {n i b ci : Nat} {As : List Value} {q : vw_C} (hm : MV y Mc n) (hl : Lk M.1 i y) (hk : kd b = ci) (hci : ci < 100) (hq : cls[ci]? = some q) (hqn : q.1 = y.cls) (hn : As.length = n) (hst : As.reverse ++ .ref b :: st = st') (hML : L.length = M.2.2.1) (hs : (st.map fun v => v.category).sum ≤ 8)
    (hd : decode M.2.1 pc = .ok (.invokevirtual i, 3)) (hc : Ct y Mc d (.ref b :: As) σ (fun v σ1 => v = none ∧ σ1 = σ')) (k : Run M (d + 1) (pc + 3) L st σ' Q) : Run M (d + 1) pc L st' σ Q :=
  Run.callV hm hl hk hci hq hqn hn hst hML hs hd (hc.mono (by rintro _ _ ⟨rfl, rfl⟩; exact k))
theorem vp_lit {i : Int32} {n : Nat} (h : decide (i < 0) = false) (h2 : Nat.ble n i.toNatClampNeg = false) : vp_in i n := by
  rintro (q | q)
  · exact absurd q (of_decide_eq_false h)
  · rw [Nat.ble_eq_true_of_le q] at h2; cases h2
/-! the class's own reads and writes of a row -/
def aG (a : Nat) (i : Int32) (σ : St) : Int32 := if i < 0 then 0 else if nI (ln a) ≤ i then 0 else σ.1 a i.toNatClampNeg
def aP (a : Nat) (i v : Int32) (σ : St) : St := if i < 0 then σ else if nI (ln a) ≤ i then σ else sA σ a (upd (σ.1 a) i.toNatClampNeg v)
theorem ln_small (a : Nat) : ln a < 35281 := by
  have q : ∀ a, a < NC → ln a < 35281 := by decide +kernel
  rcases Nat.lt_or_ge a NC with h | h
  · exact q a h
  · have h1 : lnL.length ≤ a := h
    have h2 : ln a = 0 := by unfold ln; rw [List.getD_eq_getElem?_getD, List.getElem?_eq_none h1]; rfl
    omega
theorem vp_of {x : Int32} {n : Nat} (h0 : 0 ≤ x) (h1 : x < nI n) (hn : n < 2 ^ 31) : vp_in x n := by
  rw [Int32.le_iff_toInt_le] at h0
  rw [Int32.lt_iff_toInt_lt, nI_toInt hn] at h1
  have e0 : (0 : Int32).toInt = 0 := rfl
  rintro (q | q)
  · rw [Int32.lt_iff_toInt_lt] at q; omega
  · have : x.toNatClampNeg = x.toInt.toNat := rfl
    omega
end BASEV

end BASE

/-! THE WORLD IS MADE: the two objects -/
section CTWO
theorem AtC.cw {X : Cx} {p : Program} {l : Launch} {e : Env} {R : Room} {s : State} {m : MethodId} {args : Array Value} {below : List Frame} {meth : Method} {c : Code} {A0 : Nat → Prop} {H0 : Heap} {Z : State → Prop} {cells slots pc : Nat} {L : List (Option Value)} {st : List Value} {k : Nat} {w w' : Nat → va_E} (h : w = w') (kk : AtC X p l e R s m args below meth c A0 H0 Z cells slots pc L st k w') : AtC X p l e R s m args below meth c A0 H0 Z cells slots pc L st k w := by rw [h]; exact kk
theorem arrV_cg (cA : ClassId) {n : Nat} {f g : Nat → Value} (h : ∀ j, j < n → f j = g j) : arrV cA n f = arrV cA n g := by
  unfold arrV
  congr 2
  funext j
  exact h j.1 j.2
theorem AtC.ch {X : Cx} {p : Program} {l : Launch} {e : Env} {R : Room} {s : State} {m : MethodId} {args : Array Value} {below : List Frame} {meth : Method} {c : Code} {A0 : Nat → Prop} {H0 : Heap} {Z : State → Prop} {cells slots pc : Nat} {L : List (Option Value)} {st : List Value} {k : Nat} {w : Nat → va_E} (o : Nat) {cA : ClassId} {a a' : vp_A} (hw : w o = .inl (cA, a)) (ha : vp_cell cA a = vp_cell cA a') (kk : AtC X p l e R s m args below meth c A0 H0 Z cells slots pc L st k (uE w o (.inl (cA, a')))) : AtC X p l e R s m args below meth c A0 H0 Z cells slots pc L st k w := by
  intro H locs ls hz hP hS hL
  refine kk H locs ls hz (fun i q hq => ?_) hS hL
  have hi : i < k := by
    have := (List.getElem?_eq_some_iff.mp hq).1
    rwa [pE_len] at this
  rw [pE_at hi] at hq
  cases hq
  have h0 := hP i _ (pE_at hi)
  by_cases e : i = o
  · subst e
    rw [hw] at h0
    have : uE w i (.inl (cA, a')) i = .inl (cA, a') := if_pos rfl
    rw [this]
    show H[X.2.1 i]? = some (vp_cell cA a')
    rw [← ha]; exact h0
  · have : uE w o (.inl (cA, a')) i = w i := if_neg e
    rw [this]; exact h0
/-! the reference -/
def wM (X : Cx) (w : Nat → va_E) (fs : List Value) (lf : Nat → Int32) : Nat → va_E := uE (vO X w 88 10 fs) 108 (.inl (X.2.2 0, 4, .inl lf))
theorem wM_o {X : Cx} {w : Nat → va_E} {fs : List Value} {lf : Nat → Int32} : wM X w fs lf 88 = .inr (10, fs) := by unfold wM uE; rw [if_neg (by decide), vO_at]
theorem wM_u {X : Cx} {w : Nat → va_E} {fs fs' : List Value} {lf : Nat → Int32} : uE (wM X w fs lf) 88 (.inr (10, fs')) = wM X w fs' lf := by
  funext i
  unfold wM uE vO
  by_cases h : i = 88
  · subst h; rw [if_pos rfl, if_neg (by decide), if_neg (by decide), if_pos rfl]
  · rw [if_neg h, if_neg h, if_neg h]
theorem wM_8 {X : Cx} {w : Nat → va_E} {fs : List Value} {lf : Nat → Int32} : wM X w fs lf 108 = .inl (X.2.2 0, 4, .inl lf) := by unfold wM uE; rw [if_pos rfl]
theorem wM_l {X : Cx} {w : Nat → va_E} {fs : List Value} {lf lf' : Nat → Int32} : uE (wM X w fs lf) 108 (.inl (X.2.2 0, 4, .inl lf')) = wM X w fs lf' := by
  funext i
  unfold wM uE
  by_cases h : i = 108
  · rw [if_pos h, if_pos h]
  · rw [if_neg h, if_neg h, if_neg h]
theorem wM_hi {X : Cx} {w : Nat → va_E} {fs : List Value} {lf : Nat → Int32} {i : Nat} (h : 88 < i) (h8 : i ≠ 108) : wM X w fs lf i = hE X s0 i := by unfold wM uE; rw [if_neg h8, vO_hi h]
theorem eX11_init_0 : decode MX11_init.2.1 0 = .ok (.aload_n 0, 1) := by decide +kernel
theorem eX11_init_1 : decode MX11_init.2.1 1 = .ok (.invokespecial 1, 3) := by decide +kernel
theorem eX11_init_4 : decode MX11_init.2.1 4 = .ok (.aload_n 0, 1) := by decide +kernel
theorem eX11_init_5 : decode MX11_init.2.1 5 = .ok (.bipush 8, 2) := by decide +kernel
theorem eX11_init_7 : decode MX11_init.2.1 7 = .ok (.newarray .int, 2) := by decide +kernel
theorem eX11_init_9 : decode MX11_init.2.1 9 = .ok (.putfield 7, 3) := by decide +kernel
theorem eX11_init_12 : decode MX11_init.2.1 12 = .ok (.aload_n 0, 1) := by decide +kernel
theorem eX11_init_13 : decode MX11_init.2.1 13 = .ok (.bipush 8, 2) := by decide +kernel
theorem eX11_init_15 : decode MX11_init.2.1 15 = .ok (.newarray .int, 2) := by decide +kernel
theorem eX11_init_17 : decode MX11_init.2.1 17 = .ok (.putfield 13, 3) := by decide +kernel
theorem eX11_init_20 : decode MX11_init.2.1 20 = .ok (.aload_n 0, 1) := by decide +kernel
theorem eX11_init_21 : decode MX11_init.2.1 21 = .ok (.sipush 256, 3) := by decide +kernel
theorem eX11_init_24 : decode MX11_init.2.1 24 = .ok (.newarray .long, 2) := by decide +kernel
theorem eX11_init_26 : decode MX11_init.2.1 26 = .ok (.putfield 16, 3) := by decide +kernel
theorem eX11_init_29 : decode MX11_init.2.1 29 = .ok (.aload_n 0, 1) := by decide +kernel
theorem eX11_init_30 : decode MX11_init.2.1 30 = .ok (.iconst 2, 1) := by decide +kernel
theorem eX11_init_31 : decode MX11_init.2.1 31 = .ok (.putfield 20, 3) := by decide +kernel
theorem eX11_init_34 : decode MX11_init.2.1 34 = .ok (.aload_n 0, 1) := by decide +kernel
theorem eX11_init_35 : decode MX11_init.2.1 35 = .ok (.iconst 1, 1) := by decide +kernel
theorem eX11_init_36 : decode MX11_init.2.1 36 = .ok (.putfield 24, 3) := by decide +kernel
theorem eX11_init_39 : decode MX11_init.2.1 39 = .ok (.aload_n 0, 1) := by decide +kernel
theorem eX11_init_40 : decode MX11_init.2.1 40 = .ok (.bipush 32, 2) := by decide +kernel
theorem eX11_init_42 : decode MX11_init.2.1 42 = .ok (.newarray .int, 2) := by decide +kernel
theorem eX11_init_44 : decode MX11_init.2.1 44 = .ok (.putfield 27, 3) := by decide +kernel
theorem eX11_init_47 : decode MX11_init.2.1 47 = .ok (.aload_n 0, 1) := by decide +kernel
theorem eX11_init_48 : decode MX11_init.2.1 48 = .ok (.bipush 32, 2) := by decide +kernel
theorem eX11_init_50 : decode MX11_init.2.1 50 = .ok (.newarray .int, 2) := by decide +kernel
theorem eX11_init_52 : decode MX11_init.2.1 52 = .ok (.putfield 30, 3) := by decide +kernel
theorem eX11_init_55 : decode MX11_init.2.1 55 = .ok (.aload_n 0, 1) := by decide +kernel
theorem eX11_init_56 : decode MX11_init.2.1 56 = .ok (.bipush 32, 2) := by decide +kernel
theorem eX11_init_58 : decode MX11_init.2.1 58 = .ok (.newarray .int, 2) := by decide +kernel
theorem eX11_init_60 : decode MX11_init.2.1 60 = .ok (.putfield 33, 3) := by decide +kernel
theorem eX11_init_63 : decode MX11_init.2.1 63 = .ok (.aload_n 0, 1) := by decide +kernel
theorem eX11_init_64 : decode MX11_init.2.1 64 = .ok (.sipush 240, 3) := by decide +kernel
theorem eX11_init_67 : decode MX11_init.2.1 67 = .ok (.newarray .int, 2) := by decide +kernel
theorem eX11_init_69 : decode MX11_init.2.1 69 = .ok (.putfield 36, 3) := by decide +kernel
theorem eX11_init_72 : decode MX11_init.2.1 72 = .ok (.aload_n 0, 1) := by decide +kernel
theorem eX11_init_73 : decode MX11_init.2.1 73 = .ok (.bipush 32, 2) := by decide +kernel
theorem eX11_init_75 : decode MX11_init.2.1 75 = .ok (.newarray .int, 2) := by decide +kernel
theorem eX11_init_77 : decode MX11_init.2.1 77 = .ok (.putfield 39, 3) := by decide +kernel
theorem eX11_init_80 : decode MX11_init.2.1 80 = .ok (.aload_n 0, 1) := by decide +kernel
theorem eX11_init_81 : decode MX11_init.2.1 81 = .ok (.bipush 32, 2) := by decide +kernel
theorem eX11_init_83 : decode MX11_init.2.1 83 = .ok (.newarray .int, 2) := by decide +kernel
theorem eX11_init_85 : decode MX11_init.2.1 85 = .ok (.putfield 42, 3) := by decide +kernel
theorem eX11_init_88 : decode MX11_init.2.1 88 = .ok (.aload_n 0, 1) := by decide +kernel
theorem eX11_init_89 : decode MX11_init.2.1 89 = .ok (.bipush 32, 2) := by decide +kernel
theorem eX11_init_91 : decode MX11_init.2.1 91 = .ok (.newarray .int, 2) := by decide +kernel
theorem eX11_init_93 : decode MX11_init.2.1 93 = .ok (.putfield 45, 3) := by decide +kernel
theorem eX11_init_96 : decode MX11_init.2.1 96 = .ok (.aload_n 0, 1) := by decide +kernel
theorem eX11_init_97 : decode MX11_init.2.1 97 = .ok (.iconst (-1), 1) := by decide +kernel
theorem eX11_init_98 : decode MX11_init.2.1 98 = .ok (.putfield 48, 3) := by decide +kernel
theorem eX11_init_101 : decode MX11_init.2.1 101 = .ok (.aload_n 0, 1) := by decide +kernel
theorem eX11_init_102 : decode MX11_init.2.1 102 = .ok (.iconst (-1), 1) := by decide +kernel
theorem eX11_init_103 : decode MX11_init.2.1 103 = .ok (.putfield 51, 3) := by decide +kernel
theorem eX11_init_106 : decode MX11_init.2.1 106 = .ok (.aload_n 0, 1) := by decide +kernel
theorem eX11_init_107 : decode MX11_init.2.1 107 = .ok (.ldc 54, 2) := by decide +kernel
theorem eX11_init_109 : decode MX11_init.2.1 109 = .ok (.newarray .int, 2) := by decide +kernel
theorem eX11_init_111 : decode MX11_init.2.1 111 = .ok (.putfield 55, 3) := by decide +kernel
theorem eX11_init_114 : decode MX11_init.2.1 114 = .ok (.aload_n 0, 1) := by decide +kernel
theorem eX11_init_115 : decode MX11_init.2.1 115 = .ok (.ldc 54, 2) := by decide +kernel
theorem eX11_init_117 : decode MX11_init.2.1 117 = .ok (.newarray .int, 2) := by decide +kernel
theorem eX11_init_119 : decode MX11_init.2.1 119 = .ok (.putfield 58, 3) := by decide +kernel
theorem eX11_init_122 : decode MX11_init.2.1 122 = .ok (.aload_n 0, 1) := by decide +kernel
theorem eX11_init_123 : decode MX11_init.2.1 123 = .ok (.bipush 7, 2) := by decide +kernel
theorem eX11_init_125 : decode MX11_init.2.1 125 = .ok (.newarray .int, 2) := by decide +kernel
theorem eX11_init_127 : decode MX11_init.2.1 127 = .ok (.putfield 61, 3) := by decide +kernel
theorem eX11_init_130 : decode MX11_init.2.1 130 = .ok (.aload_n 0, 1) := by decide +kernel
theorem eX11_init_131 : decode MX11_init.2.1 131 = .ok (.bipush 12, 2) := by decide +kernel
theorem eX11_init_133 : decode MX11_init.2.1 133 = .ok (.newarray .int, 2) := by decide +kernel
theorem eX11_init_135 : decode MX11_init.2.1 135 = .ok (.putfield 64, 3) := by decide +kernel
theorem eX11_init_138 : decode MX11_init.2.1 138 = .ok (.aload_n 0, 1) := by decide +kernel
theorem eX11_init_139 : decode MX11_init.2.1 139 = .ok (.sipush 1690, 3) := by decide +kernel
theorem eX11_init_142 : decode MX11_init.2.1 142 = .ok (.newarray .int, 2) := by decide +kernel
theorem eX11_init_144 : decode MX11_init.2.1 144 = .ok (.putfield 67, 3) := by decide +kernel
theorem eX11_init_147 : decode MX11_init.2.1 147 = .ok (.aload_n 0, 1) := by decide +kernel
theorem eX11_init_148 : decode MX11_init.2.1 148 = .ok (.bipush 33, 2) := by decide +kernel
theorem eX11_init_150 : decode MX11_init.2.1 150 = .ok (.newarray .long, 2) := by decide +kernel
theorem eX11_init_152 : decode MX11_init.2.1 152 = .ok (.putfield 70, 3) := by decide +kernel
theorem eX11_init_155 : decode MX11_init.2.1 155 = .ok (.aload_n 0, 1) := by decide +kernel
theorem eX11_init_156 : decode MX11_init.2.1 156 = .ok (.bipush 33, 2) := by decide +kernel
theorem eX11_init_158 : decode MX11_init.2.1 158 = .ok (.newarray .long, 2) := by decide +kernel
theorem eX11_init_160 : decode MX11_init.2.1 160 = .ok (.putfield 73, 3) := by decide +kernel
theorem eX11_init_163 : decode MX11_init.2.1 163 = .ok (.aload_n 0, 1) := by decide +kernel
theorem eX11_init_164 : decode MX11_init.2.1 164 = .ok (.bipush 12, 2) := by decide +kernel
theorem eX11_init_166 : decode MX11_init.2.1 166 = .ok (.newarray .int, 2) := by decide +kernel
theorem eX11_init_168 : decode MX11_init.2.1 168 = .ok (.putfield 76, 3) := by decide +kernel
theorem eX11_init_171 : decode MX11_init.2.1 171 = .ok (.aload_n 0, 1) := by decide +kernel
theorem eX11_init_172 : decode MX11_init.2.1 172 = .ok (.bipush 12, 2) := by decide +kernel
theorem eX11_init_174 : decode MX11_init.2.1 174 = .ok (.newarray .int, 2) := by decide +kernel
theorem eX11_init_176 : decode MX11_init.2.1 176 = .ok (.putfield 79, 3) := by decide +kernel
theorem eX11_init_179 : decode MX11_init.2.1 179 = .ok (.aload_n 0, 1) := by decide +kernel
theorem eX11_init_180 : decode MX11_init.2.1 180 = .ok (.iconst 4, 1) := by decide +kernel
theorem eX11_init_181 : decode MX11_init.2.1 181 = .ok (.newarray .int, 2) := by decide +kernel
theorem eX11_init_183 : decode MX11_init.2.1 183 = .ok (.putfield 82, 3) := by decide +kernel
theorem eX11_init_186 : decode MX11_init.2.1 186 = .ok (.aload_n 0, 1) := by decide +kernel
theorem eX11_init_187 : decode MX11_init.2.1 187 = .ok (.iconst 4, 1) := by decide +kernel
theorem eX11_init_188 : decode MX11_init.2.1 188 = .ok (.newarray .int, 2) := by decide +kernel
theorem eX11_init_190 : decode MX11_init.2.1 190 = .ok (.putfield 85, 3) := by decide +kernel
theorem eX11_init_193 : decode MX11_init.2.1 193 = .ok (.aload_n 0, 1) := by decide +kernel
theorem eX11_init_194 : decode MX11_init.2.1 194 = .ok (.sipush 240, 3) := by decide +kernel
theorem eX11_init_197 : decode MX11_init.2.1 197 = .ok (.newarray .int, 2) := by decide +kernel
theorem eX11_init_199 : decode MX11_init.2.1 199 = .ok (.putfield 88, 3) := by decide +kernel
theorem eX11_init_202 : decode MX11_init.2.1 202 = .ok (.iconst 0, 1) := by decide +kernel
theorem eX11_init_203 : decode MX11_init.2.1 203 = .ok (.istore_n 1, 1) := by decide +kernel
theorem eX11_init_204 : decode MX11_init.2.1 204 = .ok (.iload_n 1, 1) := by decide +kernel
theorem eX11_init_205 : decode MX11_init.2.1 205 = .ok (.iconst 4, 1) := by decide +kernel
theorem eX11_init_206 : decode MX11_init.2.1 206 = .ok (.if_icmp .ge 17, 3) := by decide +kernel
theorem eX11_init_209 : decode MX11_init.2.1 209 = .ok (.aload_n 0, 1) := by decide +kernel
theorem eX11_init_210 : decode MX11_init.2.1 210 = .ok (.getfield 82, 3) := by decide +kernel
theorem eX11_init_213 : decode MX11_init.2.1 213 = .ok (.iload_n 1, 1) := by decide +kernel
theorem eX11_init_214 : decode MX11_init.2.1 214 = .ok (.bipush (-4), 2) := by decide +kernel
theorem eX11_init_216 : decode MX11_init.2.1 216 = .ok (.iastore, 1) := by decide +kernel
theorem eX11_init_217 : decode MX11_init.2.1 217 = .ok (.iinc 1 1, 3) := by decide +kernel
theorem eX11_init_220 : decode MX11_init.2.1 220 = .ok (.goto (-16), 3) := by decide +kernel
theorem eX11_init_223 : decode MX11_init.2.1 223 = .ok (.return_, 1) := by decide +kernel
def fM1 (X : Cx) : List Value := [.int 0, .ref (X.2.1 89), .null, .null, .int 0, .int 0, .null, .null, .null, .null, .int 0, .int 0, .int 0, .int 0, .int 0, .int 0, .int 0, .null, .null, .null, .int 0, .int 0, .null, .null, .int 0, .null, .null, .null, .null, .null, .null, .null, .int 0, .int 0, .int 0, .null, .null, .null]
def fM2 (X : Cx) : List Value := [.int 0, .ref (X.2.1 89), .ref (X.2.1 90), .null, .int 0, .int 0, .null, .null, .null, .null, .int 0, .int 0, .int 0, .int 0, .int 0, .int 0, .int 0, .null, .null, .null, .int 0, .int 0, .null, .null, .int 0, .null, .null, .null, .null, .null, .null, .null, .int 0, .int 0, .int 0, .null, .null, .null]
def fM3 (X : Cx) : List Value := [.int 0, .ref (X.2.1 89), .ref (X.2.1 90), .ref (X.2.1 91), .int 0, .int 0, .null, .null, .null, .null, .int 0, .int 0, .int 0, .int 0, .int 0, .int 0, .int 0, .null, .null, .null, .int 0, .int 0, .null, .null, .int 0, .null, .null, .null, .null, .null, .null, .null, .int 0, .int 0, .int 0, .null, .null, .null]
def fM4 (X : Cx) : List Value := [.int 0, .ref (X.2.1 89), .ref (X.2.1 90), .ref (X.2.1 91), .int 2, .int 0, .null, .null, .null, .null, .int 0, .int 0, .int 0, .int 0, .int 0, .int 0, .int 0, .null, .null, .null, .int 0, .int 0, .null, .null, .int 0, .null, .null, .null, .null, .null, .null, .null, .int 0, .int 0, .int 0, .null, .null, .null]
def fM5 (X : Cx) : List Value := [.int 0, .ref (X.2.1 89), .ref (X.2.1 90), .ref (X.2.1 91), .int 2, .int 1, .null, .null, .null, .null, .int 0, .int 0, .int 0, .int 0, .int 0, .int 0, .int 0, .null, .null, .null, .int 0, .int 0, .null, .null, .int 0, .null, .null, .null, .null, .null, .null, .null, .int 0, .int 0, .int 0, .null, .null, .null]
def fM6 (X : Cx) : List Value := [.int 0, .ref (X.2.1 89), .ref (X.2.1 90), .ref (X.2.1 91), .int 2, .int 1, .ref (X.2.1 92), .null, .null, .null, .int 0, .int 0, .int 0, .int 0, .int 0, .int 0, .int 0, .null, .null, .null, .int 0, .int 0, .null, .null, .int 0, .null, .null, .null, .null, .null, .null, .null, .int 0, .int 0, .int 0, .null, .null, .null]
def fM7 (X : Cx) : List Value := [.int 0, .ref (X.2.1 89), .ref (X.2.1 90), .ref (X.2.1 91), .int 2, .int 1, .ref (X.2.1 92), .ref (X.2.1 93), .null, .null, .int 0, .int 0, .int 0, .int 0, .int 0, .int 0, .int 0, .null, .null, .null, .int 0, .int 0, .null, .null, .int 0, .null, .null, .null, .null, .null, .null, .null, .int 0, .int 0, .int 0, .null, .null, .null]
def fM8 (X : Cx) : List Value := [.int 0, .ref (X.2.1 89), .ref (X.2.1 90), .ref (X.2.1 91), .int 2, .int 1, .ref (X.2.1 92), .ref (X.2.1 93), .ref (X.2.1 94), .null, .int 0, .int 0, .int 0, .int 0, .int 0, .int 0, .int 0, .null, .null, .null, .int 0, .int 0, .null, .null, .int 0, .null, .null, .null, .null, .null, .null, .null, .int 0, .int 0, .int 0, .null, .null, .null]
def fM9 (X : Cx) : List Value := [.int 0, .ref (X.2.1 89), .ref (X.2.1 90), .ref (X.2.1 91), .int 2, .int 1, .ref (X.2.1 92), .ref (X.2.1 93), .ref (X.2.1 94), .ref (X.2.1 95), .int 0, .int 0, .int 0, .int 0, .int 0, .int 0, .int 0, .null, .null, .null, .int 0, .int 0, .null, .null, .int 0, .null, .null, .null, .null, .null, .null, .null, .int 0, .int 0, .int 0, .null, .null, .null]
def fM10 (X : Cx) : List Value := [.int 0, .ref (X.2.1 89), .ref (X.2.1 90), .ref (X.2.1 91), .int 2, .int 1, .ref (X.2.1 92), .ref (X.2.1 93), .ref (X.2.1 94), .ref (X.2.1 95), .int 0, .int 0, .int 0, .int 0, .int 0, .int 0, .int 0, .ref (X.2.1 96), .null, .null, .int 0, .int 0, .null, .null, .int 0, .null, .null, .null, .null, .null, .null, .null, .int 0, .int 0, .int 0, .null, .null, .null]
def fM11 (X : Cx) : List Value := [.int 0, .ref (X.2.1 89), .ref (X.2.1 90), .ref (X.2.1 91), .int 2, .int 1, .ref (X.2.1 92), .ref (X.2.1 93), .ref (X.2.1 94), .ref (X.2.1 95), .int 0, .int 0, .int 0, .int 0, .int 0, .int 0, .int 0, .ref (X.2.1 96), .ref (X.2.1 97), .null, .int 0, .int 0, .null, .null, .int 0, .null, .null, .null, .null, .null, .null, .null, .int 0, .int 0, .int 0, .null, .null, .null]
def fM12 (X : Cx) : List Value := [.int 0, .ref (X.2.1 89), .ref (X.2.1 90), .ref (X.2.1 91), .int 2, .int 1, .ref (X.2.1 92), .ref (X.2.1 93), .ref (X.2.1 94), .ref (X.2.1 95), .int 0, .int 0, .int 0, .int 0, .int 0, .int 0, .int 0, .ref (X.2.1 96), .ref (X.2.1 97), .ref (X.2.1 98), .int 0, .int 0, .null, .null, .int 0, .null, .null, .null, .null, .null, .null, .null, .int 0, .int 0, .int 0, .null, .null, .null]
def fM13 (X : Cx) : List Value := [.int 0, .ref (X.2.1 89), .ref (X.2.1 90), .ref (X.2.1 91), .int 2, .int 1, .ref (X.2.1 92), .ref (X.2.1 93), .ref (X.2.1 94), .ref (X.2.1 95), .int 0, .int 0, .int 0, .int 0, .int 0, .int 0, .int 0, .ref (X.2.1 96), .ref (X.2.1 97), .ref (X.2.1 98), .int (-1), .int 0, .null, .null, .int 0, .null, .null, .null, .null, .null, .null, .null, .int 0, .int 0, .int 0, .null, .null, .null]
def fM14 (X : Cx) : List Value := [.int 0, .ref (X.2.1 89), .ref (X.2.1 90), .ref (X.2.1 91), .int 2, .int 1, .ref (X.2.1 92), .ref (X.2.1 93), .ref (X.2.1 94), .ref (X.2.1 95), .int 0, .int 0, .int 0, .int 0, .int 0, .int 0, .int 0, .ref (X.2.1 96), .ref (X.2.1 97), .ref (X.2.1 98), .int (-1), .int (-1), .null, .null, .int 0, .null, .null, .null, .null, .null, .null, .null, .int 0, .int 0, .int 0, .null, .null, .null]
def fM15 (X : Cx) : List Value := [.int 0, .ref (X.2.1 89), .ref (X.2.1 90), .ref (X.2.1 91), .int 2, .int 1, .ref (X.2.1 92), .ref (X.2.1 93), .ref (X.2.1 94), .ref (X.2.1 95), .int 0, .int 0, .int 0, .int 0, .int 0, .int 0, .int 0, .ref (X.2.1 96), .ref (X.2.1 97), .ref (X.2.1 98), .int (-1), .int (-1), .ref (X.2.1 99), .null, .int 0, .null, .null, .null, .null, .null, .null, .null, .int 0, .int 0, .int 0, .null, .null, .null]
def fM16 (X : Cx) : List Value := [.int 0, .ref (X.2.1 89), .ref (X.2.1 90), .ref (X.2.1 91), .int 2, .int 1, .ref (X.2.1 92), .ref (X.2.1 93), .ref (X.2.1 94), .ref (X.2.1 95), .int 0, .int 0, .int 0, .int 0, .int 0, .int 0, .int 0, .ref (X.2.1 96), .ref (X.2.1 97), .ref (X.2.1 98), .int (-1), .int (-1), .ref (X.2.1 99), .ref (X.2.1 100), .int 0, .null, .null, .null, .null, .null, .null, .null, .int 0, .int 0, .int 0, .null, .null, .null]
def fM17 (X : Cx) : List Value := [.int 0, .ref (X.2.1 89), .ref (X.2.1 90), .ref (X.2.1 91), .int 2, .int 1, .ref (X.2.1 92), .ref (X.2.1 93), .ref (X.2.1 94), .ref (X.2.1 95), .int 0, .int 0, .int 0, .int 0, .int 0, .int 0, .int 0, .ref (X.2.1 96), .ref (X.2.1 97), .ref (X.2.1 98), .int (-1), .int (-1), .ref (X.2.1 99), .ref (X.2.1 100), .int 0, .ref (X.2.1 101), .null, .null, .null, .null, .null, .null, .int 0, .int 0, .int 0, .null, .null, .null]
def fM18 (X : Cx) : List Value := [.int 0, .ref (X.2.1 89), .ref (X.2.1 90), .ref (X.2.1 91), .int 2, .int 1, .ref (X.2.1 92), .ref (X.2.1 93), .ref (X.2.1 94), .ref (X.2.1 95), .int 0, .int 0, .int 0, .int 0, .int 0, .int 0, .int 0, .ref (X.2.1 96), .ref (X.2.1 97), .ref (X.2.1 98), .int (-1), .int (-1), .ref (X.2.1 99), .ref (X.2.1 100), .int 0, .ref (X.2.1 101), .ref (X.2.1 102), .null, .null, .null, .null, .null, .int 0, .int 0, .int 0, .null, .null, .null]
def fM19 (X : Cx) : List Value := [.int 0, .ref (X.2.1 89), .ref (X.2.1 90), .ref (X.2.1 91), .int 2, .int 1, .ref (X.2.1 92), .ref (X.2.1 93), .ref (X.2.1 94), .ref (X.2.1 95), .int 0, .int 0, .int 0, .int 0, .int 0, .int 0, .int 0, .ref (X.2.1 96), .ref (X.2.1 97), .ref (X.2.1 98), .int (-1), .int (-1), .ref (X.2.1 99), .ref (X.2.1 100), .int 0, .ref (X.2.1 101), .ref (X.2.1 102), .ref (X.2.1 103), .null, .null, .null, .null, .int 0, .int 0, .int 0, .null, .null, .null]
def fM20 (X : Cx) : List Value := [.int 0, .ref (X.2.1 89), .ref (X.2.1 90), .ref (X.2.1 91), .int 2, .int 1, .ref (X.2.1 92), .ref (X.2.1 93), .ref (X.2.1 94), .ref (X.2.1 95), .int 0, .int 0, .int 0, .int 0, .int 0, .int 0, .int 0, .ref (X.2.1 96), .ref (X.2.1 97), .ref (X.2.1 98), .int (-1), .int (-1), .ref (X.2.1 99), .ref (X.2.1 100), .int 0, .ref (X.2.1 101), .ref (X.2.1 102), .ref (X.2.1 103), .ref (X.2.1 104), .null, .null, .null, .int 0, .int 0, .int 0, .null, .null, .null]
def fM21 (X : Cx) : List Value := [.int 0, .ref (X.2.1 89), .ref (X.2.1 90), .ref (X.2.1 91), .int 2, .int 1, .ref (X.2.1 92), .ref (X.2.1 93), .ref (X.2.1 94), .ref (X.2.1 95), .int 0, .int 0, .int 0, .int 0, .int 0, .int 0, .int 0, .ref (X.2.1 96), .ref (X.2.1 97), .ref (X.2.1 98), .int (-1), .int (-1), .ref (X.2.1 99), .ref (X.2.1 100), .int 0, .ref (X.2.1 101), .ref (X.2.1 102), .ref (X.2.1 103), .ref (X.2.1 104), .ref (X.2.1 105), .null, .null, .int 0, .int 0, .int 0, .null, .null, .null]
def fM22 (X : Cx) : List Value := [.int 0, .ref (X.2.1 89), .ref (X.2.1 90), .ref (X.2.1 91), .int 2, .int 1, .ref (X.2.1 92), .ref (X.2.1 93), .ref (X.2.1 94), .ref (X.2.1 95), .int 0, .int 0, .int 0, .int 0, .int 0, .int 0, .int 0, .ref (X.2.1 96), .ref (X.2.1 97), .ref (X.2.1 98), .int (-1), .int (-1), .ref (X.2.1 99), .ref (X.2.1 100), .int 0, .ref (X.2.1 101), .ref (X.2.1 102), .ref (X.2.1 103), .ref (X.2.1 104), .ref (X.2.1 105), .ref (X.2.1 106), .null, .int 0, .int 0, .int 0, .null, .null, .null]
def fM23 (X : Cx) : List Value := [.int 0, .ref (X.2.1 89), .ref (X.2.1 90), .ref (X.2.1 91), .int 2, .int 1, .ref (X.2.1 92), .ref (X.2.1 93), .ref (X.2.1 94), .ref (X.2.1 95), .int 0, .int 0, .int 0, .int 0, .int 0, .int 0, .int 0, .ref (X.2.1 96), .ref (X.2.1 97), .ref (X.2.1 98), .int (-1), .int (-1), .ref (X.2.1 99), .ref (X.2.1 100), .int 0, .ref (X.2.1 101), .ref (X.2.1 102), .ref (X.2.1 103), .ref (X.2.1 104), .ref (X.2.1 105), .ref (X.2.1 106), .ref (X.2.1 107), .int 0, .int 0, .int 0, .null, .null, .null]
def fM24 (X : Cx) : List Value := [.int 0, .ref (X.2.1 89), .ref (X.2.1 90), .ref (X.2.1 91), .int 2, .int 1, .ref (X.2.1 92), .ref (X.2.1 93), .ref (X.2.1 94), .ref (X.2.1 95), .int 0, .int 0, .int 0, .int 0, .int 0, .int 0, .int 0, .ref (X.2.1 96), .ref (X.2.1 97), .ref (X.2.1 98), .int (-1), .int (-1), .ref (X.2.1 99), .ref (X.2.1 100), .int 0, .ref (X.2.1 101), .ref (X.2.1 102), .ref (X.2.1 103), .ref (X.2.1 104), .ref (X.2.1 105), .ref (X.2.1 106), .ref (X.2.1 107), .int 0, .int 0, .int 0, .ref (X.2.1 108), .null, .null]
def fM25 (X : Cx) : List Value := [.int 0, .ref (X.2.1 89), .ref (X.2.1 90), .ref (X.2.1 91), .int 2, .int 1, .ref (X.2.1 92), .ref (X.2.1 93), .ref (X.2.1 94), .ref (X.2.1 95), .int 0, .int 0, .int 0, .int 0, .int 0, .int 0, .int 0, .ref (X.2.1 96), .ref (X.2.1 97), .ref (X.2.1 98), .int (-1), .int (-1), .ref (X.2.1 99), .ref (X.2.1 100), .int 0, .ref (X.2.1 101), .ref (X.2.1 102), .ref (X.2.1 103), .ref (X.2.1 104), .ref (X.2.1 105), .ref (X.2.1 106), .ref (X.2.1 107), .int 0, .int 0, .int 0, .ref (X.2.1 108), .ref (X.2.1 109), .null]
def fM26 (X : Cx) : List Value := [.int 0, .ref (X.2.1 89), .ref (X.2.1 90), .ref (X.2.1 91), .int 2, .int 1, .ref (X.2.1 92), .ref (X.2.1 93), .ref (X.2.1 94), .ref (X.2.1 95), .int 0, .int 0, .int 0, .int 0, .int 0, .int 0, .int 0, .ref (X.2.1 96), .ref (X.2.1 97), .ref (X.2.1 98), .int (-1), .int (-1), .ref (X.2.1 99), .ref (X.2.1 100), .int 0, .ref (X.2.1 101), .ref (X.2.1 102), .ref (X.2.1 103), .ref (X.2.1 104), .ref (X.2.1 105), .ref (X.2.1 106), .ref (X.2.1 107), .int 0, .int 0, .int 0, .ref (X.2.1 108), .ref (X.2.1 109), .ref (X.2.1 110)]
def fsM (X : Cx) : List Value := [.int 0, .ref (X.2.1 89), .ref (X.2.1 90), .ref (X.2.1 91), .int 2, .int 1, .ref (X.2.1 92), .ref (X.2.1 93), .ref (X.2.1 94), .ref (X.2.1 95), .int 0, .int 0, .int 0, .int 0, .int 0, .int 0, .int 0, .ref (X.2.1 96), .ref (X.2.1 97), .ref (X.2.1 98), .int (-1), .int (-1), .ref (X.2.1 99), .ref (X.2.1 100), .int 0, .ref (X.2.1 101), .ref (X.2.1 102), .ref (X.2.1 103), .ref (X.2.1 104), .ref (X.2.1 105), .ref (X.2.1 106), .ref (X.2.1 107), .int 0, .int 0, .int 0, .ref (X.2.1 108), .ref (X.2.1 109), .ref (X.2.1 110)]
set_option maxHeartbeats 8000000 in
theorem kX11 : Kt yX11_init MX11_init 1 22 73311 88 111 10 [.int 0, .null, .null, .null, .int 0, .int 0, .null, .null, .null, .null, .int 0, .int 0, .int 0, .int 0, .int 0, .int 0, .int 0, .null, .null, .null, .int 0, .int 0, .null, .null, .int 0, .null, .null, .null, .null, .null, .null, .null, .int 0, .int 0, .int 0, .null, .null, .null] := by
  refine Kt.of mX11_init.1 rfl rfl (Nat.le_of_ble_eq_true rfl) (fun X w p l e s m args below meth c H0 Z F hm fin => ?_)
  refine AtC.cg (w' := wM X w [.int 0, .null, .null, .null, .int 0, .int 0, .null, .null, .null, .null, .int 0, .int 0, .int 0, .int 0, .int 0, .int 0, .int 0, .null, .null, .null, .int 0, .int 0, .null, .null, .int 0, .null, .null, .null, .null, .null, .null, .null, .int 0, .int 0, .int 0, .null, .null, .null] (fun _ => 0)) (fun i hi => ?_) ?_
  · unfold wM uE
    rw [if_neg (by omega)]
  have loop : ∀ f j, j + f = 4 → AtC X p l e (rmC 1 22 73311) s m args below meth c (AX X) H0 Z 22 73311 204 [some (.ref 88), some (.int (nI j))] [] 111 (wM X w (fsM X) (fun i => if i < j then -4 else 0)) := by
    intro f
    induction f with
    | zero =>
      intro j hj
      have e : j = 4 := by omega
      subst e
      refine c_iload_n F 1 eX11_init_204 rfl rfl ?_
      refine c_iconst F eX11_init_205 (v := 4) rfl ?_
      refine c_icmp_ge F 223 eX11_init_206 rfl (fun _ => ?_) (fun q => absurd (by decide) q)
      refine fin 223 _ _ eX11_init_223 (fun i hi => ?_)
      unfold wM uE vO vD
      by_cases h8 : i = 108
      · subst h8
        rw [if_pos rfl, if_neg (by decide), hE_int X s0 rfl]; rfl
      · rw [if_neg h8]
        by_cases h : i < 88
        · rw [if_pos h, if_pos h]
        · rw [if_neg h, if_neg h]
          by_cases e : i = 88
          · subst e
            rw [if_pos rfl, hE_obj X s0 (c := 10) rfl (by decide)]; rfl
          · rw [if_neg e]
    | succ f ih =>
      intro j hj
      refine c_iload_n F 1 eX11_init_204 rfl rfl ?_
      refine c_iconst F eX11_init_205 (v := 4) rfl ?_
      refine c_icmp_ge F 223 eX11_init_206 rfl (fun q => absurd q (nI_ge (b := 4) (by omega) (by decide))) (fun _ => ?_)
      refine c_aload_n F 0 eX11_init_209 rfl rfl ?_
      refine c_getr F (x := 108) flX11_82 (by decide) wM_o rfl eX11_init_210 ?_
      refine c_iload_n F 1 eX11_init_213 rfl rfl ?_
      refine c_bipush F eX11_init_214 (v := -4) rfl ?_
      refine c_iast F (by decide) (by decide) wM_8 (vp_in_nI (by omega) (by decide)) eX11_init_216 ?_
      rw [wM_l, nI_clamp (by omega)]
      refine c_iinc F 1 (v := nI (j + 1)) (L' := [some (.ref 88), some (.int (nI (j + 1)))]) eX11_init_217 rfl (by rw [nI_succ]; rfl) (Nat.le_of_ble_eq_true rfl) rfl ?_
      refine c_goto F 204 eX11_init_220 rfl ?_
      have ef : upd (fun i => if i < j then (-4 : Int32) else 0) j (-4) = fun i => if i < j + 1 then -4 else 0 := by
        funext i
        rw [upd_eq]
        by_cases h : i = j
        · rw [if_pos h, if_pos (by omega)]
        · by_cases h2 : i < j
          · rw [if_neg h, if_pos h2, if_pos (by omega)]
          · rw [if_neg h, if_neg h2, if_neg (by omega)]
      rw [ef]
      exact ih (j + 1) (by omega)
  refine c_aload_n F 0 eX11_init_0 rfl rfl ?_
  refine c_objInit F ol10 oi_n oi_c rfl (Nat.le_of_ble_eq_true rfl) (Nat.le_of_ble_eq_true rfl) eX11_init_1 ?_
  refine c_aload_n F 0 eX11_init_4 rfl rfl ?_
  refine c_bipush F eX11_init_5 (v := 8) rfl ?_
  refine c_newa F (ty := .int) (j := 0) (n := 8) (a0 := (8, .inl (fun _ => 0))) (by decide) rfl rfl (fun C h => by cases h) ac_I (by rw [wM_hi (by decide) (by decide)]; exact ar_I X rfl rfl (by decide)) (fun _ => rfl) (by decide) (by decide) (by decide) (Nat.le_of_ble_eq_true rfl) (Nat.le_of_ble_eq_true rfl) eX11_init_7 ?_
  refine c_putF F (v := .ref (88 + 1)) flX11_7 hm (by decide) (by decide) wM_o rfl rfl (tyX11_ok 1 (by decide)) rfl rfl (Nat.le_of_ble_eq_true rfl) eX11_init_9 ?_
  refine AtC.cw (w' := wM X w (fM1 X) (fun _ => 0)) (by rw [wM_u]; rfl) ?_
  refine c_aload_n F 0 eX11_init_12 rfl rfl ?_
  refine c_bipush F eX11_init_13 (v := 8) rfl ?_
  refine c_newa F (ty := .int) (j := 0) (n := 8) (a0 := (8, .inl (fun _ => 0))) (by decide) rfl rfl (fun C h => by cases h) ac_I (by rw [wM_hi (by decide) (by decide)]; exact ar_I X rfl rfl (by decide)) (fun _ => rfl) (by decide) (by decide) (by decide) (Nat.le_of_ble_eq_true rfl) (Nat.le_of_ble_eq_true rfl) eX11_init_15 ?_
  refine c_putF F (v := .ref (88 + 1 + 1)) flX11_13 hm (by decide) (by decide) wM_o rfl rfl (tyX11_ok 2 (by decide)) rfl rfl (Nat.le_of_ble_eq_true rfl) eX11_init_17 ?_
  refine AtC.cw (w' := wM X w (fM2 X) (fun _ => 0)) (by rw [wM_u]; rfl) ?_
  refine c_aload_n F 0 eX11_init_20 rfl rfl ?_
  refine c_sipush F eX11_init_21 (v := 256) rfl ?_
  refine c_newa F (ty := .long) (j := 1) (n := 256) (a0 := (256, .inr (.inl (fun _ => 0)))) (by decide) rfl rfl (fun C h => by cases h) ac_J (by rw [wM_hi (by decide) (by decide)]; exact ar_J X rfl rfl) (fun _ => rfl) (by decide) (by decide) (by decide) (Nat.le_of_ble_eq_true rfl) (Nat.le_of_ble_eq_true rfl) eX11_init_24 ?_
  refine c_putF F (v := .ref (88 + 1 + 1 + 1)) flX11_16 hm (by decide) (by decide) wM_o rfl rfl (tyX11_ok 3 (by decide)) rfl rfl (Nat.le_of_ble_eq_true rfl) eX11_init_26 ?_
  refine AtC.cw (w' := wM X w (fM3 X) (fun _ => 0)) (by rw [wM_u]; rfl) ?_
  refine c_aload_n F 0 eX11_init_29 rfl rfl ?_
  refine c_iconst F eX11_init_30 (v := 2) rfl ?_
  refine c_put F (v := .int 2) flX11_20 (by decide) (by decide) wM_o rfl (tyX11_ok 4 (by decide)) rfl rfl (Nat.le_of_ble_eq_true rfl) eX11_init_31 ?_
  refine AtC.cw (w' := wM X w (fM4 X) (fun _ => 0)) (by rw [wM_u]; rfl) ?_
  refine c_aload_n F 0 eX11_init_34 rfl rfl ?_
  refine c_iconst F eX11_init_35 (v := 1) rfl ?_
  refine c_put F (v := .int 1) flX11_24 (by decide) (by decide) wM_o rfl (tyX11_ok 5 (by decide)) rfl rfl (Nat.le_of_ble_eq_true rfl) eX11_init_36 ?_
  refine AtC.cw (w' := wM X w (fM5 X) (fun _ => 0)) (by rw [wM_u]; rfl) ?_
  refine c_aload_n F 0 eX11_init_39 rfl rfl ?_
  refine c_bipush F eX11_init_40 (v := 32) rfl ?_
  refine c_newa F (ty := .int) (j := 0) (n := 32) (a0 := (32, .inl (fun _ => 0))) (by decide) rfl rfl (fun C h => by cases h) ac_I (by rw [wM_hi (by decide) (by decide)]; exact ar_I X rfl rfl (by decide)) (fun _ => rfl) (by decide) (by decide) (by decide) (Nat.le_of_ble_eq_true rfl) (Nat.le_of_ble_eq_true rfl) eX11_init_42 ?_
  refine c_putF F (v := .ref (88 + 1 + 1 + 1 + 1)) flX11_27 hm (by decide) (by decide) wM_o rfl rfl (tyX11_ok 6 (by decide)) rfl rfl (Nat.le_of_ble_eq_true rfl) eX11_init_44 ?_
  refine AtC.cw (w' := wM X w (fM6 X) (fun _ => 0)) (by rw [wM_u]; rfl) ?_
  refine c_aload_n F 0 eX11_init_47 rfl rfl ?_
  refine c_bipush F eX11_init_48 (v := 32) rfl ?_
  refine c_newa F (ty := .int) (j := 0) (n := 32) (a0 := (32, .inl (fun _ => 0))) (by decide) rfl rfl (fun C h => by cases h) ac_I (by rw [wM_hi (by decide) (by decide)]; exact ar_I X rfl rfl (by decide)) (fun _ => rfl) (by decide) (by decide) (by decide) (Nat.le_of_ble_eq_true rfl) (Nat.le_of_ble_eq_true rfl) eX11_init_50 ?_
  refine c_putF F (v := .ref (88 + 1 + 1 + 1 + 1 + 1)) flX11_30 hm (by decide) (by decide) wM_o rfl rfl (tyX11_ok 7 (by decide)) rfl rfl (Nat.le_of_ble_eq_true rfl) eX11_init_52 ?_
  refine AtC.cw (w' := wM X w (fM7 X) (fun _ => 0)) (by rw [wM_u]; rfl) ?_
  refine c_aload_n F 0 eX11_init_55 rfl rfl ?_
  refine c_bipush F eX11_init_56 (v := 32) rfl ?_
  refine c_newa F (ty := .int) (j := 0) (n := 32) (a0 := (32, .inl (fun _ => 0))) (by decide) rfl rfl (fun C h => by cases h) ac_I (by rw [wM_hi (by decide) (by decide)]; exact ar_I X rfl rfl (by decide)) (fun _ => rfl) (by decide) (by decide) (by decide) (Nat.le_of_ble_eq_true rfl) (Nat.le_of_ble_eq_true rfl) eX11_init_58 ?_
  refine c_putF F (v := .ref (88 + 1 + 1 + 1 + 1 + 1 + 1)) flX11_33 hm (by decide) (by decide) wM_o rfl rfl (tyX11_ok 8 (by decide)) rfl rfl (Nat.le_of_ble_eq_true rfl) eX11_init_60 ?_
  refine AtC.cw (w' := wM X w (fM8 X) (fun _ => 0)) (by rw [wM_u]; rfl) ?_
  refine c_aload_n F 0 eX11_init_63 rfl rfl ?_
  refine c_sipush F eX11_init_64 (v := 240) rfl ?_
  refine c_newa F (ty := .int) (j := 0) (n := 240) (a0 := (240, .inl (fun _ => 0))) (by decide) rfl rfl (fun C h => by cases h) ac_I (by rw [wM_hi (by decide) (by decide)]; exact ar_I X rfl rfl (by decide)) (fun _ => rfl) (by decide) (by decide) (by decide) (Nat.le_of_ble_eq_true rfl) (Nat.le_of_ble_eq_true rfl) eX11_init_67 ?_
  refine c_putF F (v := .ref (88 + 1 + 1 + 1 + 1 + 1 + 1 + 1)) flX11_36 hm (by decide) (by decide) wM_o rfl rfl (tyX11_ok 9 (by decide)) rfl rfl (Nat.le_of_ble_eq_true rfl) eX11_init_69 ?_
  refine AtC.cw (w' := wM X w (fM9 X) (fun _ => 0)) (by rw [wM_u]; rfl) ?_
  refine c_aload_n F 0 eX11_init_72 rfl rfl ?_
  refine c_bipush F eX11_init_73 (v := 32) rfl ?_
  refine c_newa F (ty := .int) (j := 0) (n := 32) (a0 := (32, .inl (fun _ => 0))) (by decide) rfl rfl (fun C h => by cases h) ac_I (by rw [wM_hi (by decide) (by decide)]; exact ar_I X rfl rfl (by decide)) (fun _ => rfl) (by decide) (by decide) (by decide) (Nat.le_of_ble_eq_true rfl) (Nat.le_of_ble_eq_true rfl) eX11_init_75 ?_
  refine c_putF F (v := .ref (88 + 1 + 1 + 1 + 1 + 1 + 1 + 1 + 1)) flX11_39 hm (by decide) (by decide) wM_o rfl rfl (tyX11_ok 17 (by decide)) rfl rfl (Nat.le_of_ble_eq_true rfl) eX11_init_77 ?_
  refine AtC.cw (w' := wM X w (fM10 X) (fun _ => 0)) (by rw [wM_u]; rfl) ?_
  refine c_aload_n F 0 eX11_init_80 rfl rfl ?_
  refine c_bipush F eX11_init_81 (v := 32) rfl ?_
  refine c_newa F (ty := .int) (j := 0) (n := 32) (a0 := (32, .inl (fun _ => 0))) (by decide) rfl rfl (fun C h => by cases h) ac_I (by rw [wM_hi (by decide) (by decide)]; exact ar_I X rfl rfl (by decide)) (fun _ => rfl) (by decide) (by decide) (by decide) (Nat.le_of_ble_eq_true rfl) (Nat.le_of_ble_eq_true rfl) eX11_init_83 ?_
  refine c_putF F (v := .ref (88 + 1 + 1 + 1 + 1 + 1 + 1 + 1 + 1 + 1)) flX11_42 hm (by decide) (by decide) wM_o rfl rfl (tyX11_ok 18 (by decide)) rfl rfl (Nat.le_of_ble_eq_true rfl) eX11_init_85 ?_
  refine AtC.cw (w' := wM X w (fM11 X) (fun _ => 0)) (by rw [wM_u]; rfl) ?_
  refine c_aload_n F 0 eX11_init_88 rfl rfl ?_
  refine c_bipush F eX11_init_89 (v := 32) rfl ?_
  refine c_newa F (ty := .int) (j := 0) (n := 32) (a0 := (32, .inl (fun _ => 0))) (by decide) rfl rfl (fun C h => by cases h) ac_I (by rw [wM_hi (by decide) (by decide)]; exact ar_I X rfl rfl (by decide)) (fun _ => rfl) (by decide) (by decide) (by decide) (Nat.le_of_ble_eq_true rfl) (Nat.le_of_ble_eq_true rfl) eX11_init_91 ?_
  refine c_putF F (v := .ref (88 + 1 + 1 + 1 + 1 + 1 + 1 + 1 + 1 + 1 + 1)) flX11_45 hm (by decide) (by decide) wM_o rfl rfl (tyX11_ok 19 (by decide)) rfl rfl (Nat.le_of_ble_eq_true rfl) eX11_init_93 ?_
  refine AtC.cw (w' := wM X w (fM12 X) (fun _ => 0)) (by rw [wM_u]; rfl) ?_
  refine c_aload_n F 0 eX11_init_96 rfl rfl ?_
  refine c_iconst F eX11_init_97 (v := (-1)) rfl ?_
  refine c_put F (v := .int (-1)) flX11_48 (by decide) (by decide) wM_o rfl (tyX11_ok 20 (by decide)) rfl rfl (Nat.le_of_ble_eq_true rfl) eX11_init_98 ?_
  refine AtC.cw (w' := wM X w (fM13 X) (fun _ => 0)) (by rw [wM_u]; rfl) ?_
  refine c_aload_n F 0 eX11_init_101 rfl rfl ?_
  refine c_iconst F eX11_init_102 (v := (-1)) rfl ?_
  refine c_put F (v := .int (-1)) flX11_51 (by decide) (by decide) wM_o rfl (tyX11_ok 21 (by decide)) rfl rfl (Nat.le_of_ble_eq_true rfl) eX11_init_103 ?_
  refine AtC.cw (w' := wM X w (fM14 X) (fun _ => 0)) (by rw [wM_u]; rfl) ?_
  refine c_aload_n F 0 eX11_init_106 rfl rfl ?_
  refine c_ldc F (v := 35280) csX11_54 eX11_init_107 ?_
  refine c_newa F (ty := .int) (j := 0) (n := 35280) (a0 := (35280, .inl (fun _ => 0))) (by decide) rfl rfl (fun C h => by cases h) ac_I (by rw [wM_hi (by decide) (by decide)]; exact ar_I X rfl rfl (by decide)) (fun _ => rfl) (by decide) (by decide) (by decide) (Nat.le_of_ble_eq_true rfl) (Nat.le_of_ble_eq_true rfl) eX11_init_109 ?_
  refine c_putF F (v := .ref (88 + 1 + 1 + 1 + 1 + 1 + 1 + 1 + 1 + 1 + 1 + 1)) flX11_55 hm (by decide) (by decide) wM_o rfl rfl (tyX11_ok 22 (by decide)) rfl rfl (Nat.le_of_ble_eq_true rfl) eX11_init_111 ?_
  refine AtC.cw (w' := wM X w (fM15 X) (fun _ => 0)) (by rw [wM_u]; rfl) ?_
  refine c_aload_n F 0 eX11_init_114 rfl rfl ?_
  refine c_ldc F (v := 35280) csX11_54 eX11_init_115 ?_
  refine c_newa F (ty := .int) (j := 0) (n := 35280) (a0 := (35280, .inl (fun _ => 0))) (by decide) rfl rfl (fun C h => by cases h) ac_I (by rw [wM_hi (by decide) (by decide)]; exact ar_I X rfl rfl (by decide)) (fun _ => rfl) (by decide) (by decide) (by decide) (Nat.le_of_ble_eq_true rfl) (Nat.le_of_ble_eq_true rfl) eX11_init_117 ?_
  refine c_putF F (v := .ref (88 + 1 + 1 + 1 + 1 + 1 + 1 + 1 + 1 + 1 + 1 + 1 + 1)) flX11_58 hm (by decide) (by decide) wM_o rfl rfl (tyX11_ok 23 (by decide)) rfl rfl (Nat.le_of_ble_eq_true rfl) eX11_init_119 ?_
  refine AtC.cw (w' := wM X w (fM16 X) (fun _ => 0)) (by rw [wM_u]; rfl) ?_
  refine c_aload_n F 0 eX11_init_122 rfl rfl ?_
  refine c_bipush F eX11_init_123 (v := 7) rfl ?_
  refine c_newa F (ty := .int) (j := 0) (n := 7) (a0 := (7, .inl (fun _ => 0))) (by decide) rfl rfl (fun C h => by cases h) ac_I (by rw [wM_hi (by decide) (by decide)]; exact ar_I X rfl rfl (by decide)) (fun _ => rfl) (by decide) (by decide) (by decide) (Nat.le_of_ble_eq_true rfl) (Nat.le_of_ble_eq_true rfl) eX11_init_125 ?_
  refine c_putF F (v := .ref (88 + 1 + 1 + 1 + 1 + 1 + 1 + 1 + 1 + 1 + 1 + 1 + 1 + 1)) flX11_61 hm (by decide) (by decide) wM_o rfl rfl (tyX11_ok 25 (by decide)) rfl rfl (Nat.le_of_ble_eq_true rfl) eX11_init_127 ?_
  refine AtC.cw (w' := wM X w (fM17 X) (fun _ => 0)) (by rw [wM_u]; rfl) ?_
  refine c_aload_n F 0 eX11_init_130 rfl rfl ?_
  refine c_bipush F eX11_init_131 (v := 12) rfl ?_
  refine c_newa F (ty := .int) (j := 0) (n := 12) (a0 := (12, .inl (fun _ => 0))) (by decide) rfl rfl (fun C h => by cases h) ac_I (by rw [wM_hi (by decide) (by decide)]; exact ar_I X rfl rfl (by decide)) (fun _ => rfl) (by decide) (by decide) (by decide) (Nat.le_of_ble_eq_true rfl) (Nat.le_of_ble_eq_true rfl) eX11_init_133 ?_
  refine c_putF F (v := .ref (88 + 1 + 1 + 1 + 1 + 1 + 1 + 1 + 1 + 1 + 1 + 1 + 1 + 1 + 1)) flX11_64 hm (by decide) (by decide) wM_o rfl rfl (tyX11_ok 26 (by decide)) rfl rfl (Nat.le_of_ble_eq_true rfl) eX11_init_135 ?_
  refine AtC.cw (w' := wM X w (fM18 X) (fun _ => 0)) (by rw [wM_u]; rfl) ?_
  refine c_aload_n F 0 eX11_init_138 rfl rfl ?_
  refine c_sipush F eX11_init_139 (v := 1690) rfl ?_
  refine c_newa F (ty := .int) (j := 0) (n := 1690) (a0 := (1690, .inl (fun _ => 0))) (by decide) rfl rfl (fun C h => by cases h) ac_I (by rw [wM_hi (by decide) (by decide)]; exact ar_I X rfl rfl (by decide)) (fun _ => rfl) (by decide) (by decide) (by decide) (Nat.le_of_ble_eq_true rfl) (Nat.le_of_ble_eq_true rfl) eX11_init_142 ?_
  refine c_putF F (v := .ref (88 + 1 + 1 + 1 + 1 + 1 + 1 + 1 + 1 + 1 + 1 + 1 + 1 + 1 + 1 + 1)) flX11_67 hm (by decide) (by decide) wM_o rfl rfl (tyX11_ok 27 (by decide)) rfl rfl (Nat.le_of_ble_eq_true rfl) eX11_init_144 ?_
  refine AtC.cw (w' := wM X w (fM19 X) (fun _ => 0)) (by rw [wM_u]; rfl) ?_
  refine c_aload_n F 0 eX11_init_147 rfl rfl ?_
  refine c_bipush F eX11_init_148 (v := 33) rfl ?_
  refine c_newa F (ty := .long) (j := 1) (n := 33) (a0 := (33, .inr (.inl (fun _ => 0)))) (by decide) rfl rfl (fun C h => by cases h) ac_J (by rw [wM_hi (by decide) (by decide)]; exact ar_J X rfl rfl) (fun _ => rfl) (by decide) (by decide) (by decide) (Nat.le_of_ble_eq_true rfl) (Nat.le_of_ble_eq_true rfl) eX11_init_150 ?_
  refine c_putF F (v := .ref (88 + 1 + 1 + 1 + 1 + 1 + 1 + 1 + 1 + 1 + 1 + 1 + 1 + 1 + 1 + 1 + 1)) flX11_70 hm (by decide) (by decide) wM_o rfl rfl (tyX11_ok 28 (by decide)) rfl rfl (Nat.le_of_ble_eq_true rfl) eX11_init_152 ?_
  refine AtC.cw (w' := wM X w (fM20 X) (fun _ => 0)) (by rw [wM_u]; rfl) ?_
  refine c_aload_n F 0 eX11_init_155 rfl rfl ?_
  refine c_bipush F eX11_init_156 (v := 33) rfl ?_
  refine c_newa F (ty := .long) (j := 1) (n := 33) (a0 := (33, .inr (.inl (fun _ => 0)))) (by decide) rfl rfl (fun C h => by cases h) ac_J (by rw [wM_hi (by decide) (by decide)]; exact ar_J X rfl rfl) (fun _ => rfl) (by decide) (by decide) (by decide) (Nat.le_of_ble_eq_true rfl) (Nat.le_of_ble_eq_true rfl) eX11_init_158 ?_
  refine c_putF F (v := .ref (88 + 1 + 1 + 1 + 1 + 1 + 1 + 1 + 1 + 1 + 1 + 1 + 1 + 1 + 1 + 1 + 1 + 1)) flX11_73 hm (by decide) (by decide) wM_o rfl rfl (tyX11_ok 29 (by decide)) rfl rfl (Nat.le_of_ble_eq_true rfl) eX11_init_160 ?_
  refine AtC.cw (w' := wM X w (fM21 X) (fun _ => 0)) (by rw [wM_u]; rfl) ?_
  refine c_aload_n F 0 eX11_init_163 rfl rfl ?_
  refine c_bipush F eX11_init_164 (v := 12) rfl ?_
  refine c_newa F (ty := .int) (j := 0) (n := 12) (a0 := (12, .inl (fun _ => 0))) (by decide) rfl rfl (fun C h => by cases h) ac_I (by rw [wM_hi (by decide) (by decide)]; exact ar_I X rfl rfl (by decide)) (fun _ => rfl) (by decide) (by decide) (by decide) (Nat.le_of_ble_eq_true rfl) (Nat.le_of_ble_eq_true rfl) eX11_init_166 ?_
  refine c_putF F (v := .ref (88 + 1 + 1 + 1 + 1 + 1 + 1 + 1 + 1 + 1 + 1 + 1 + 1 + 1 + 1 + 1 + 1 + 1 + 1)) flX11_76 hm (by decide) (by decide) wM_o rfl rfl (tyX11_ok 30 (by decide)) rfl rfl (Nat.le_of_ble_eq_true rfl) eX11_init_168 ?_
  refine AtC.cw (w' := wM X w (fM22 X) (fun _ => 0)) (by rw [wM_u]; rfl) ?_
  refine c_aload_n F 0 eX11_init_171 rfl rfl ?_
  refine c_bipush F eX11_init_172 (v := 12) rfl ?_
  refine c_newa F (ty := .int) (j := 0) (n := 12) (a0 := (12, .inl (fun _ => 0))) (by decide) rfl rfl (fun C h => by cases h) ac_I (by rw [wM_hi (by decide) (by decide)]; exact ar_I X rfl rfl (by decide)) (fun _ => rfl) (by decide) (by decide) (by decide) (Nat.le_of_ble_eq_true rfl) (Nat.le_of_ble_eq_true rfl) eX11_init_174 ?_
  refine c_putF F (v := .ref (88 + 1 + 1 + 1 + 1 + 1 + 1 + 1 + 1 + 1 + 1 + 1 + 1 + 1 + 1 + 1 + 1 + 1 + 1 + 1)) flX11_79 hm (by decide) (by decide) wM_o rfl rfl (tyX11_ok 31 (by decide)) rfl rfl (Nat.le_of_ble_eq_true rfl) eX11_init_176 ?_
  refine AtC.cw (w' := wM X w (fM23 X) (fun _ => 0)) (by rw [wM_u]; rfl) ?_
  refine c_aload_n F 0 eX11_init_179 rfl rfl ?_
  refine c_iconst F eX11_init_180 (v := 4) rfl ?_
  refine c_newa F (ty := .int) (j := 0) (n := 4) (a0 := (4, .inl (fun _ => 0))) (by decide) rfl rfl (fun C h => by cases h) ac_I wM_8 (fun _ => rfl) (by decide) (by decide) (by decide) (Nat.le_of_ble_eq_true rfl) (Nat.le_of_ble_eq_true rfl) eX11_init_181 ?_
  refine c_putF F (v := .ref (88 + 1 + 1 + 1 + 1 + 1 + 1 + 1 + 1 + 1 + 1 + 1 + 1 + 1 + 1 + 1 + 1 + 1 + 1 + 1 + 1)) flX11_82 hm (by decide) (by decide) wM_o rfl rfl (tyX11_ok 35 (by decide)) rfl rfl (Nat.le_of_ble_eq_true rfl) eX11_init_183 ?_
  refine AtC.cw (w' := wM X w (fM24 X) (fun _ => 0)) (by rw [wM_u]; rfl) ?_
  refine c_aload_n F 0 eX11_init_186 rfl rfl ?_
  refine c_iconst F eX11_init_187 (v := 4) rfl ?_
  refine c_newa F (ty := .int) (j := 0) (n := 4) (a0 := (4, .inl (fun _ => 0))) (by decide) rfl rfl (fun C h => by cases h) ac_I (by rw [wM_hi (by decide) (by decide)]; exact ar_I X rfl rfl (by decide)) (fun _ => rfl) (by decide) (by decide) (by decide) (Nat.le_of_ble_eq_true rfl) (Nat.le_of_ble_eq_true rfl) eX11_init_188 ?_
  refine c_putF F (v := .ref (88 + 1 + 1 + 1 + 1 + 1 + 1 + 1 + 1 + 1 + 1 + 1 + 1 + 1 + 1 + 1 + 1 + 1 + 1 + 1 + 1 + 1)) flX11_85 hm (by decide) (by decide) wM_o rfl rfl (tyX11_ok 36 (by decide)) rfl rfl (Nat.le_of_ble_eq_true rfl) eX11_init_190 ?_
  refine AtC.cw (w' := wM X w (fM25 X) (fun _ => 0)) (by rw [wM_u]; rfl) ?_
  refine c_aload_n F 0 eX11_init_193 rfl rfl ?_
  refine c_sipush F eX11_init_194 (v := 240) rfl ?_
  refine c_newa F (ty := .int) (j := 0) (n := 240) (a0 := (240, .inl (fun _ => 0))) (by decide) rfl rfl (fun C h => by cases h) ac_I (by rw [wM_hi (by decide) (by decide)]; exact ar_I X rfl rfl (by decide)) (fun _ => rfl) (by decide) (by decide) (by decide) (Nat.le_of_ble_eq_true rfl) (Nat.le_of_ble_eq_true rfl) eX11_init_197 ?_
  refine c_putF F (v := .ref (88 + 1 + 1 + 1 + 1 + 1 + 1 + 1 + 1 + 1 + 1 + 1 + 1 + 1 + 1 + 1 + 1 + 1 + 1 + 1 + 1 + 1 + 1)) flX11_88 hm (by decide) (by decide) wM_o rfl rfl (tyX11_ok 37 (by decide)) rfl rfl (Nat.le_of_ble_eq_true rfl) eX11_init_199 ?_
  refine AtC.cw (w' := wM X w (fM26 X) (fun _ => 0)) (by rw [wM_u]; rfl) ?_
  refine c_iconst F eX11_init_202 (v := 0) rfl ?_
  refine c_istore_n F 1 (L' := [some (.ref 88), some (.int 0)]) eX11_init_203 rfl (by decide) rfl ?_
  refine AtC.cw (w' := wM X w (fsM X) (fun i => if i < 0 then -4 else 0)) (by rfl) ?_
  exact loop 4 0 rfl
/-! the class -/
def rfN (X : Cx) (j i : Nat) : Option Nat := if i < j then some (X.2.1 (32 + 6 * i)) else none
def rfS (X : Cx) (j i : Nat) : Option Nat := if i < j then some (X.2.1 (80 + 2 * i)) else none
def aR (n : Nat) (f : Nat → Option Nat) : vp_A := (n, .inr (.inr (.inr (.inr f))))
def wC (X : Cx) (w : Nat → va_E) (fs : List Value) (nf sf : Nat → Option Nat) : Nat → va_E := uE (uE (vO X w 0 9 fs) 1 (.inl (X.2.2 3, aR 8 nf))) 31 (.inl (X.2.2 4, aR 4 sf))
theorem wC_o {X : Cx} {w : Nat → va_E} {fs : List Value} {nf sf : Nat → Option Nat} : wC X w fs nf sf 0 = .inr (9, fs) := by unfold wC uE; rw [if_neg (by decide), if_neg (by decide), vO_at]
theorem wC_1 {X : Cx} {w : Nat → va_E} {fs : List Value} {nf sf : Nat → Option Nat} : wC X w fs nf sf 1 = .inl (X.2.2 3, aR 8 nf) := by unfold wC uE; rw [if_neg (by decide), if_pos rfl]
theorem wC_31 {X : Cx} {w : Nat → va_E} {fs : List Value} {nf sf : Nat → Option Nat} : wC X w fs nf sf 31 = .inl (X.2.2 4, aR 4 sf) := by unfold wC uE; rw [if_pos rfl]
theorem wC_hi {X : Cx} {w : Nat → va_E} {fs : List Value} {nf sf : Nat → Option Nat} {i : Nat} (h : 1 < i) (h3 : i ≠ 31) : wC X w fs nf sf i = hE X s0 i := by unfold wC uE; rw [if_neg h3, if_neg (by omega), vO_hi (by omega)]
theorem wC_u {X : Cx} {w : Nat → va_E} {fs fs' : List Value} {nf sf : Nat → Option Nat} : uE (wC X w fs nf sf) 0 (.inr (9, fs')) = wC X w fs' nf sf := by
  funext i
  unfold wC uE vO
  by_cases h : i = 0
  · subst h; rw [if_pos rfl, if_neg (by decide), if_neg (by decide), if_neg (by decide), if_pos rfl]
  · rw [if_neg h, if_neg h, if_neg h]
theorem wC_n {X : Cx} {w : Nat → va_E} {fs : List Value} {nf nf' sf : Nat → Option Nat} : uE (wC X w fs nf sf) 1 (.inl (X.2.2 3, aR 8 nf')) = wC X w fs nf' sf := by
  funext i
  unfold wC uE
  by_cases h : i = 1
  · subst h; rw [if_pos rfl, if_neg (by decide), if_pos rfl]
  · rw [if_neg h, if_neg h, if_neg h]
theorem wC_s {X : Cx} {w : Nat → va_E} {fs : List Value} {nf sf sf' : Nat → Option Nat} : uE (wC X w fs nf sf) 31 (.inl (X.2.2 4, aR 4 sf')) = wC X w fs nf sf' := by
  funext i
  unfold wC uE
  by_cases h : i = 31
  · rw [if_pos h, if_pos h]
  · rw [if_neg h, if_neg h, if_neg h]
theorem rfN_up (X : Cx) (j : Nat) : va_up (rfN X j) j (some (X.2.1 (32 + 6 * j))) = rfN X (j + 1) := by
  funext i
  unfold va_up rfN
  by_cases h : i = j
  · rw [if_pos h, if_pos (by omega), h]
  · by_cases h2 : i < j
    · rw [if_neg h, if_pos h2, if_pos (by omega)]
    · rw [if_neg h, if_neg h2, if_neg (by omega)]
theorem rfS_up (X : Cx) (j : Nat) : va_up (rfS X j) j (some (X.2.1 (80 + 2 * j))) = rfS X (j + 1) := by
  funext i
  unfold va_up rfS
  by_cases h : i = j
  · rw [if_pos h, if_pos (by omega), h]
  · by_cases h2 : i < j
    · rw [if_neg h, if_pos h2, if_pos (by omega)]
    · rw [if_neg h, if_neg h2, if_neg (by omega)]
theorem gr_n : ∀ j, j < 8 → gr 1 j = 32 + 6 * j := by decide
theorem gr_s : ∀ j, j < 4 → gr 31 j = 80 + 2 * j ∧ kd (80 + 2 * j) = 6 := by decide
theorem eX10_init_0 : decode MX10_init.2.1 0 = .ok (.aload_n 0, 1) := by decide +kernel
theorem eX10_init_1 : decode MX10_init.2.1 1 = .ok (.invokespecial 1, 3) := by decide +kernel
theorem eX10_init_4 : decode MX10_init.2.1 4 = .ok (.aload_n 0, 1) := by decide +kernel
theorem eX10_init_5 : decode MX10_init.2.1 5 = .ok (.bipush 8, 2) := by decide +kernel
theorem eX10_init_7 : decode MX10_init.2.1 7 = .ok (.anewarray 9, 3) := by decide +kernel
theorem eX10_init_10 : decode MX10_init.2.1 10 = .ok (.putfield 11, 3) := by decide +kernel
theorem eX10_init_13 : decode MX10_init.2.1 13 = .ok (.aload_n 0, 1) := by decide +kernel
theorem eX10_init_14 : decode MX10_init.2.1 14 = .ok (.new 15, 3) := by decide +kernel
theorem eX10_init_17 : decode MX10_init.2.1 17 = .ok (.dup, 1) := by decide +kernel
theorem eX10_init_18 : decode MX10_init.2.1 18 = .ok (.invokespecial 17, 3) := by decide +kernel
theorem eX10_init_21 : decode MX10_init.2.1 21 = .ok (.putfield 18, 3) := by decide +kernel
theorem eX10_init_24 : decode MX10_init.2.1 24 = .ok (.aload_n 0, 1) := by decide +kernel
theorem eX10_init_25 : decode MX10_init.2.1 25 = .ok (.new 22, 3) := by decide +kernel
theorem eX10_init_28 : decode MX10_init.2.1 28 = .ok (.dup, 1) := by decide +kernel
theorem eX10_init_29 : decode MX10_init.2.1 29 = .ok (.invokespecial 24, 3) := by decide +kernel
theorem eX10_init_32 : decode MX10_init.2.1 32 = .ok (.putfield 25, 3) := by decide +kernel
theorem eX10_init_35 : decode MX10_init.2.1 35 = .ok (.aload_n 0, 1) := by decide +kernel
theorem eX10_init_36 : decode MX10_init.2.1 36 = .ok (.new 29, 3) := by decide +kernel
theorem eX10_init_39 : decode MX10_init.2.1 39 = .ok (.dup, 1) := by decide +kernel
theorem eX10_init_40 : decode MX10_init.2.1 40 = .ok (.invokespecial 31, 3) := by decide +kernel
theorem eX10_init_43 : decode MX10_init.2.1 43 = .ok (.putfield 32, 3) := by decide +kernel
theorem eX10_init_46 : decode MX10_init.2.1 46 = .ok (.aload_n 0, 1) := by decide +kernel
theorem eX10_init_47 : decode MX10_init.2.1 47 = .ok (.new 36, 3) := by decide +kernel
theorem eX10_init_50 : decode MX10_init.2.1 50 = .ok (.dup, 1) := by decide +kernel
theorem eX10_init_51 : decode MX10_init.2.1 51 = .ok (.invokespecial 38, 3) := by decide +kernel
theorem eX10_init_54 : decode MX10_init.2.1 54 = .ok (.putfield 39, 3) := by decide +kernel
theorem eX10_init_57 : decode MX10_init.2.1 57 = .ok (.aload_n 0, 1) := by decide +kernel
theorem eX10_init_58 : decode MX10_init.2.1 58 = .ok (.new 43, 3) := by decide +kernel
theorem eX10_init_61 : decode MX10_init.2.1 61 = .ok (.dup, 1) := by decide +kernel
theorem eX10_init_62 : decode MX10_init.2.1 62 = .ok (.invokespecial 45, 3) := by decide +kernel
theorem eX10_init_65 : decode MX10_init.2.1 65 = .ok (.putfield 46, 3) := by decide +kernel
theorem eX10_init_68 : decode MX10_init.2.1 68 = .ok (.aload_n 0, 1) := by decide +kernel
theorem eX10_init_69 : decode MX10_init.2.1 69 = .ok (.new 50, 3) := by decide +kernel
theorem eX10_init_72 : decode MX10_init.2.1 72 = .ok (.dup, 1) := by decide +kernel
theorem eX10_init_73 : decode MX10_init.2.1 73 = .ok (.invokespecial 52, 3) := by decide +kernel
theorem eX10_init_76 : decode MX10_init.2.1 76 = .ok (.putfield 53, 3) := by decide +kernel
theorem eX10_init_79 : decode MX10_init.2.1 79 = .ok (.aload_n 0, 1) := by decide +kernel
theorem eX10_init_80 : decode MX10_init.2.1 80 = .ok (.bipush 32, 2) := by decide +kernel
theorem eX10_init_82 : decode MX10_init.2.1 82 = .ok (.newarray .long, 2) := by decide +kernel
theorem eX10_init_84 : decode MX10_init.2.1 84 = .ok (.putfield 57, 3) := by decide +kernel
theorem eX10_init_87 : decode MX10_init.2.1 87 = .ok (.aload_n 0, 1) := by decide +kernel
theorem eX10_init_88 : decode MX10_init.2.1 88 = .ok (.new 61, 3) := by decide +kernel
theorem eX10_init_91 : decode MX10_init.2.1 91 = .ok (.dup, 1) := by decide +kernel
theorem eX10_init_92 : decode MX10_init.2.1 92 = .ok (.invokespecial 63, 3) := by decide +kernel
theorem eX10_init_95 : decode MX10_init.2.1 95 = .ok (.putfield 64, 3) := by decide +kernel
theorem eX10_init_98 : decode MX10_init.2.1 98 = .ok (.aload_n 0, 1) := by decide +kernel
theorem eX10_init_99 : decode MX10_init.2.1 99 = .ok (.new 61, 3) := by decide +kernel
theorem eX10_init_102 : decode MX10_init.2.1 102 = .ok (.dup, 1) := by decide +kernel
theorem eX10_init_103 : decode MX10_init.2.1 103 = .ok (.invokespecial 63, 3) := by decide +kernel
theorem eX10_init_106 : decode MX10_init.2.1 106 = .ok (.putfield 68, 3) := by decide +kernel
theorem eX10_init_109 : decode MX10_init.2.1 109 = .ok (.aload_n 0, 1) := by decide +kernel
theorem eX10_init_110 : decode MX10_init.2.1 110 = .ok (.iconst 4, 1) := by decide +kernel
theorem eX10_init_111 : decode MX10_init.2.1 111 = .ok (.anewarray 71, 3) := by decide +kernel
theorem eX10_init_114 : decode MX10_init.2.1 114 = .ok (.putfield 73, 3) := by decide +kernel
theorem eX10_init_117 : decode MX10_init.2.1 117 = .ok (.iconst 0, 1) := by decide +kernel
theorem eX10_init_118 : decode MX10_init.2.1 118 = .ok (.istore_n 1, 1) := by decide +kernel
theorem eX10_init_119 : decode MX10_init.2.1 119 = .ok (.iload_n 1, 1) := by decide +kernel
theorem eX10_init_120 : decode MX10_init.2.1 120 = .ok (.aload_n 0, 1) := by decide +kernel
theorem eX10_init_121 : decode MX10_init.2.1 121 = .ok (.getfield 11, 3) := by decide +kernel
theorem eX10_init_124 : decode MX10_init.2.1 124 = .ok (.arraylength, 1) := by decide +kernel
theorem eX10_init_125 : decode MX10_init.2.1 125 = .ok (.if_icmp .ge 22, 3) := by decide +kernel
theorem eX10_init_128 : decode MX10_init.2.1 128 = .ok (.aload_n 0, 1) := by decide +kernel
theorem eX10_init_129 : decode MX10_init.2.1 129 = .ok (.getfield 11, 3) := by decide +kernel
theorem eX10_init_132 : decode MX10_init.2.1 132 = .ok (.iload_n 1, 1) := by decide +kernel
theorem eX10_init_133 : decode MX10_init.2.1 133 = .ok (.new 9, 3) := by decide +kernel
theorem eX10_init_136 : decode MX10_init.2.1 136 = .ok (.dup, 1) := by decide +kernel
theorem eX10_init_137 : decode MX10_init.2.1 137 = .ok (.invokespecial 77, 3) := by decide +kernel
theorem eX10_init_140 : decode MX10_init.2.1 140 = .ok (.aastore, 1) := by decide +kernel
theorem eX10_init_141 : decode MX10_init.2.1 141 = .ok (.iinc 1 1, 3) := by decide +kernel
theorem eX10_init_144 : decode MX10_init.2.1 144 = .ok (.goto (-25), 3) := by decide +kernel
theorem eX10_init_147 : decode MX10_init.2.1 147 = .ok (.iconst 0, 1) := by decide +kernel
theorem eX10_init_148 : decode MX10_init.2.1 148 = .ok (.istore_n 1, 1) := by decide +kernel
theorem eX10_init_149 : decode MX10_init.2.1 149 = .ok (.iload_n 1, 1) := by decide +kernel
theorem eX10_init_150 : decode MX10_init.2.1 150 = .ok (.aload_n 0, 1) := by decide +kernel
theorem eX10_init_151 : decode MX10_init.2.1 151 = .ok (.getfield 73, 3) := by decide +kernel
theorem eX10_init_154 : decode MX10_init.2.1 154 = .ok (.arraylength, 1) := by decide +kernel
theorem eX10_init_155 : decode MX10_init.2.1 155 = .ok (.if_icmp .ge 22, 3) := by decide +kernel
theorem eX10_init_158 : decode MX10_init.2.1 158 = .ok (.aload_n 0, 1) := by decide +kernel
theorem eX10_init_159 : decode MX10_init.2.1 159 = .ok (.getfield 73, 3) := by decide +kernel
theorem eX10_init_162 : decode MX10_init.2.1 162 = .ok (.iload_n 1, 1) := by decide +kernel
theorem eX10_init_163 : decode MX10_init.2.1 163 = .ok (.new 71, 3) := by decide +kernel
theorem eX10_init_166 : decode MX10_init.2.1 166 = .ok (.dup, 1) := by decide +kernel
theorem eX10_init_167 : decode MX10_init.2.1 167 = .ok (.invokespecial 78, 3) := by decide +kernel
theorem eX10_init_170 : decode MX10_init.2.1 170 = .ok (.aastore, 1) := by decide +kernel
theorem eX10_init_171 : decode MX10_init.2.1 171 = .ok (.iinc 1 1, 3) := by decide +kernel
theorem eX10_init_174 : decode MX10_init.2.1 174 = .ok (.goto (-25), 3) := by decide +kernel
theorem eX10_init_177 : decode MX10_init.2.1 177 = .ok (.return_, 1) := by decide +kernel
def fK1 (X : Cx) : List Value := [.ref (X.2.1 1), .int 0, .null, .null, .null, .null, .null, .null, .null, .null, .null, .null]
def fK2 (X : Cx) : List Value := [.ref (X.2.1 1), .int 0, .ref (X.2.1 2), .null, .null, .null, .null, .null, .null, .null, .null, .null]
def fK3 (X : Cx) : List Value := [.ref (X.2.1 1), .int 0, .ref (X.2.1 2), .ref (X.2.1 4), .null, .null, .null, .null, .null, .null, .null, .null]
def fK4 (X : Cx) : List Value := [.ref (X.2.1 1), .int 0, .ref (X.2.1 2), .ref (X.2.1 4), .ref (X.2.1 8), .null, .null, .null, .null, .null, .null, .null]
def fK5 (X : Cx) : List Value := [.ref (X.2.1 1), .int 0, .ref (X.2.1 2), .ref (X.2.1 4), .ref (X.2.1 8), .ref (X.2.1 14), .null, .null, .null, .null, .null, .null]
def fK6 (X : Cx) : List Value := [.ref (X.2.1 1), .int 0, .ref (X.2.1 2), .ref (X.2.1 4), .ref (X.2.1 8), .ref (X.2.1 14), .ref (X.2.1 21), .null, .null, .null, .null, .null]
def fK7 (X : Cx) : List Value := [.ref (X.2.1 1), .int 0, .ref (X.2.1 2), .ref (X.2.1 4), .ref (X.2.1 8), .ref (X.2.1 14), .ref (X.2.1 21), .ref (X.2.1 24), .null, .null, .null, .null]
def fK8 (X : Cx) : List Value := [.ref (X.2.1 1), .int 0, .ref (X.2.1 2), .ref (X.2.1 4), .ref (X.2.1 8), .ref (X.2.1 14), .ref (X.2.1 21), .ref (X.2.1 24), .ref (X.2.1 26), .null, .null, .null]
def fK9 (X : Cx) : List Value := [.ref (X.2.1 1), .int 0, .ref (X.2.1 2), .ref (X.2.1 4), .ref (X.2.1 8), .ref (X.2.1 14), .ref (X.2.1 21), .ref (X.2.1 24), .ref (X.2.1 26), .ref (X.2.1 27), .null, .null]
def fK10 (X : Cx) : List Value := [.ref (X.2.1 1), .int 0, .ref (X.2.1 2), .ref (X.2.1 4), .ref (X.2.1 8), .ref (X.2.1 14), .ref (X.2.1 21), .ref (X.2.1 24), .ref (X.2.1 26), .ref (X.2.1 27), .ref (X.2.1 29), .null]
def fK11 (X : Cx) : List Value := [.ref (X.2.1 1), .int 0, .ref (X.2.1 2), .ref (X.2.1 4), .ref (X.2.1 8), .ref (X.2.1 14), .ref (X.2.1 21), .ref (X.2.1 24), .ref (X.2.1 26), .ref (X.2.1 27), .ref (X.2.1 29), .ref (X.2.1 31)]
def fsC (X : Cx) : List Value := [.ref (X.2.1 1), .int 0, .ref (X.2.1 2), .ref (X.2.1 4), .ref (X.2.1 8), .ref (X.2.1 14), .ref (X.2.1 21), .ref (X.2.1 24), .ref (X.2.1 26), .ref (X.2.1 27), .ref (X.2.1 29), .ref (X.2.1 31)]
set_option maxHeartbeats 8000000 in
theorem kX10 : Kt yX10_init MX10_init 3 87 2523 0 88 9 [.null, .int 0, .null, .null, .null, .null, .null, .null, .null, .null, .null, .null] := by
  refine Kt.of mX10_init.1 rfl rfl (Nat.le_of_ble_eq_true rfl) (fun X w p l e s m args below meth c H0 Z F hm fin => ?_)
  refine AtC.cg (w' := wC X w [.null, .int 0, .null, .null, .null, .null, .null, .null, .null, .null, .null, .null] (fun _ => none) (fun _ => none)) (fun i hi => ?_) ?_
  · unfold wC uE
    rw [if_neg (by omega), if_neg (by omega)]
  -- SHEETS
  have loopS : ∀ f j, j + f = 4 → AtC X p l e (rmC 3 87 2523) s m args below meth c (AX X) H0 Z (79 + 2 * j) (2271 + 63 * j) 149 [some (.ref 0), some (.int (nI j))] [] (80 + 2 * j) (wC X w (fsC X) (rfN X 8) (rfS X j)) := by
    intro f
    induction f with
    | zero =>
      intro j hj
      have e : j = 4 := by omega
      subst e
      refine c_iload_n F 1 eX10_init_149 rfl rfl ?_
      refine c_aload_n F 0 eX10_init_150 rfl rfl ?_
      refine c_getr F (x := 31) flX10_73 (by decide) wC_o rfl eX10_init_151 ?_
      refine c_alen F (j := 4) (by decide) wC_31 rfl (v := 4) rfl eX10_init_154 ?_
      refine c_icmp_ge F 177 eX10_init_155 rfl (fun _ => ?_) (fun q => absurd (by decide) q)
      refine AtC.ch 1 wC_1 (a' := aR 8 (fun k => some (X.2.1 (gr 1 k)))) (show arrV _ 8 (fun j => va_rf (rfN X 8 j)) = arrV _ 8 (fun j => va_rf (some (X.2.1 (gr 1 j)))) from arrV_cg _ (fun j hj => by unfold rfN; rw [if_pos hj, gr_n j hj])) ?_
      rw [wC_n]
      refine AtC.ch 31 wC_31 (a' := aR 4 (fun k => some (X.2.1 (gr 31 k)))) (show arrV _ 4 (fun j => va_rf (rfS X 4 j)) = arrV _ 4 (fun j => va_rf (some (X.2.1 (gr 31 j)))) from arrV_cg _ (fun j hj => by unfold rfS; rw [if_pos hj, (gr_s j hj).1])) ?_
      rw [wC_s]
      refine fin 177 _ _ eX10_init_177 (fun i hi => ?_)
      have e0 : vD X w 0 i = hE X s0 i := if_neg (by omega)
      rw [e0]
      by_cases h1 : i = 1
      · subst h1; rw [wC_1, hE_refs X s0 (k := 103) rfl (by decide)]; rfl
      · by_cases h31 : i = 31
        · subst h31; rw [wC_31, hE_refs X s0 (k := 104) rfl (by decide)]; rfl
        · by_cases h0 : i = 0
          · subst h0; rw [wC_o, hE_obj X s0 (c := 9) rfl (by decide)]; rfl
          · rw [wC_hi (by omega) h31]
    | succ f ih =>
      intro j hj
      have kj := (gr_s j (by omega)).2
      refine c_iload_n F 1 eX10_init_149 rfl rfl ?_
      refine c_aload_n F 0 eX10_init_150 rfl rfl ?_
      refine c_getr F (x := 31) flX10_73 (by omega) wC_o rfl eX10_init_151 ?_
      refine c_alen F (j := 4) (by omega) wC_31 rfl (v := 4) rfl eX10_init_154 ?_
      refine c_icmp_ge F 177 eX10_init_155 rfl (fun q => absurd q (nI_ge (b := 4) (by omega) (by decide))) (fun _ => ?_)
      refine c_aload_n F 0 eX10_init_158 rfl rfl ?_
      refine c_getr F (x := 31) flX10_73 (by omega) wC_o rfl eX10_init_159 ?_
      refine c_iload_n F 1 eX10_init_162 rfl rfl ?_
      refine c_make F (N := 3) (cn := RX7) (by1 := cX7_init) (mL := 1) (kX7 (80 + 2 * j) (by show _ < 111; omega) kj) mX7_init li9_78 tyX7 lay6 rfl tyX7_ok cl9_71 in6 it6 (by show _ < 111; omega) (fun i h1 h2 => wC_hi (by omega) (by omega)) df6 rfl (Nat.le_of_ble_eq_true rfl) (Nat.le_of_ble_eq_true rfl) (Nat.le_of_ble_eq_true rfl) (by show _ ≤ 87; omega) (by show _ ≤ 2523; omega) eX10_init_163 eX10_init_166 eX10_init_167 ?_
      refine c_astq F (j := 4) (n := 4) (ci := 6) (by omega) (by omega) (by show _ ≤ 111; omega) wC_31 rfl (by rw [wC_hi (by omega) (by omega), hE_obj X s0 kj (by decide)]) lay6.2.1 (vp_in_nI (by omega) (by decide)) eX10_init_170 ?_
      rw [nI_clamp (by omega), rfS_up]
      show AtC X p l e _ s m args below meth c (AX X) H0 Z _ _ _ _ _ _ (uE (wC X w (fsC X) (rfN X 8) (rfS X j)) 31 (.inl (X.2.2 4, aR 4 (rfS X (j + 1)))))
      rw [wC_s]
      refine c_iinc F 1 (v := nI (j + 1)) (L' := [some (.ref 0), some (.int (nI (j + 1)))]) eX10_init_171 rfl (by rw [nI_succ]; rfl) (Nat.le_of_ble_eq_true rfl) rfl ?_
      refine c_goto F 149 eX10_init_174 rfl ?_
      have := ih (j + 1) (by omega)
      rw [show 79 + 2 * (j + 1) = 79 + 2 * j + 1 + 1 by omega, show 2271 + 63 * (j + 1) = 2271 + 63 * j + 3 + 60 by omega, show 80 + 2 * (j + 1) = 80 + 2 * j + 2 by omega] at this
      exact this
  -- NETS
  have loopN : ∀ f j, j + f = 8 → AtC X p l e (rmC 3 87 2523) s m args below meth c (AX X) H0 Z (31 + 6 * j) (1183 + 136 * j) 119 [some (.ref 0), some (.int (nI j))] [] (32 + 6 * j) (wC X w (fsC X) (rfN X j) (rfS X 0)) := by
    intro f
    induction f with
    | zero =>
      intro j hj
      have e : j = 8 := by omega
      subst e
      refine c_iload_n F 1 eX10_init_119 rfl rfl ?_
      refine c_aload_n F 0 eX10_init_120 rfl rfl ?_
      refine c_getr F (x := 1) flX10_11 (by decide) wC_o rfl eX10_init_121 ?_
      refine c_alen F (j := 3) (by decide) wC_1 rfl (v := 8) rfl eX10_init_124 ?_
      refine c_icmp_ge F 147 eX10_init_125 rfl (fun _ => ?_) (fun q => absurd (by decide) q)
      refine c_iconst F eX10_init_147 (v := 0) rfl ?_
      refine c_istore_n F 1 (L' := [some (.ref 0), some (.int 0)]) eX10_init_148 rfl (by decide) rfl ?_
      exact loopS 4 0 rfl
    | succ f ih =>
      intro j hj
      have kj := (nt_a j (by omega)).2.1
      refine c_iload_n F 1 eX10_init_119 rfl rfl ?_
      refine c_aload_n F 0 eX10_init_120 rfl rfl ?_
      refine c_getr F (x := 1) flX10_11 (by omega) wC_o rfl eX10_init_121 ?_
      refine c_alen F (j := 3) (by omega) wC_1 rfl (v := 8) rfl eX10_init_124 ?_
      refine c_icmp_ge F 147 eX10_init_125 rfl (fun q => absurd q (nI_ge (b := 8) (by omega) (by decide))) (fun _ => ?_)
      refine c_aload_n F 0 eX10_init_128 rfl rfl ?_
      refine c_getr F (x := 1) flX10_11 (by omega) wC_o rfl eX10_init_129 ?_
      refine c_iload_n F 1 eX10_init_132 rfl rfl ?_
      refine c_make F (N := 4) (cn := RX6) (by1 := cX6_init) (mL := 1) (kX6 (32 + 6 * j) (by show _ < 111; omega) kj) mX6_init li9_77 tyX6 lay5 rfl tyX6_ok cl9_9 in5 it5 (by show _ < 111; omega) (fun i h1 h2 => wC_hi (by omega) (by omega)) df5 rfl (Nat.le_of_ble_eq_true rfl) (Nat.le_of_ble_eq_true rfl) (Nat.le_of_ble_eq_true rfl) (by show _ ≤ 87; omega) (by show _ ≤ 2523; omega) eX10_init_133 eX10_init_136 eX10_init_137 ?_
      refine c_astq F (j := 3) (n := 8) (ci := 5) (by omega) (by omega) (by show _ ≤ 111; omega) wC_1 rfl (by rw [wC_hi (by omega) (by omega), hE_obj X s0 kj (by decide)]) lay5.2.1 (vp_in_nI (by omega) (by decide)) eX10_init_140 ?_
      rw [nI_clamp (by omega), rfN_up]
      show AtC X p l e _ s m args below meth c (AX X) H0 Z _ _ _ _ _ _ (uE (wC X w (fsC X) (rfN X j) (rfS X 0)) 1 (.inl (X.2.2 3, aR 8 (rfN X (j + 1)))))
      rw [wC_n]
      refine c_iinc F 1 (v := nI (j + 1)) (L' := [some (.ref 0), some (.int (nI (j + 1)))]) eX10_init_141 rfl (by rw [nI_succ]; rfl) (Nat.le_of_ble_eq_true rfl) rfl ?_
      refine c_goto F 119 eX10_init_144 rfl ?_
      have := ih (j + 1) (by omega)
      rw [show 31 + 6 * (j + 1) = 31 + 6 * j + 1 + 5 by omega, show 1183 + 136 * (j + 1) = 1183 + 136 * j + 4 + 132 by omega, show 32 + 6 * (j + 1) = 32 + 6 * j + 6 by omega] at this
      exact this
  refine c_aload_n F 0 eX10_init_0 rfl rfl ?_
  refine c_objInit F ol9 oi_n oi_c rfl (Nat.le_of_ble_eq_true rfl) (Nat.le_of_ble_eq_true rfl) eX10_init_1 ?_
  refine c_aload_n F 0 eX10_init_4 rfl rfl ?_
  refine c_bipush F eX10_init_5 (v := 8) rfl ?_
  refine c_anew F (C := "CarryNets$Net") (j := 3) (n := 8) (by decide) rfl F.2.2.2.2.2.1.2.1 cl9_9 wC_1 (by decide) (by decide) (by decide) (Nat.le_of_ble_eq_true rfl) (Nat.le_of_ble_eq_true rfl) eX10_init_7 ?_
  refine c_putF F (v := .ref (0 + 1)) flX10_11 hm (by decide) (by decide) wC_o rfl rfl (tyX10_ok 0 (by decide)) rfl rfl (Nat.le_of_ble_eq_true rfl) eX10_init_10 ?_
  refine AtC.cw (w' := wC X w (fK1 X) (fun _ => none) (fun _ => none)) (by rw [wC_u]; rfl) ?_
  refine c_aload_n F 0 eX10_init_13 rfl rfl ?_
  refine c_make F (cn := RX9) (by1 := cX9_init) (mL := 1) (kX9 (0 + 1 + 1) (by decide) rfl) mX9_init li9_17 tyX9 lay8 rfl tyX9_ok cl9_15 in8 it8 (by decide) (fun i h1 h2 => wC_hi (by omega) (by omega)) df8 rfl (Nat.le_of_ble_eq_true rfl) (Nat.le_of_ble_eq_true rfl) (Nat.le_of_ble_eq_true rfl) (Nat.le_of_ble_eq_true rfl) (Nat.le_of_ble_eq_true rfl) eX10_init_14 eX10_init_17 eX10_init_18 ?_
  refine c_putF F (v := .ref (0 + 1 + 1)) flX10_18 hm (by decide) (by decide) wC_o rfl rfl (tyX10_ok 2 (by decide)) rfl rfl (Nat.le_of_ble_eq_true rfl) eX10_init_21 ?_
  refine AtC.cw (w' := wC X w (fK2 X) (fun _ => none) (fun _ => none)) (by rw [wC_u]; rfl) ?_
  refine c_aload_n F 0 eX10_init_24 rfl rfl ?_
  refine c_make F (cn := RX8) (by1 := cX8_init) (mL := 1) (kX8 (0 + 1 + 1 + 2) (by decide) rfl) mX8_init li9_24 tyX8 lay7 rfl tyX8_ok cl9_22 in7 it7 (by decide) (fun i h1 h2 => wC_hi (by omega) (by omega)) df7 rfl (Nat.le_of_ble_eq_true rfl) (Nat.le_of_ble_eq_true rfl) (Nat.le_of_ble_eq_true rfl) (Nat.le_of_ble_eq_true rfl) (Nat.le_of_ble_eq_true rfl) eX10_init_25 eX10_init_28 eX10_init_29 ?_
  refine c_putF F (v := .ref (0 + 1 + 1 + 2)) flX10_25 hm (by decide) (by decide) wC_o rfl rfl (tyX10_ok 3 (by decide)) rfl rfl (Nat.le_of_ble_eq_true rfl) eX10_init_32 ?_
  refine AtC.cw (w' := wC X w (fK3 X) (fun _ => none) (fun _ => none)) (by rw [wC_u]; rfl) ?_
  refine c_aload_n F 0 eX10_init_35 rfl rfl ?_
  refine c_make F (cn := RX4) (by1 := cX4_init) (mL := 1) (kX4 (0 + 1 + 1 + 2 + 4) (by decide) rfl) mX4_init li9_31 tyX4 lay4 rfl tyX4_ok cl9_29 in4 it4 (by decide) (fun i h1 h2 => wC_hi (by omega) (by omega)) df4 rfl (Nat.le_of_ble_eq_true rfl) (Nat.le_of_ble_eq_true rfl) (Nat.le_of_ble_eq_true rfl) (Nat.le_of_ble_eq_true rfl) (Nat.le_of_ble_eq_true rfl) eX10_init_36 eX10_init_39 eX10_init_40 ?_
  refine c_putF F (v := .ref (0 + 1 + 1 + 2 + 4)) flX10_32 hm (by decide) (by decide) wC_o rfl rfl (tyX10_ok 4 (by decide)) rfl rfl (Nat.le_of_ble_eq_true rfl) eX10_init_43 ?_
  refine AtC.cw (w' := wC X w (fK4 X) (fun _ => none) (fun _ => none)) (by rw [wC_u]; rfl) ?_
  refine c_aload_n F 0 eX10_init_46 rfl rfl ?_
  refine c_make F (cn := RX2) (by1 := cX2_init) (mL := 1) (kX2 (0 + 1 + 1 + 2 + 4 + 6) (by decide) rfl) mX2_init li9_38 tyX2 lay2 rfl tyX2_ok cl9_36 in2 it2 (by decide) (fun i h1 h2 => wC_hi (by omega) (by omega)) df2 rfl (Nat.le_of_ble_eq_true rfl) (Nat.le_of_ble_eq_true rfl) (Nat.le_of_ble_eq_true rfl) (Nat.le_of_ble_eq_true rfl) (Nat.le_of_ble_eq_true rfl) eX10_init_47 eX10_init_50 eX10_init_51 ?_
  refine c_putF F (v := .ref (0 + 1 + 1 + 2 + 4 + 6)) flX10_39 hm (by decide) (by decide) wC_o rfl rfl (tyX10_ok 5 (by decide)) rfl rfl (Nat.le_of_ble_eq_true rfl) eX10_init_54 ?_
  refine AtC.cw (w' := wC X w (fK5 X) (fun _ => none) (fun _ => none)) (by rw [wC_u]; rfl) ?_
  refine c_aload_n F 0 eX10_init_57 rfl rfl ?_
  refine c_make F (cn := RX0) (by1 := cX0_init) (mL := 1) (kX0 (0 + 1 + 1 + 2 + 4 + 6 + 7) (by decide) rfl) mX0_init li9_45 tyX0 lay0 rfl tyX0_ok cl9_43 in0 it0 (by decide) (fun i h1 h2 => wC_hi (by omega) (by omega)) df0 rfl (Nat.le_of_ble_eq_true rfl) (Nat.le_of_ble_eq_true rfl) (Nat.le_of_ble_eq_true rfl) (Nat.le_of_ble_eq_true rfl) (Nat.le_of_ble_eq_true rfl) eX10_init_58 eX10_init_61 eX10_init_62 ?_
  refine c_putF F (v := .ref (0 + 1 + 1 + 2 + 4 + 6 + 7)) flX10_46 hm (by decide) (by decide) wC_o rfl rfl (tyX10_ok 6 (by decide)) rfl rfl (Nat.le_of_ble_eq_true rfl) eX10_init_65 ?_
  refine AtC.cw (w' := wC X w (fK6 X) (fun _ => none) (fun _ => none)) (by rw [wC_u]; rfl) ?_
  refine c_aload_n F 0 eX10_init_68 rfl rfl ?_
  refine c_make F (cn := RX1) (by1 := cX1_init) (mL := 1) (kX1 (0 + 1 + 1 + 2 + 4 + 6 + 7 + 3) (by decide) rfl) mX1_init li9_52 tyX1 lay1 rfl tyX1_ok cl9_50 in1 it1 (by decide) (fun i h1 h2 => wC_hi (by omega) (by omega)) df1 rfl (Nat.le_of_ble_eq_true rfl) (Nat.le_of_ble_eq_true rfl) (Nat.le_of_ble_eq_true rfl) (Nat.le_of_ble_eq_true rfl) (Nat.le_of_ble_eq_true rfl) eX10_init_69 eX10_init_72 eX10_init_73 ?_
  refine c_putF F (v := .ref (0 + 1 + 1 + 2 + 4 + 6 + 7 + 3)) flX10_53 hm (by decide) (by decide) wC_o rfl rfl (tyX10_ok 7 (by decide)) rfl rfl (Nat.le_of_ble_eq_true rfl) eX10_init_76 ?_
  refine AtC.cw (w' := wC X w (fK7 X) (fun _ => none) (fun _ => none)) (by rw [wC_u]; rfl) ?_
  refine c_aload_n F 0 eX10_init_79 rfl rfl ?_
  refine c_bipush F eX10_init_80 (v := 32) rfl ?_
  refine c_newa F (ty := .long) (j := 1) (n := 32) (a0 := (32, .inr (.inl (fun _ => 0)))) (by decide) rfl rfl (fun C h => by cases h) ac_J (by rw [wC_hi (by decide) (by decide)]; exact ar_J X rfl rfl) (fun _ => rfl) (by decide) (by decide) (by decide) (Nat.le_of_ble_eq_true rfl) (Nat.le_of_ble_eq_true rfl) eX10_init_82 ?_
  refine c_putF F (v := .ref (0 + 1 + 1 + 2 + 4 + 6 + 7 + 3 + 2)) flX10_57 hm (by decide) (by decide) wC_o rfl rfl (tyX10_ok 8 (by decide)) rfl rfl (Nat.le_of_ble_eq_true rfl) eX10_init_84 ?_
  refine AtC.cw (w' := wC X w (fK8 X) (fun _ => none) (fun _ => none)) (by rw [wC_u]; rfl) ?_
  refine c_aload_n F 0 eX10_init_87 rfl rfl ?_
  refine c_make F (cn := RX3) (by1 := cX3_init) (mL := 1) (kX3 (0 + 1 + 1 + 2 + 4 + 6 + 7 + 3 + 2 + 1) (by decide) rfl) mX3_init li9_63 tyX3 lay3 rfl tyX3_ok cl9_61 in3 it3 (by decide) (fun i h1 h2 => wC_hi (by omega) (by omega)) df3 rfl (Nat.le_of_ble_eq_true rfl) (Nat.le_of_ble_eq_true rfl) (Nat.le_of_ble_eq_true rfl) (Nat.le_of_ble_eq_true rfl) (Nat.le_of_ble_eq_true rfl) eX10_init_88 eX10_init_91 eX10_init_92 ?_
  refine c_putF F (v := .ref (0 + 1 + 1 + 2 + 4 + 6 + 7 + 3 + 2 + 1)) flX10_64 hm (by decide) (by decide) wC_o rfl rfl (tyX10_ok 9 (by decide)) rfl rfl (Nat.le_of_ble_eq_true rfl) eX10_init_95 ?_
  refine AtC.cw (w' := wC X w (fK9 X) (fun _ => none) (fun _ => none)) (by rw [wC_u]; rfl) ?_
  refine c_aload_n F 0 eX10_init_98 rfl rfl ?_
  refine c_make F (cn := RX3) (by1 := cX3_init) (mL := 1) (kX3 (0 + 1 + 1 + 2 + 4 + 6 + 7 + 3 + 2 + 1 + 2) (by decide) rfl) mX3_init li9_63 tyX3 lay3 rfl tyX3_ok cl9_61 in3 it3 (by decide) (fun i h1 h2 => wC_hi (by omega) (by omega)) df3 rfl (Nat.le_of_ble_eq_true rfl) (Nat.le_of_ble_eq_true rfl) (Nat.le_of_ble_eq_true rfl) (Nat.le_of_ble_eq_true rfl) (Nat.le_of_ble_eq_true rfl) eX10_init_99 eX10_init_102 eX10_init_103 ?_
  refine c_putF F (v := .ref (0 + 1 + 1 + 2 + 4 + 6 + 7 + 3 + 2 + 1 + 2)) flX10_68 hm (by decide) (by decide) wC_o rfl rfl (tyX10_ok 10 (by decide)) rfl rfl (Nat.le_of_ble_eq_true rfl) eX10_init_106 ?_
  refine AtC.cw (w' := wC X w (fK10 X) (fun _ => none) (fun _ => none)) (by rw [wC_u]; rfl) ?_
  refine c_aload_n F 0 eX10_init_109 rfl rfl ?_
  refine c_iconst F eX10_init_110 (v := 4) rfl ?_
  refine c_anew F (C := "CarryNets$Sheet") (j := 4) (n := 4) (by decide) rfl F.2.2.2.2.2.1.2.2 cl9_71 wC_31 (by decide) (by decide) (by decide) (Nat.le_of_ble_eq_true rfl) (Nat.le_of_ble_eq_true rfl) eX10_init_111 ?_
  refine c_putF F (v := .ref (0 + 1 + 1 + 2 + 4 + 6 + 7 + 3 + 2 + 1 + 2 + 2)) flX10_73 hm (by decide) (by decide) wC_o rfl rfl (tyX10_ok 11 (by decide)) rfl rfl (Nat.le_of_ble_eq_true rfl) eX10_init_114 ?_
  refine AtC.cw (w' := wC X w (fK11 X) (fun _ => none) (fun _ => none)) (by rw [wC_u]; rfl) ?_
  refine c_iconst F eX10_init_117 (v := 0) rfl ?_
  refine c_istore_n F 1 (L' := [some (.ref 0), some (.int 0)]) eX10_init_118 rfl (by decide) rfl ?_
  refine AtC.cw (w' := wC X w (fsC X) (rfN X 0) (rfS X 0)) (by rfl) ?_
  exact loopN 8 0 rfl
end CTWO


section SIMV
variable {X : Cx} {p : Program} {l : Launch} {e : Env} {R : Room} {s : State} {m : MethodId} {args : Array Value} {below : List Frame} {meth : Method} {c : Code} {A0 : Nat → Prop} {H0 : Heap} {cells slots : Nat} {Q : State → Prop}
def Fx (X : Cx) (M : Mt) (d : Nat) (R : Room) (p : Program) (s : State) (m : MethodId) (args : Array Value) (c : Code) (A0 : Nat → Prop) (cells slots : Nat) : Prop :=
  p.tables.exec = Jvm.exec ∧ c.code = M.2.1 ∧ c.maxLocals = M.2.2.1 ∧ s.vm.findClass M.1 = some m.cls ∧ (∀ w ∈ GW, w.before args s = true) ∧ CX X s ∧ (d ≤ R.frames ∧ 64 * d ≤ R.locals ∧ cells ≤ R.cells ∧ slots ≤ R.slots) ∧ ∀ i, i < NC → A0 (X.2.1 i)
def At (X : Cx) (p : Program) (l : Launch) (e : Env) (R : Room) (s : State) (m : MethodId) (args : Array Value) (below : List Frame) (meth : Method) (c : Code) (A0 : Nat → Prop) (H0 : Heap) (cells slots : Nat) (Q : State → Prop) (pc : Nat) (L : List (Option Value)) (st : List Value) (σ : St) : Prop :=
  ∀ (H : Heap) (locs : List Loc) (ls : Array Slot), va_P X.1 cls (ws X σ) H → va_S A0 H0 H locs → lvH X ls L → W p l e R s m args below meth c H locs cells slots Q (F0 m pc ls (st.map (cv X)))
/-- one step of the machine, whatever comes behind -/
def Go (M : Mt) (d : Nat) (pc : Nat) (L : List (Option Value)) (st : List Value) (σ : St) (pc' : Nat) (L' : List (Option Value)) (st' : List Value) (σ' : St) : Prop :=
  ∀ (X : Cx) (p : Program) (l : Launch) (e : Env) (R : Room) (s : State) (m : MethodId) (args : Array Value) (below : List Frame) (meth : Method) (c : Code) (A0 : Nat → Prop) (H0 : Heap) (cells slots : Nat) (Q : State → Prop), Fx X M d R p s m args c A0 cells slots →
    At X p l e R s m args below meth c A0 H0 cells slots Q pc' L' st' σ' → At X p l e R s m args below meth c A0 H0 cells slots Q pc L st σ
/-- a branch: stack and locals behind it are the same on both sides -/
def Br (M : Mt) (d : Nat) (pc : Nat) (L : List (Option Value)) (st : List Value) (σ : St) (q q2 : Prop) (pc1 pc2 : Nat) (st' : List Value) : Prop :=
  ∀ (X : Cx) (p : Program) (l : Launch) (e : Env) (R : Room) (s : State) (m : MethodId) (args : Array Value) (below : List Frame) (meth : Method) (c : Code) (A0 : Nat → Prop) (H0 : Heap) (cells slots : Nat) (Q : State → Prop), Fx X M d R p s m args c A0 cells slots →
    (q → At X p l e R s m args below meth c A0 H0 cells slots Q pc1 L st' σ) → (q2 → At X p l e R s m args below meth c A0 H0 cells slots Q pc2 L st' σ) → At X p l e R s m args below meth c A0 H0 cells slots Q pc L st σ
variable {M : Mt} {d pc : Nat} {L : List (Option Value)} {st : List Value} {σ : St}

theorem go_iconst {n : Int} {v : Int32} (hd : decode M.2.1 pc = .ok (.iconst n, 1)) (hv : Int32.ofInt n = v) : Go M d pc L (st) σ (pc + 1) (L) (.int v :: st) (σ) := by
  intro X p l e R s m args below meth c A0 H0 cells slots Q F k H locs ls hP hS hL
  exact lv_iconst F.1 F.2.1 hd hv (k H locs ls hP hS hL)

theorem go_bipush {n : Int} {v : Int32} (hd : decode M.2.1 pc = .ok (.bipush n, 2)) (hv : (Int8.ofInt n).toInt32 = v) : Go M d pc L (st) σ (pc + 2) (L) (.int v :: st) (σ) := by
  intro X p l e R s m args below meth c A0 H0 cells slots Q F k H locs ls hP hS hL
  exact lv_bipush F.1 F.2.1 hd hv (k H locs ls hP hS hL)

theorem go_sipush {n : Int} {v : Int32} (hd : decode M.2.1 pc = .ok (.sipush n, 3)) (hv : (Int16.ofInt n).toInt32 = v) : Go M d pc L (st) σ (pc + 3) (L) (.int v :: st) (σ) := by
  intro X p l e R s m args below meth c A0 H0 cells slots Q F k H locs ls hP hS hL
  exact lv_sipush F.1 F.2.1 hd hv (k H locs ls hP hS hL)

theorem go_lconst {n : Fin 2} {v : Int64} (hd : decode M.2.1 pc = .ok (.lconst n, 1)) (hv : Int64.ofNat (n : Nat) = v) : Go M d pc L (st) σ (pc + 1) (L) (.long v :: st) (σ) := by
  intro X p l e R s m args below meth c A0 H0 cells slots Q F k H locs ls hP hS hL
  exact lv_lconst F.1 F.2.1 hd hv (k H locs ls hP hS hL)

theorem go_null (hd : decode M.2.1 pc = .ok (.aconst_null, 1)) : Go M d pc L (st) σ (pc + 1) (L) (.null :: st) (σ) := by
  intro X p l e R s m args below meth c A0 H0 cells slots Q F k H locs ls hP hS hL
  exact lv_null F.1 F.2.1 hd (k H locs ls hP hS hL)

theorem go_ldc {i : Nat} {v : Int32} (hc : Cond.constant M.1 i v ∈ GW) (hd : decode M.2.1 pc = .ok (.ldc i, 2)) : Go M d pc L (st) σ (pc + 2) (L) (.int v :: st) (σ) := by
  intro X p l e R s m args below meth c A0 H0 cells slots Q F k H locs ls hP hS hL
  exact lv_ldc F.1 F.2.1 F.2.2.2.1 (F.2.2.2.2.1 _ hc) hd (k H locs ls hP hS hL)

theorem go_ldcw {i : Nat} {v : Int32} (hc : Cond.constant M.1 i v ∈ GW) (hd : decode M.2.1 pc = .ok (.ldc_w i, 3)) : Go M d pc L (st) σ (pc + 3) (L) (.int v :: st) (σ) := by
  intro X p l e R s m args below meth c A0 H0 cells slots Q F k H locs ls hP hS hL
  exact lv_ldcw F.1 F.2.1 F.2.2.2.1 (F.2.2.2.2.1 _ hc) hd (k H locs ls hP hS hL)

theorem go_ldc2 {i : Nat} {v : Int64} (hc : Cond.constantLong M.1 i v ∈ GW) (hd : decode M.2.1 pc = .ok (.ldc2_w i, 3)) : Go M d pc L (st) σ (pc + 3) (L) (.long v :: st) (σ) := by
  intro X p l e R s m args below meth c A0 H0 cells slots Q F k H locs ls hP hS hL
  exact lv_ldc2 F.1 F.2.1 F.2.2.2.1 (F.2.2.2.2.1 _ hc) hd (k H locs ls hP hS hL)

theorem go_iload_n {k : Fin 4} {x : Int32} (i : Nat) (hd : decode M.2.1 pc = .ok (.iload_n k, 1)) (hi : (k : Nat) = i) (hx : L[i]? = some (some (.int x))) : Go M d pc L (st) σ (pc + 1) (L) (.int x :: st) (σ) := by
  intro X p l e R s m args below meth c A0 H0 cells slots Q F k H locs ls hP hS hL
  exact lv_iload_n F.1 F.2.1 hd hi (hL.2.2 i _ hx) (k H locs ls hP hS hL)

theorem go_iload {x : Int32} (i : Nat) (hd : decode M.2.1 pc = .ok (.iload i, 2)) (hx : L[i]? = some (some (.int x))) : Go M d pc L (st) σ (pc + 2) (L) (.int x :: st) (σ) := by
  intro X p l e R s m args below meth c A0 H0 cells slots Q F k H locs ls hP hS hL
  exact lv_iload F.1 F.2.1 hd (hL.2.2 i _ hx) (k H locs ls hP hS hL)

theorem go_istore_n {k : Fin 4} {x : Int32} (i : Nat) {L' : List (Option Value)} (hd : decode M.2.1 pc = .ok (.istore_n k, 1)) (hi : (k : Nat) = i) (hn : i < L.length) (he : st1 L i (.int x) = L') : Go M d pc L (.int x :: st) σ (pc + 1) (L') (st) (σ) := by
  intro X p l e R s m args below meth c A0 H0 cells slots Q F k H locs ls hP hS hL
  subst he
  exact lv_istore_n F.1 F.2.1 hd hi hL.has hn rfl (fun ls' h' => k H locs ls' hP hS (lvH_st1 (v := .int x) h'))

theorem go_istore {x : Int32} (i : Nat) {L' : List (Option Value)} (hd : decode M.2.1 pc = .ok (.istore i, 2)) (hn : i < L.length) (he : st1 L i (.int x) = L') : Go M d pc L (.int x :: st) σ (pc + 2) (L') (st) (σ) := by
  intro X p l e R s m args below meth c A0 H0 cells slots Q F k H locs ls hP hS hL
  subst he
  exact lv_istore F.1 F.2.1 hd hL.has hn rfl (fun ls' h' => k H locs ls' hP hS (lvH_st1 (v := .int x) h'))

theorem go_lload_n {k : Fin 4} {x : Int64} (i : Nat) (hd : decode M.2.1 pc = .ok (.lload_n k, 1)) (hi : (k : Nat) = i) (hx : L[i]? = some (some (.long x))) : Go M d pc L (st) σ (pc + 1) (L) (.long x :: st) (σ) := by
  intro X p l e R s m args below meth c A0 H0 cells slots Q F k H locs ls hP hS hL
  exact lv_lload_n F.1 F.2.1 hd hi (hL.2.2 i _ hx) (k H locs ls hP hS hL)

theorem go_lload {x : Int64} (i : Nat) (hd : decode M.2.1 pc = .ok (.lload i, 2)) (hx : L[i]? = some (some (.long x))) : Go M d pc L (st) σ (pc + 2) (L) (.long x :: st) (σ) := by
  intro X p l e R s m args below meth c A0 H0 cells slots Q F k H locs ls hP hS hL
  exact lv_lload F.1 F.2.1 hd (hL.2.2 i _ hx) (k H locs ls hP hS hL)

theorem go_lstore_n {k : Fin 4} {x : Int64} (i : Nat) {L' : List (Option Value)} (hd : decode M.2.1 pc = .ok (.lstore_n k, 1)) (hi : (k : Nat) = i) (hn : i + 1 < L.length) (he : st2 L i (.long x) = L') : Go M d pc L (.long x :: st) σ (pc + 1) (L') (st) (σ) := by
  intro X p l e R s m args below meth c A0 H0 cells slots Q F k H locs ls hP hS hL
  subst he
  exact lv_lstore_n F.1 F.2.1 hd hi hL.has hn rfl (fun ls' h' => k H locs ls' hP hS (lvH_st2 (v := .long x) h'))

theorem go_lstore {x : Int64} (i : Nat) {L' : List (Option Value)} (hd : decode M.2.1 pc = .ok (.lstore i, 2)) (hn : i + 1 < L.length) (he : st2 L i (.long x) = L') : Go M d pc L (.long x :: st) σ (pc + 2) (L') (st) (σ) := by
  intro X p l e R s m args below meth c A0 H0 cells slots Q F k H locs ls hP hS hL
  subst he
  exact lv_lstore F.1 F.2.1 hd hL.has hn rfl (fun ls' h' => k H locs ls' hP hS (lvH_st2 (v := .long x) h'))

theorem go_aload_n {k : Fin 4} {x : Nat} (i : Nat) (hd : decode M.2.1 pc = .ok (.aload_n k, 1)) (hi : (k : Nat) = i) (hx : L[i]? = some (some (.ref x))) : Go M d pc L (st) σ (pc + 1) (L) (.ref x :: st) (σ) := by
  intro X p l e R s m args below meth c A0 H0 cells slots Q F k H locs ls hP hS hL
  exact lv_aload_n F.1 F.2.1 hd hi (hL.2.2 i _ hx) (k H locs ls hP hS hL)

theorem go_aload {x : Nat} (i : Nat) (hd : decode M.2.1 pc = .ok (.aload i, 2)) (hx : L[i]? = some (some (.ref x))) : Go M d pc L (st) σ (pc + 2) (L) (.ref x :: st) (σ) := by
  intro X p l e R s m args below meth c A0 H0 cells slots Q F k H locs ls hP hS hL
  exact lv_aload F.1 F.2.1 hd (hL.2.2 i _ hx) (k H locs ls hP hS hL)

theorem go_astore_n {k : Fin 4} {x : Nat} (i : Nat) {L' : List (Option Value)} (hd : decode M.2.1 pc = .ok (.astore_n k, 1)) (hi : (k : Nat) = i) (hn : i < L.length) (he : st1 L i (.ref x) = L') : Go M d pc L (.ref x :: st) σ (pc + 1) (L') (st) (σ) := by
  intro X p l e R s m args below meth c A0 H0 cells slots Q F k H locs ls hP hS hL
  subst he
  exact lv_astore_n F.1 F.2.1 hd hi hL.has hn rfl (fun ls' h' => k H locs ls' hP hS (lvH_st1 (v := .ref x) h'))

theorem go_astore {x : Nat} (i : Nat) {L' : List (Option Value)} (hd : decode M.2.1 pc = .ok (.astore i, 2)) (hn : i < L.length) (he : st1 L i (.ref x) = L') : Go M d pc L (.ref x :: st) σ (pc + 2) (L') (st) (σ) := by
  intro X p l e R s m args below meth c A0 H0 cells slots Q F k H locs ls hP hS hL
  subst he
  exact lv_astore F.1 F.2.1 hd hL.has hn rfl (fun ls' h' => k H locs ls' hP hS (lvH_st1 (v := .ref x) h'))

theorem go_astore_nN {k : Fin 4} (i : Nat) {L' : List (Option Value)} (hd : decode M.2.1 pc = .ok (.astore_n k, 1)) (hi : (k : Nat) = i) (hn : i < L.length) (he : st1 L i .null = L') : Go M d pc L (.null :: st) σ (pc + 1) (L') (st) (σ) := by
  intro X p l e R s m args below meth c A0 H0 cells slots Q F k H locs ls hP hS hL
  subst he
  exact lv_astore_nN F.1 F.2.1 hd hi hL.has hn rfl (fun ls' h' => k H locs ls' hP hS (lvH_st1 (v := .null) h'))

theorem go_astoreN (i : Nat) {L' : List (Option Value)} (hd : decode M.2.1 pc = .ok (.astore i, 2)) (hn : i < L.length) (he : st1 L i .null = L') : Go M d pc L (.null :: st) σ (pc + 2) (L') (st) (σ) := by
  intro X p l e R s m args below meth c A0 H0 cells slots Q F k H locs ls hP hS hL
  subst he
  exact lv_astoreN F.1 F.2.1 hd hL.has hn rfl (fun ls' h' => k H locs ls' hP hS (lvH_st1 (v := .null) h'))

theorem go_aload_nN {k : Fin 4} (i : Nat) (hd : decode M.2.1 pc = .ok (.aload_n k, 1)) (hi : (k : Nat) = i) (hx : L[i]? = some (some .null)) : Go M d pc L (st) σ (pc + 1) (L) (.null :: st) (σ) := by
  intro X p l e R s m args below meth c A0 H0 cells slots Q F k H locs ls hP hS hL
  exact lv_aload_nN F.1 F.2.1 hd hi (hL.2.2 i _ hx) (k H locs ls hP hS hL)

theorem go_aloadN (i : Nat) (hd : decode M.2.1 pc = .ok (.aload i, 2)) (hx : L[i]? = some (some .null)) : Go M d pc L (st) σ (pc + 2) (L) (.null :: st) (σ) := by
  intro X p l e R s m args below meth c A0 H0 cells slots Q F k H locs ls hP hS hL
  exact lv_aloadN F.1 F.2.1 hd (hL.2.2 i _ hx) (k H locs ls hP hS hL)

theorem go_iinc {x v : Int32} {n : Int} (i : Nat) {L' : List (Option Value)} (hd : decode M.2.1 pc = .ok (.iinc i n, 3)) (hx : L[i]? = some (some (.int x))) (hv : x + Int32.ofInt n = v) (hn : i < L.length) (he : st1 L i (.int v) = L') : Go M d pc L (st) σ (pc + 3) (L') (st) (σ) := by
  intro X p l e R s m args below meth c A0 H0 cells slots Q F k H locs ls hP hS hL
  subst he
  obtain ⟨q, hq⟩ := List.getElem?_of_mem (lvA_mem (X := X) hx)
  exact lv_iinc F.1 F.2.1 hd hL.has hq hv hn rfl (fun ls' h' => k H locs ls' hP hS (lvH_st1 (v := .int v) h'))

theorem go_iadd {x y : Int32} (hd : decode M.2.1 pc = .ok (.iadd, 1)) : Go M d pc L (.int y :: .int x :: st) σ (pc + 1) (L) (.int (x + y) :: st) (σ) := by
  intro X p l e R s m args below meth c A0 H0 cells slots Q F k H locs ls hP hS hL
  exact lv_iadd F.1 F.2.1 hd (k H locs ls hP hS hL)

theorem go_isub {x y : Int32} (hd : decode M.2.1 pc = .ok (.isub, 1)) : Go M d pc L (.int y :: .int x :: st) σ (pc + 1) (L) (.int (x - y) :: st) (σ) := by
  intro X p l e R s m args below meth c A0 H0 cells slots Q F k H locs ls hP hS hL
  exact lv_isub F.1 F.2.1 hd (k H locs ls hP hS hL)

theorem go_imul {x y : Int32} (hd : decode M.2.1 pc = .ok (.imul, 1)) : Go M d pc L (.int y :: .int x :: st) σ (pc + 1) (L) (.int (x * y) :: st) (σ) := by
  intro X p l e R s m args below meth c A0 H0 cells slots Q F k H locs ls hP hS hL
  exact lv_imul F.1 F.2.1 hd (k H locs ls hP hS hL)

theorem go_iand {x y : Int32} (hd : decode M.2.1 pc = .ok (.iand, 1)) : Go M d pc L (.int y :: .int x :: st) σ (pc + 1) (L) (.int (x &&& y) :: st) (σ) := by
  intro X p l e R s m args below meth c A0 H0 cells slots Q F k H locs ls hP hS hL
  exact lv_iand F.1 F.2.1 hd (k H locs ls hP hS hL)

theorem go_ior {x y : Int32} (hd : decode M.2.1 pc = .ok (.ior, 1)) : Go M d pc L (.int y :: .int x :: st) σ (pc + 1) (L) (.int (x ||| y) :: st) (σ) := by
  intro X p l e R s m args below meth c A0 H0 cells slots Q F k H locs ls hP hS hL
  exact lv_ior F.1 F.2.1 hd (k H locs ls hP hS hL)

theorem go_ixor {x y : Int32} (hd : decode M.2.1 pc = .ok (.ixor, 1)) : Go M d pc L (.int y :: .int x :: st) σ (pc + 1) (L) (.int (x ^^^ y) :: st) (σ) := by
  intro X p l e R s m args below meth c A0 H0 cells slots Q F k H locs ls hP hS hL
  exact lv_ixor F.1 F.2.1 hd (k H locs ls hP hS hL)

theorem go_ishl {x y : Int32} (hd : decode M.2.1 pc = .ok (.ishl, 1)) : Go M d pc L (.int y :: .int x :: st) σ (pc + 1) (L) (.int (x <<< (y &&& 31)) :: st) (σ) := by
  intro X p l e R s m args below meth c A0 H0 cells slots Q F k H locs ls hP hS hL
  exact lv_ishl F.1 F.2.1 hd (k H locs ls hP hS hL)

theorem go_ishr {x y : Int32} (hd : decode M.2.1 pc = .ok (.ishr, 1)) : Go M d pc L (.int y :: .int x :: st) σ (pc + 1) (L) (.int (x >>> (y &&& 31)) :: st) (σ) := by
  intro X p l e R s m args below meth c A0 H0 cells slots Q F k H locs ls hP hS hL
  exact lv_ishr F.1 F.2.1 hd (k H locs ls hP hS hL)

theorem go_iushr {x y : Int32} (hd : decode M.2.1 pc = .ok (.iushr, 1)) : Go M d pc L (.int y :: .int x :: st) σ (pc + 1) (L) (.int ((x.toUInt32 >>> (y.toUInt32 &&& Int32.toUInt32 31)).toInt32) :: st) (σ) := by
  intro X p l e R s m args below meth c A0 H0 cells slots Q F k H locs ls hP hS hL
  exact lv_iushr F.1 F.2.1 hd rfl (k H locs ls hP hS hL)

theorem go_ineg {x : Int32} (hd : decode M.2.1 pc = .ok (.ineg, 1)) : Go M d pc L (.int x :: st) σ (pc + 1) (L) (.int (-x) :: st) (σ) := by
  intro X p l e R s m args below meth c A0 H0 cells slots Q F k H locs ls hP hS hL
  exact lv_ineg F.1 F.2.1 hd (k H locs ls hP hS hL)

theorem go_idiv {x y : Int32} (hd : decode M.2.1 pc = .ok (.idiv, 1)) (hz : ¬ y = 0) : Go M d pc L (.int y :: .int x :: st) σ (pc + 1) (L) (.int (x / y) :: st) (σ) := by
  intro X p l e R s m args below meth c A0 H0 cells slots Q F k H locs ls hP hS hL
  exact lv_idiv F.1 F.2.1 hd hz (k H locs ls hP hS hL)

theorem go_irem {x y : Int32} (hd : decode M.2.1 pc = .ok (.irem, 1)) (hz : ¬ y = 0) : Go M d pc L (.int y :: .int x :: st) σ (pc + 1) (L) (.int (x - x / y * y) :: st) (σ) := by
  intro X p l e R s m args below meth c A0 H0 cells slots Q F k H locs ls hP hS hL
  exact lv_irem F.1 F.2.1 hd hz (k H locs ls hP hS hL)

theorem go_ldiv {x y : Int64} (hd : decode M.2.1 pc = .ok (.ldiv, 1)) (hz : ¬ y = 0) : Go M d pc L (.long y :: .long x :: st) σ (pc + 1) (L) (.long (x / y) :: st) (σ) := by
  intro X p l e R s m args below meth c A0 H0 cells slots Q F k H locs ls hP hS hL
  exact lv_ldiv F.1 F.2.1 hd hz (k H locs ls hP hS hL)

theorem go_lrem {x y : Int64} (hd : decode M.2.1 pc = .ok (.lrem, 1)) (hz : ¬ y = 0) : Go M d pc L (.long y :: .long x :: st) σ (pc + 1) (L) (.long (x - x / y * y) :: st) (σ) := by
  intro X p l e R s m args below meth c A0 H0 cells slots Q F k H locs ls hP hS hL
  exact lv_lrem F.1 F.2.1 hd hz (k H locs ls hP hS hL)

theorem go_ladd {x y : Int64} (hd : decode M.2.1 pc = .ok (.ladd, 1)) : Go M d pc L (.long y :: .long x :: st) σ (pc + 1) (L) (.long (x + y) :: st) (σ) := by
  intro X p l e R s m args below meth c A0 H0 cells slots Q F k H locs ls hP hS hL
  exact lv_ladd F.1 F.2.1 hd (k H locs ls hP hS hL)

theorem go_lsub {x y : Int64} (hd : decode M.2.1 pc = .ok (.lsub, 1)) : Go M d pc L (.long y :: .long x :: st) σ (pc + 1) (L) (.long (x - y) :: st) (σ) := by
  intro X p l e R s m args below meth c A0 H0 cells slots Q F k H locs ls hP hS hL
  exact lv_lsub F.1 F.2.1 hd (k H locs ls hP hS hL)

theorem go_lmul {x y : Int64} (hd : decode M.2.1 pc = .ok (.lmul, 1)) : Go M d pc L (.long y :: .long x :: st) σ (pc + 1) (L) (.long (x * y) :: st) (σ) := by
  intro X p l e R s m args below meth c A0 H0 cells slots Q F k H locs ls hP hS hL
  exact lv_lmul F.1 F.2.1 hd (k H locs ls hP hS hL)

theorem go_land {x y : Int64} (hd : decode M.2.1 pc = .ok (.land, 1)) : Go M d pc L (.long y :: .long x :: st) σ (pc + 1) (L) (.long (x &&& y) :: st) (σ) := by
  intro X p l e R s m args below meth c A0 H0 cells slots Q F k H locs ls hP hS hL
  exact lv_land F.1 F.2.1 hd (k H locs ls hP hS hL)

theorem go_lor {x y : Int64} (hd : decode M.2.1 pc = .ok (.lor, 1)) : Go M d pc L (.long y :: .long x :: st) σ (pc + 1) (L) (.long (x ||| y) :: st) (σ) := by
  intro X p l e R s m args below meth c A0 H0 cells slots Q F k H locs ls hP hS hL
  exact lv_lor F.1 F.2.1 hd (k H locs ls hP hS hL)

theorem go_lxor {x y : Int64} (hd : decode M.2.1 pc = .ok (.lxor, 1)) : Go M d pc L (.long y :: .long x :: st) σ (pc + 1) (L) (.long (x ^^^ y) :: st) (σ) := by
  intro X p l e R s m args below meth c A0 H0 cells slots Q F k H locs ls hP hS hL
  exact lv_lxor F.1 F.2.1 hd (k H locs ls hP hS hL)

theorem go_lshl {x : Int64} {y : Int32} (hd : decode M.2.1 pc = .ok (.lshl, 1)) : Go M d pc L (.int y :: .long x :: st) σ (pc + 1) (L) (.long (x <<< (y.toInt64 &&& 63)) :: st) (σ) := by
  intro X p l e R s m args below meth c A0 H0 cells slots Q F k H locs ls hP hS hL
  exact lv_lshl F.1 F.2.1 hd rfl (k H locs ls hP hS hL)

theorem go_lshr {x : Int64} {y : Int32} (hd : decode M.2.1 pc = .ok (.lshr, 1)) : Go M d pc L (.int y :: .long x :: st) σ (pc + 1) (L) (.long (x >>> (y.toInt64 &&& 63)) :: st) (σ) := by
  intro X p l e R s m args below meth c A0 H0 cells slots Q F k H locs ls hP hS hL
  exact lv_lshr F.1 F.2.1 hd rfl (k H locs ls hP hS hL)

theorem go_lcmp {x y : Int64} (hd : decode M.2.1 pc = .ok (.lcmp, 1)) : Go M d pc L (.long y :: .long x :: st) σ (pc + 1) (L) (.int (lg_cmp x y) :: st) (σ) := by
  intro X p l e R s m args below meth c A0 H0 cells slots Q F k H locs ls hP hS hL
  exact W.lcmp F.1 F.2.1 hd (k H locs ls hP hS hL)

theorem go_i2l {x : Int32} (hd : decode M.2.1 pc = .ok (.i2l, 1)) : Go M d pc L (.int x :: st) σ (pc + 1) (L) (.long x.toInt64 :: st) (σ) := by
  intro X p l e R s m args below meth c A0 H0 cells slots Q F k H locs ls hP hS hL
  exact lv_i2l F.1 F.2.1 hd rfl (k H locs ls hP hS hL)

theorem go_l2i {x : Int64} (hd : decode M.2.1 pc = .ok (.l2i, 1)) : Go M d pc L (.long x :: st) σ (pc + 1) (L) (.int x.toInt32 :: st) (σ) := by
  intro X p l e R s m args below meth c A0 H0 cells slots Q F k H locs ls hP hS hL
  exact lv_l2i F.1 F.2.1 hd rfl (k H locs ls hP hS hL)

theorem go_i2b {x : Int32} (hd : decode M.2.1 pc = .ok (.i2b, 1)) : Go M d pc L (.int x :: st) σ (pc + 1) (L) (.int x.toInt8.toInt32 :: st) (σ) := by
  intro X p l e R s m args below meth c A0 H0 cells slots Q F k H locs ls hP hS hL
  exact lv_i2b F.1 F.2.1 hd rfl (k H locs ls hP hS hL)

theorem go_i2s {x : Int32} (hd : decode M.2.1 pc = .ok (.i2s, 1)) : Go M d pc L (.int x :: st) σ (pc + 1) (L) (.int x.toInt16.toInt32 :: st) (σ) := by
  intro X p l e R s m args below meth c A0 H0 cells slots Q F k H locs ls hP hS hL
  exact lv_i2s F.1 F.2.1 hd rfl (k H locs ls hP hS hL)

theorem go_dup {v : Value} (hd : decode M.2.1 pc = .ok (.dup, 1)) (hc : v.category = 1) : Go M d pc L (v :: st) σ (pc + 1) (L) (v :: v :: st) (σ) := by
  intro X p l e R s m args below meth c A0 H0 cells slots Q F k H locs ls hP hS hL
  exact lv_dup F.1 F.2.1 hd (by rw [cv_cat]; exact hc) (k H locs ls hP hS hL)

theorem go_pop {v : Value} (hd : decode M.2.1 pc = .ok (.pop, 1)) (hc : v.category = 1) : Go M d pc L (v :: st) σ (pc + 1) (L) (st) (σ) := by
  intro X p l e R s m args below meth c A0 H0 cells slots Q F k H locs ls hP hS hL
  exact lv_pop F.1 F.2.1 hd (by rw [cv_cat]; exact hc) (k H locs ls hP hS hL)

theorem go_dup_x1 {v w : Value} (hd : decode M.2.1 pc = .ok (.dup_x1, 1)) (hc : v.category = 1) (hc2 : w.category = 1) : Go M d pc L (v :: w :: st) σ (pc + 1) (L) (v :: w :: v :: st) (σ) := by
  intro X p l e R s m args below meth c A0 H0 cells slots Q F k H locs ls hP hS hL
  exact lv_dup_x1 F.1 F.2.1 hd (by rw [cv_cat]; exact hc) (by rw [cv_cat]; exact hc2) (k H locs ls hP hS hL)

theorem go_dup2 {v w : Value} (hd : decode M.2.1 pc = .ok (.dup2, 1)) (hc : v.category = 1) (hc2 : w.category = 1) : Go M d pc L (v :: w :: st) σ (pc + 1) (L) (v :: w :: v :: w :: st) (σ) := by
  intro X p l e R s m args below meth c A0 H0 cells slots Q F k H locs ls hP hS hL
  exact lv_dup2_11 F.1 F.2.1 hd (by rw [cv_cat]; exact hc) (by rw [cv_cat]; exact hc2) (k H locs ls hP hS hL)

theorem go_goto {off : Int} (tgt : Nat) (hd : decode M.2.1 pc = .ok (.goto off, 3)) (ht : (pc : Int) + off = (tgt : Int)) : Go M d pc L (st) σ (tgt) (L) (st) (σ) := by
  intro X p l e R s m args below meth c A0 H0 cells slots Q F k H locs ls hP hS hL
  exact lv_goto F.1 F.2.1 hd ht (k H locs ls hP hS hL)

theorem go_ifnull_r {o : Nat} {off : Int} (hd : decode M.2.1 pc = .ok (.ifnull off, 3)) : Go M d pc L (.ref o :: st) σ (pc + 3) (L) (st) (σ) := by
  intro X p l e R s m args below meth c A0 H0 cells slots Q F k H locs ls hP hS hL
  exact lv_ifnull F.1 F.2.1 hd (k H locs ls hP hS hL)

theorem go_ifnull_n {off : Int} (tgt : Nat) (hd : decode M.2.1 pc = .ok (.ifnull off, 3)) (ht : (pc : Int) + off = (tgt : Int)) : Go M d pc L (.null :: st) σ (tgt) (L) (st) (σ) := by
  intro X p l e R s m args below meth c A0 H0 cells slots Q F k H locs ls hP hS hL
  exact lv_ifnullN F.1 F.2.1 hd ht (k H locs ls hP hS hL)

theorem go_ifnonnull_r {o : Nat} {off : Int} (tgt : Nat) (hd : decode M.2.1 pc = .ok (.ifnonnull off, 3)) (ht : (pc : Int) + off = (tgt : Int)) : Go M d pc L (.ref o :: st) σ (tgt) (L) (st) (σ) := by
  intro X p l e R s m args below meth c A0 H0 cells slots Q F k H locs ls hP hS hL
  exact lv_ifnonnull F.1 F.2.1 hd ht (k H locs ls hP hS hL)

theorem go_ifnonnull_n {off : Int} (hd : decode M.2.1 pc = .ok (.ifnonnull off, 3)) : Go M d pc L (.null :: st) σ (pc + 3) (L) (st) (σ) := by
  intro X p l e R s m args below meth c A0 H0 cells slots Q F k H locs ls hP hS hL
  exact lv_ifnonnullN F.1 F.2.1 hd (k H locs ls hP hS hL)

theorem go_iald {a : Nat} {i : Int32} (hk : kd a = 100) {n : Nat} (hn : ln a = n) (hi : vp_in i n) (hd : decode M.2.1 pc = .ok (.iaload, 1)) : Go M d pc L (.int i :: .ref a :: st) σ (pc + 1) (L) (.int (σ.1 a i.toNatClampNeg) :: st) (σ) := by
  intro X p l e R s m args below meth c A0 H0 cells slots Q F k H locs ls hP hS hL
  exact va_iald F.1 F.2.1 F.2.2.2.2.2.1.1 hP a 0 (by rw [ws_at X σ (kd_lt hk (by decide)), hE_int X σ hk]) rfl (hn ▸ hi) hd (k H locs ls hP hS hL)

theorem go_bald {a : Nat} {i : Int32} (hk : kd a = 102) {n : Nat} (hn : ln a = n) (hi : vp_in i n) (hd : decode M.2.1 pc = .ok (.baload, 1)) : Go M d pc L (.int i :: .ref a :: st) σ (pc + 1) (L) (.int (σ.1 a i.toNatClampNeg) :: st) (σ) := by
  intro X p l e R s m args below meth c A0 H0 cells slots Q F k H locs ls hP hS hL
  exact va_bald F.1 F.2.1 F.2.2.2.2.2.1.1 hP a 2 (by rw [ws_at X σ (kd_lt hk (by decide)), hE_byte X σ hk]) rfl (hn ▸ hi) hd (k H locs ls hP hS hL)

theorem go_lald {a : Nat} {i : Int32} (hk : kd a = 101) {n : Nat} (hn : ln a = n) (hi : vp_in i n) (hd : decode M.2.1 pc = .ok (.laload, 1)) : Go M d pc L (.int i :: .ref a :: st) σ (pc + 1) (L) (.long (σ.2 a i.toNatClampNeg) :: st) (σ) := by
  intro X p l e R s m args below meth c A0 H0 cells slots Q F k H locs ls hP hS hL
  exact va_lald F.1 F.2.1 F.2.2.2.2.2.1.1 hP a 1 (by rw [ws_at X σ (kd_lt hk (by decide)), hE_long X σ hk]) rfl (hn ▸ hi) hd (k H locs ls hP hS hL)

theorem go_aald103 {a r : Nat} {i : Int32} (hk : kd a = 103) (hg : gr a i.toNatClampNeg = r) {n : Nat} (hn : ln a = n) (hi : vp_in i n) (hd : decode M.2.1 pc = .ok (.aaload, 1)) : Go M d pc L (.int i :: .ref a :: st) σ (pc + 1) (L) (.ref r :: st) (σ) := by
  intro X p l e R s m args below meth c A0 H0 cells slots Q F k H locs ls hP hS hL
  subst hg
  have hat : (ws X σ)[a]? = some (X.2.1 a, .inl (X.2.2 3, ln a, .inr (.inr (.inr (.inr (fun k => some (X.2.1 (gr a k)))))))) := by rw [ws_at X σ (kd_lt hk (by decide)), hE_refs X σ hk (by decide)]
  exact va_aldq F.1 F.2.1 F.2.2.2.2.2.1.1 hP a 3 hat rfl (hn ▸ hi) hd (k H locs ls hP hS hL)

theorem go_aald104 {a r : Nat} {i : Int32} (hk : kd a = 104) (hg : gr a i.toNatClampNeg = r) {n : Nat} (hn : ln a = n) (hi : vp_in i n) (hd : decode M.2.1 pc = .ok (.aaload, 1)) : Go M d pc L (.int i :: .ref a :: st) σ (pc + 1) (L) (.ref r :: st) (σ) := by
  intro X p l e R s m args below meth c A0 H0 cells slots Q F k H locs ls hP hS hL
  subst hg
  have hat : (ws X σ)[a]? = some (X.2.1 a, .inl (X.2.2 4, ln a, .inr (.inr (.inr (.inr (fun k => some (X.2.1 (gr a k)))))))) := by rw [ws_at X σ (kd_lt hk (by decide)), hE_refs X σ hk (by decide)]
  exact va_aldq F.1 F.2.1 F.2.2.2.2.2.1.1 hP a 4 hat rfl (hn ▸ hi) hd (k H locs ls hP hS hL)

theorem go_iast {a : Nat} {i x : Int32} (hk : kd a = 100) {n : Nat} (hn : ln a = n) (hi : vp_in i n) (hd : decode M.2.1 pc = .ok (.iastore, 1)) : Go M d pc L (.int x :: .int i :: .ref a :: st) σ (pc + 1) (L) (st) (sA σ a (upd (σ.1 a) i.toNatClampNeg (x))) := by
  intro X p l e R s m args below meth c A0 H0 cells slots Q F k H locs ls hP hS hL
  have ha := kd_lt hk (by decide)
  have hat : (ws X σ)[a]? = some (X.2.1 a, .inl (X.2.2 0, ln a, .inl (σ.1 a))) := by rw [ws_at X σ ha, hE_int X σ hk]
  have hset := ws_set X σ (sA σ a (upd (σ.1 a) i.toNatClampNeg (x))) ha (e := .inl (X.2.2 0, ln a, .inl (upd (σ.1 a) i.toNatClampNeg (x)))) (by rw [hE_int X _ hk, sA_at]) (fun q hq => hE_sA_ne X σ a _ hq)
  refine va_iast F.1 F.2.1 F.2.2.2.2.2.1.1 hP (ws_D F.2.2.2.2.2.1.2.2 F.2.2.2.2.2.2.2) hS a 0 hat rfl (hn ▸ hi) hd (fun H1 locs1 h1 _ h3 => ?_)
  exact k H1 locs1 ls (by rw [← hset]; exact h1) h3 hL

theorem go_bast {a : Nat} {i x : Int32} (hk : kd a = 102) {n : Nat} (hn : ln a = n) (hi : vp_in i n) (hd : decode M.2.1 pc = .ok (.bastore, 1)) : Go M d pc L (.int x :: .int i :: .ref a :: st) σ (pc + 1) (L) (st) (sA σ a (upd (σ.1 a) i.toNatClampNeg (x.toInt8.toInt32))) := by
  intro X p l e R s m args below meth c A0 H0 cells slots Q F k H locs ls hP hS hL
  have ha := kd_lt hk (by decide)
  have hat : (ws X σ)[a]? = some (X.2.1 a, .inl (X.2.2 2, ln a, .inl (σ.1 a))) := by rw [ws_at X σ ha, hE_byte X σ hk]
  have hset := ws_set X σ (sA σ a (upd (σ.1 a) i.toNatClampNeg (x.toInt8.toInt32))) ha (e := .inl (X.2.2 2, ln a, .inl (upd (σ.1 a) i.toNatClampNeg (x.toInt8.toInt32)))) (by rw [hE_byte X _ hk, sA_at]) (fun q hq => hE_sA_ne X σ a _ hq)
  refine va_bast F.1 F.2.1 F.2.2.2.2.2.1.1 hP (ws_D F.2.2.2.2.2.1.2.2 F.2.2.2.2.2.2.2) hS a 2 hat rfl (hn ▸ hi) hd (fun H1 locs1 h1 _ h3 => ?_)
  exact k H1 locs1 ls (by rw [← hset]; exact h1) h3 hL

theorem go_last {a : Nat} {i : Int32} {x : Int64} (hk : kd a = 101) {n : Nat} (hn : ln a = n) (hi : vp_in i n) (hd : decode M.2.1 pc = .ok (.lastore, 1)) : Go M d pc L (.long x :: .int i :: .ref a :: st) σ (pc + 1) (L) (st) (sJ σ a (vp_updL (σ.2 a) i.toNatClampNeg x)) := by
  intro X p l e R s m args below meth c A0 H0 cells slots Q F k H locs ls hP hS hL
  have ha := kd_lt hk (by decide)
  have hat : (ws X σ)[a]? = some (X.2.1 a, .inl (X.2.2 1, ln a, .inr (.inl (σ.2 a)))) := by rw [ws_at X σ ha, hE_long X σ hk]
  have hset := ws_set X σ (sJ σ a (vp_updL (σ.2 a) i.toNatClampNeg x)) ha (e := .inl (X.2.2 1, ln a, .inr (.inl (vp_updL (σ.2 a) i.toNatClampNeg x)))) (by rw [hE_long X _ hk, sJ_at]) (fun q hq => hE_sJ_ne X σ a _ hq)
  refine va_last F.1 F.2.1 F.2.2.2.2.2.1.1 hP (ws_D F.2.2.2.2.2.1.2.2 F.2.2.2.2.2.2.2) hS a 1 hat rfl (hn ▸ hi) hd (fun H1 locs1 h1 _ h3 => ?_)
  exact k H1 locs1 ls (by rw [← hset]; exact h1) h3 hL

theorem go_alen100 {a n : Nat} {v : Int32} (hk : kd a = 100) (hn : ln a = n) (hv : Int32.ofNat n = v) (hd : decode M.2.1 pc = .ok (.arraylength, 1)) : Go M d pc L (.ref a :: st) σ (pc + 1) (L) (.int v :: st) (σ) := by
  intro X p l e R s m args below meth c A0 H0 cells slots Q F k H locs ls hP hS hL
  subst hn
  have hat : (ws X σ)[a]? = some (X.2.1 a, .inl (X.2.2 0, ln a, .inl (σ.1 a))) := by rw [ws_at X σ (kd_lt hk (by decide)), hE_int X σ hk]
  exact va_alen F.1 F.2.1 F.2.2.2.2.2.1.1 hP a 0 hat rfl hv hd (k H locs ls hP hS hL)

theorem go_alen101 {a n : Nat} {v : Int32} (hk : kd a = 101) (hn : ln a = n) (hv : Int32.ofNat n = v) (hd : decode M.2.1 pc = .ok (.arraylength, 1)) : Go M d pc L (.ref a :: st) σ (pc + 1) (L) (.int v :: st) (σ) := by
  intro X p l e R s m args below meth c A0 H0 cells slots Q F k H locs ls hP hS hL
  subst hn
  have hat : (ws X σ)[a]? = some (X.2.1 a, .inl (X.2.2 1, ln a, .inr (.inl (σ.2 a)))) := by rw [ws_at X σ (kd_lt hk (by decide)), hE_long X σ hk]
  exact va_alen F.1 F.2.1 F.2.2.2.2.2.1.1 hP a 1 hat rfl hv hd (k H locs ls hP hS hL)

theorem go_alen102 {a n : Nat} {v : Int32} (hk : kd a = 102) (hn : ln a = n) (hv : Int32.ofNat n = v) (hd : decode M.2.1 pc = .ok (.arraylength, 1)) : Go M d pc L (.ref a :: st) σ (pc + 1) (L) (.int v :: st) (σ) := by
  intro X p l e R s m args below meth c A0 H0 cells slots Q F k H locs ls hP hS hL
  subst hn
  have hat : (ws X σ)[a]? = some (X.2.1 a, .inl (X.2.2 2, ln a, .inl (σ.1 a))) := by rw [ws_at X σ (kd_lt hk (by decide)), hE_byte X σ hk]
  exact va_alen F.1 F.2.1 F.2.2.2.2.2.1.1 hP a 2 hat rfl hv hd (k H locs ls hP hS hL)

theorem go_alen103 {a n : Nat} {v : Int32} (hk : kd a = 103) (hn : ln a = n) (hv : Int32.ofNat n = v) (hd : decode M.2.1 pc = .ok (.arraylength, 1)) : Go M d pc L (.ref a :: st) σ (pc + 1) (L) (.int v :: st) (σ) := by
  intro X p l e R s m args below meth c A0 H0 cells slots Q F k H locs ls hP hS hL
  subst hn
  have hat : (ws X σ)[a]? = some (X.2.1 a, .inl (X.2.2 3, ln a, .inr (.inr (.inr (.inr (fun k => some (X.2.1 (gr a k)))))))) := by rw [ws_at X σ (kd_lt hk (by decide)), hE_refs X σ hk (by decide)]
  exact va_alen F.1 F.2.1 F.2.2.2.2.2.1.1 hP a 3 hat rfl hv hd (k H locs ls hP hS hL)

theorem go_alen104 {a n : Nat} {v : Int32} (hk : kd a = 104) (hn : ln a = n) (hv : Int32.ofNat n = v) (hd : decode M.2.1 pc = .ok (.arraylength, 1)) : Go M d pc L (.ref a :: st) σ (pc + 1) (L) (.int v :: st) (σ) := by
  intro X p l e R s m args below meth c A0 H0 cells slots Q F k H locs ls hP hS hL
  subst hn
  have hat : (ws X σ)[a]? = some (X.2.1 a, .inl (X.2.2 4, ln a, .inr (.inr (.inr (.inr (fun k => some (X.2.1 (gr a k)))))))) := by rw [ws_at X σ (kd_lt hk (by decide)), hE_refs X σ hk (by decide)]
  exact va_alen F.1 F.2.1 F.2.2.2.2.2.1.1 hP a 4 hat rfl hv hd (k H locs ls hP hS hL)


def cT (c : Nat) : vw_C := cls.getD c ("", fun _ => ("", "", "", false), 0)
/-- the layout words of a class are among GW; its field types and names -/
def LayOk (c : Nat) : Prop := (∀ w ∈ u_ws (cT c).1 (cT c).2.1 (cT c).2.2, w ∈ GW) ∧ cls[c]? = some (cT c) ∧ (cT c).2.2 = nF c ∧ c < 100 ∧ ∃ ty : Nat → FieldType, (∀ k, k < (cT c).2.2 → parseFieldDescriptor ((cT c).2.1 k).2.2.1 = some (ty k)) ∧ (∀ a, a < (cT c).2.2 → ∀ b, b < (cT c).2.2 → a ≠ b → ((cT c).2.1 a).2.1 ≠ ((cT c).2.1 b).2.1)
def FL (own : String) (i c k : Nat) : Prop := LayOk c ∧ k < nF c ∧ Cond.fieldLink own i ((cT c).2.1 k).1 ((cT c).2.1 k).2.1 ((cT c).2.1 k).2.2.1 ∈ GW
theorem fl_at {X : Cx} {σ : St} {o c k i : Nat} {own : String} (hf : FL own i c k) (hk : kd o = c) : (ws X σ)[o]? = some (X.2.1 o, .inr (c, fsO X σ c o)) := by
  have hc := hf.1.2.2.2.1
  rw [ws_at X σ (kd_lt hk (by omega)), hE_obj X σ hk hc]

theorem go_geti {o c k i : Nat} (hf : FL M.1 i c k) (hr : rF c k = false) (hk : kd o = c) (hd : decode M.2.1 pc = .ok (.getfield i, 3)) : Go M d pc L (.ref o :: st) σ (pc + 3) L (.int (σ.1 o k) :: st) σ := by
  intro X p l e R s m args below meth c A0 H0 cells slots Q F kk H locs ls hP hS hL
  have hat := fl_at (X := X) (σ := σ) hf hk
  obtain ⟨⟨hin, hcl, hN, hc, ty, hty, hnm⟩, hkn, hl⟩ := hf
  exact va_get F.1 F.2.1 F.2.2.2.2.1 hin F.2.2.2.1 F.2.2.2.2.2.1.1 hP o hat hcl k (by rw [hN]; exact hkn) (F.2.2.2.2.1 _ hl) (fun _ h => h) (by rw [fsO_at X σ hkn, hr]; rfl) hd (kk H locs ls hP hS hL)

theorem go_getr {o c k i r : Nat} (hf : FL M.1 i c k) (hr : rF c k = true) (hk : kd o = c) (hg : gr o k = r) (hd : decode M.2.1 pc = .ok (.getfield i, 3)) : Go M d pc L (.ref o :: st) σ (pc + 3) L (.ref r :: st) σ := by
  subst hg
  intro X p l e R s m args below meth c A0 H0 cells slots Q F kk H locs ls hP hS hL
  have hat := fl_at (X := X) (σ := σ) hf hk
  obtain ⟨⟨hin, hcl, hN, hc, ty, hty, hnm⟩, hkn, hl⟩ := hf
  exact va_get F.1 F.2.1 F.2.2.2.2.1 hin F.2.2.2.1 F.2.2.2.2.2.1.1 hP o hat hcl k (by rw [hN]; exact hkn) (F.2.2.2.2.1 _ hl) (fun _ h => h) (by rw [fsO_at X σ hkn, hr]; rfl) hd (kk H locs ls hP hS hL)

theorem go_puti {o c k i : Nat} {x : Int32} {ty1 : FieldType} (hf : FL M.1 i c k) (hr : rF c k = false) (hfin : ((cT c).2.1 k).2.2.2 = false) (ht : parseFieldDescriptor ((cT c).2.1 k).2.2.1 = some ty1) (hn : narrow ty1 (.int x) = .int x) (hfit : fits ty1 (.int x) = true) (hk : kd o = c) (hd : decode M.2.1 pc = .ok (.putfield i, 3)) : Go M d pc L (.int x :: .ref o :: st) σ (pc + 3) L st (sA σ o (upd (σ.1 o) k x)) := by
  intro X p l e R s m args below meth cc A0 H0 cells slots Q F kk H locs ls hP hS hL
  have hat := fl_at (X := X) (σ := σ) hf hk
  obtain ⟨⟨hin, hcl, hN, hc, ty, hty, hnm⟩, hkn, hl⟩ := hf
  have hset := ws_set X σ (sA σ o (upd (σ.1 o) k x)) (kd_lt hk (by omega)) (e := .inr (c, (fsO X σ c o).set k (.int x))) (by rw [hE_obj X _ hk hc, fsO_set X σ hkn hr]) (fun q hq => hE_sA_ne X σ o _ hq)
  refine va_put F.1 F.2.1 F.2.2.2.2.1 hin ty hty hnm F.2.2.2.1 F.2.2.2.2.2.1.1 hP (ws_D F.2.2.2.2.2.1.2.2 F.2.2.2.2.2.2.2) hS o hat hcl k (by rw [hN]; exact hkn) (F.2.2.2.2.1 _ hl) (fun _ h => h) hfin ht hn hfit (by rw [fsO_len]; exact hkn) hd (fun H1 locs1 h1 _ h3 => ?_)
  exact kk H1 locs1 ls (by rw [← hset]; exact h1) h3 hL

def MMok : Prop := Cond.static Lib.Math.max.name ∈ GW ∧ Cond.initialized "java/lang/Math" ∈ GW ∧ Cond.code Lib.Math.max.name Lib.Math.max.code 2 (some .int) ∈ GW ∧ Cond.static Lib.Math.min.name ∈ GW ∧ Cond.code Lib.Math.min.name Lib.Math.min.code 2 (some .int) ∈ GW
theorem go_max (hm : MMok) {i : Nat} {x y : Int32} (hl : Cond.methodLink M.1 i Lib.Math.max.name ∈ GW) (hML : L.length = M.2.2.1) (hst : (st.map fun v => v.category).sum ≤ 8) (hd1 : 1 ≤ d) (hd : decode M.2.1 pc = .ok (.invokestatic i, 3)) : Go M d pc L (.int y :: .int x :: st) σ (pc + 3) L (.int (if x < y then y else x) :: st) σ := by
  intro X p l e R s m args below meth c A0 H0 cells slots Q F k H locs ls hP hS hL
  have hR := F.2.2.2.2.2.2.1
  have hsum : ((st.map (cv X)).map fun v => v.category).sum ≤ 8 := by rw [List.map_map]; simpa [Function.comp_def, cv_cat] using hst
  exact va_mmax F.1 F.2.1 (by rw [F.2.2.1, hL.1, hML]) F.2.2.2.1 (F.2.2.2.2.1 _ hl) (F.2.2.2.2.1 _ hm.1) (F.2.2.2.2.1 _ hm.2.1) (F.2.2.2.2.1 _ hm.2.2.1) (by omega) (by omega) hR.2.2.1 hR.2.2.2 hd (k H locs ls hP hS hL)
theorem go_min (hm : MMok) {i : Nat} {x y : Int32} (hl : Cond.methodLink M.1 i Lib.Math.min.name ∈ GW) (hML : L.length = M.2.2.1) (hst : (st.map fun v => v.category).sum ≤ 8) (hd1 : 1 ≤ d) (hd : decode M.2.1 pc = .ok (.invokestatic i, 3)) : Go M d pc L (.int y :: .int x :: st) σ (pc + 3) L (.int (if y < x then y else x) :: st) σ := by
  intro X p l e R s m args below meth c A0 H0 cells slots Q F k H locs ls hP hS hL
  have hR := F.2.2.2.2.2.2.1
  have hsum : ((st.map (cv X)).map fun v => v.category).sum ≤ 8 := by rw [List.map_map]; simpa [Function.comp_def, cv_cat] using hst
  exact va_mmin F.1 F.2.1 (by rw [F.2.2.1, hL.1, hML]) F.2.2.2.1 (F.2.2.2.2.1 _ hl) (F.2.2.2.2.1 _ hm.2.2.2.1) (F.2.2.2.2.1 _ hm.2.1) (F.2.2.2.2.1 _ hm.2.2.2.2) (by omega) (by omega) hR.2.2.1 hR.2.2.2 hd (k H locs ls hP hS hL)

theorem go_sub {L' : List (Option Value)} (hs : lsub L L') : Go M d pc L (st) σ (pc) (L') (st) (σ) := by
  intro X p l e R s m args below meth c A0 H0 cells slots Q F k H locs ls hP hS hL
  exact k H locs ls hP hS (hL.sub hs)

theorem br_icmp_eq {x y : Int32} {off : Int} (tgt : Nat) (hd : decode M.2.1 pc = .ok (.if_icmp .eq off, 3)) (ht : (pc : Int) + off = (tgt : Int)) : Br M d pc L (.int y :: .int x :: st) σ (x = y) (¬ x = y) tgt (pc + 3) st := by
  intro X p l e R s m args below meth c A0 H0 cells slots Q F kt kf H locs ls hP hS hL
  exact lv_icmp_eq F.1 F.2.1 hd ht (fun q => kt q H locs ls hP hS hL) (fun q => kf q H locs ls hP hS hL)

theorem br_if_eq {x : Int32} {off : Int} (tgt : Nat) (hd : decode M.2.1 pc = .ok (.ifCond .eq off, 3)) (ht : (pc : Int) + off = (tgt : Int)) : Br M d pc L (.int x :: st) σ (x = 0) (¬ x = 0) tgt (pc + 3) st := by
  intro X p l e R s m args below meth c A0 H0 cells slots Q F kt kf H locs ls hP hS hL
  exact lv_if_eq F.1 F.2.1 hd ht (fun q => kt q H locs ls hP hS hL) (fun q => kf q H locs ls hP hS hL)

theorem br_icmp_ne {x y : Int32} {off : Int} (tgt : Nat) (hd : decode M.2.1 pc = .ok (.if_icmp .ne off, 3)) (ht : (pc : Int) + off = (tgt : Int)) : Br M d pc L (.int y :: .int x :: st) σ (¬ x = y) (x = y) tgt (pc + 3) st := by
  intro X p l e R s m args below meth c A0 H0 cells slots Q F kt kf H locs ls hP hS hL
  exact lv_icmp_ne F.1 F.2.1 hd ht (fun q => kt q H locs ls hP hS hL) (fun q => kf q H locs ls hP hS hL)

theorem br_if_ne {x : Int32} {off : Int} (tgt : Nat) (hd : decode M.2.1 pc = .ok (.ifCond .ne off, 3)) (ht : (pc : Int) + off = (tgt : Int)) : Br M d pc L (.int x :: st) σ (¬ x = 0) (x = 0) tgt (pc + 3) st := by
  intro X p l e R s m args below meth c A0 H0 cells slots Q F kt kf H locs ls hP hS hL
  exact lv_if_ne F.1 F.2.1 hd ht (fun q => kt q H locs ls hP hS hL) (fun q => kf q H locs ls hP hS hL)

theorem br_icmp_lt {x y : Int32} {off : Int} (tgt : Nat) (hd : decode M.2.1 pc = .ok (.if_icmp .lt off, 3)) (ht : (pc : Int) + off = (tgt : Int)) : Br M d pc L (.int y :: .int x :: st) σ (x < y) (¬ x < y) tgt (pc + 3) st := by
  intro X p l e R s m args below meth c A0 H0 cells slots Q F kt kf H locs ls hP hS hL
  exact lv_icmp_lt F.1 F.2.1 hd ht (fun q => kt q H locs ls hP hS hL) (fun q => kf q H locs ls hP hS hL)

theorem br_if_lt {x : Int32} {off : Int} (tgt : Nat) (hd : decode M.2.1 pc = .ok (.ifCond .lt off, 3)) (ht : (pc : Int) + off = (tgt : Int)) : Br M d pc L (.int x :: st) σ (x < 0) (¬ x < 0) tgt (pc + 3) st := by
  intro X p l e R s m args below meth c A0 H0 cells slots Q F kt kf H locs ls hP hS hL
  exact lv_if_lt F.1 F.2.1 hd ht (fun q => kt q H locs ls hP hS hL) (fun q => kf q H locs ls hP hS hL)

theorem br_icmp_ge {x y : Int32} {off : Int} (tgt : Nat) (hd : decode M.2.1 pc = .ok (.if_icmp .ge off, 3)) (ht : (pc : Int) + off = (tgt : Int)) : Br M d pc L (.int y :: .int x :: st) σ (y ≤ x) (¬ y ≤ x) tgt (pc + 3) st := by
  intro X p l e R s m args below meth c A0 H0 cells slots Q F kt kf H locs ls hP hS hL
  exact lv_icmp_ge F.1 F.2.1 hd ht (fun q => kt q H locs ls hP hS hL) (fun q => kf q H locs ls hP hS hL)

theorem br_if_ge {x : Int32} {off : Int} (tgt : Nat) (hd : decode M.2.1 pc = .ok (.ifCond .ge off, 3)) (ht : (pc : Int) + off = (tgt : Int)) : Br M d pc L (.int x :: st) σ (0 ≤ x) (¬ 0 ≤ x) tgt (pc + 3) st := by
  intro X p l e R s m args below meth c A0 H0 cells slots Q F kt kf H locs ls hP hS hL
  exact lv_if_ge F.1 F.2.1 hd ht (fun q => kt q H locs ls hP hS hL) (fun q => kf q H locs ls hP hS hL)

theorem br_icmp_gt {x y : Int32} {off : Int} (tgt : Nat) (hd : decode M.2.1 pc = .ok (.if_icmp .gt off, 3)) (ht : (pc : Int) + off = (tgt : Int)) : Br M d pc L (.int y :: .int x :: st) σ (y < x) (¬ y < x) tgt (pc + 3) st := by
  intro X p l e R s m args below meth c A0 H0 cells slots Q F kt kf H locs ls hP hS hL
  exact lv_icmp_gt F.1 F.2.1 hd ht (fun q => kt q H locs ls hP hS hL) (fun q => kf q H locs ls hP hS hL)

theorem br_if_gt {x : Int32} {off : Int} (tgt : Nat) (hd : decode M.2.1 pc = .ok (.ifCond .gt off, 3)) (ht : (pc : Int) + off = (tgt : Int)) : Br M d pc L (.int x :: st) σ (0 < x) (¬ 0 < x) tgt (pc + 3) st := by
  intro X p l e R s m args below meth c A0 H0 cells slots Q F kt kf H locs ls hP hS hL
  exact lv_if_gt F.1 F.2.1 hd ht (fun q => kt q H locs ls hP hS hL) (fun q => kf q H locs ls hP hS hL)

theorem br_icmp_le {x y : Int32} {off : Int} (tgt : Nat) (hd : decode M.2.1 pc = .ok (.if_icmp .le off, 3)) (ht : (pc : Int) + off = (tgt : Int)) : Br M d pc L (.int y :: .int x :: st) σ (x ≤ y) (¬ x ≤ y) tgt (pc + 3) st := by
  intro X p l e R s m args below meth c A0 H0 cells slots Q F kt kf H locs ls hP hS hL
  exact lv_icmp_le F.1 F.2.1 hd ht (fun q => kt q H locs ls hP hS hL) (fun q => kf q H locs ls hP hS hL)

theorem br_if_le {x : Int32} {off : Int} (tgt : Nat) (hd : decode M.2.1 pc = .ok (.ifCond .le off, 3)) (ht : (pc : Int) + off = (tgt : Int)) : Br M d pc L (.int x :: st) σ (x ≤ 0) (¬ x ≤ 0) tgt (pc + 3) st := by
  intro X p l e R s m args below meth c A0 H0 cells slots Q F kt kf H locs ls hP hS hL
  exact lv_if_le F.1 F.2.1 hd ht (fun q => kt q H locs ls hP hS hL) (fun q => kf q H locs ls hP hS hL)

theorem go_tableOut {x : Int32} {dflt lo hi : Int} {offs : Array Int} {len : Nat} (tgt : Nat) (hd : decode M.2.1 pc = .ok (.tableswitch dflt lo hi offs, len)) (h : x.toInt < lo ∨ hi < x.toInt) (ht : (pc : Int) + dflt = (tgt : Int)) : Go M d pc L (.int x :: st) σ tgt L st σ := by
  intro X p l e R s m args below meth c A0 H0 cells slots Q F k H locs ls hP hS hL
  exact lv_tableOut F.1 F.2.1 hd h ht (k H locs ls hP hS hL)
theorem go_tableIn {x : Int32} {dflt lo hi : Int} {offs : Array Int} {len : Nat} {off : Int} (tgt : Nat) (hd : decode M.2.1 pc = .ok (.tableswitch dflt lo hi offs, len)) (h1 : ¬ x.toInt < lo) (h2 : ¬ hi < x.toInt) (ho : offs[(x.toInt - lo).toNat]? = some off) (ht : (pc : Int) + off = (tgt : Int)) : Go M d pc L (.int x :: st) σ tgt L st σ := by
  intro X p l e R s m args below meth c A0 H0 cells slots Q F k H locs ls hP hS hL
  exact lv_tableIn F.1 F.2.1 hd h1 h2 ho ht (k H locs ls hP hS hL)

end SIMV

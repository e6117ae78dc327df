/-! THE WORLD IS MADE: rules of constructors -/
section BUILD
def s0 : St := (fun i k => if i = 14 then (if k = 0 then 2 else if k = 1 then 1 else 0) else if i = 80 ∨ i = 82 ∨ i = 84 ∨ i = 86 then (if k = 1 then -4 else 0) else if i = 88 then (if k = 4 then 2 else if k = 5 then 1 else if k = 20 ∨ k = 21 then -1 else 0) else if i = 108 then (if k < 4 then -4 else 0) else 0, fun _ _ => 0)
/-- the first k cells -/
def pE (X : Cx) (w : Nat → va_E) (k : Nat) : va_W := (List.range k).map (fun i => (X.2.1 i, w i))
def uE (w : Nat → va_E) (o : Nat) (e : va_E) : Nat → va_E := fun i => if i = o then e else w i
theorem pE_at {X : Cx} {w : Nat → va_E} {k i : Nat} (h : i < k) : (pE X w k)[i]? = some (X.2.1 i, w i) := by simp [pE, h]
theorem pE_len (X : Cx) (w : Nat → va_E) (k : Nat) : (pE X w k).length = k := by simp [pE]
theorem pE_cong {X : Cx} {w w' : Nat → va_E} {k : Nat} (h : ∀ i, i < k → w i = w' i) : pE X w k = pE X w' k := by
  unfold pE
  refine List.map_congr_left (fun i hi => ?_)
  rw [h i (List.mem_range.mp hi)]
theorem pE_succ (X : Cx) (w : Nat → va_E) (k : Nat) : pE X w (k + 1) = pE X w k ++ [(X.2.1 k, w k)] := by simp [pE, List.range_succ]
theorem pE_set {X : Cx} {w : Nat → va_E} {k o : Nat} {e : va_E} (ho : o < k) : (pE X w k).set o (X.2.1 o, e) = pE X (uE w o e) k := by
  apply List.ext_getElem?
  intro i
  rw [List.getElem?_set]
  by_cases h : o = i
  · subst h
    rw [if_pos rfl, pE_len, if_pos ho, pE_at ho]
    simp [uE]
  · rw [if_neg h]
    rcases Nat.lt_or_ge i k with q | q
    · rw [pE_at q, pE_at q]
      have : ¬ i = o := fun e => h e.symm
      simp [uE, this]
    · rw [List.getElem?_eq_none (by rw [pE_len]; exact q), List.getElem?_eq_none (by rw [pE_len]; exact q)]
theorem pE_D {X : Cx} {w : Nat → va_E} {k : Nat} {A0 : Nat → Prop} (hi : ∀ i j, i < NC → j < NC → X.2.1 i = X.2.1 j → i = j) (hk : k ≤ NC) (hA : ∀ i, i < NC → A0 (X.2.1 i)) : va_D A0 (pE X w k) := by
  have lt : ∀ {j : Nat} {q : Nat × va_E}, (pE X w k)[j]? = some q → j < k := fun {j q} h => by
    have := (List.getElem?_eq_some_iff.mp h).1
    rwa [pE_len] at this
  refine ⟨fun i j p q h1 h2 e => ?_, fun j q h => ?_⟩
  · have l1 := lt h1
    have l2 := lt h2
    rw [pE_at l1] at h1
    rw [pE_at l2] at h2
    cases h1; cases h2
    exact hi i j (Nat.lt_of_lt_of_le l1 hk) (Nat.lt_of_lt_of_le l2 hk) e
  · have l1 := lt h
    rw [pE_at l1] at h
    cases h
    exact hA j (Nat.lt_of_lt_of_le l1 hk)
theorem pE_push {X : Cx} {w : Nat → va_E} {k : Nat} {H : Heap} (hP : va_P X.1 cls (pE X w k) H) (h : va_at X.1 cls (X.2.1 k, w k) H) : va_P X.1 cls (pE X w (k + 1)) H := by
  rw [pE_succ]
  refine hP.app (fun j q hq => ?_)
  have hz : j < 1 := (List.getElem?_eq_some_iff.mp hq).1
  rw [show j = 0 by omega] at hq
  cases hq
  exact h
def CY (X : Cx) (U : State) : Prop := CX X U ∧ va_AO "CarryNets$Net" U ∧ va_AO "CarryNets$Sheet" U
theorem CY.warm {X : Cx} {s U : State} (hW : s.WarmedH U.vm) (h : CY X s) : CY X U := ⟨h.1.warm hW, h.2.1.moved hW.alike, h.2.2.moved hW.alike⟩
theorem CY.same {X : Cx} {s U : State} (hv : s.vm = U.vm) (h : CY X s) : CY X U := ⟨h.1.same hv, h.2.1.moved (by rw [hv]; exact Vm.Alike.refl U.vm), h.2.2.moved (by rw [hv]; exact Vm.Alike.refl U.vm)⟩
/-- cells come one behind another -/
def aX (X : Cx) : Prop := ∀ i, i ≤ NC → X.2.1 i = X.2.1 0 + i
theorem aX.s {X : Cx} (h : aX X) {i : Nat} (hi : i < NC) : X.2.1 (i + 1) = X.2.1 i + 1 := by rw [h _ hi, h i (by omega)]; omega
def FB (X : Cx) (M : Mt) (R : Room) (p : Program) (s : State) (m : MethodId) (args : Array Value) (c : Code) (A0 : Nat → Prop) : Prop :=
  p.tables.exec = Jvm.exec ∧ c.code = M.2.1 ∧ c.maxLocals = M.2.2.1 ∧ s.vm.findClass M.1 = some m.cls ∧ (∀ w ∈ GW, w.before args s = true) ∧ CY X s ∧ (∀ i, i < NC → A0 (X.2.1 i)) ∧ aX X
def AtC (X : Cx) (p : Program) (l : Launch) (e : Env) (R : Room) (s : State) (m : MethodId) (args : Array Value) (below : List Frame) (meth : Method) (c : Code) (A0 : Nat → Prop) (H0 : Heap) (Z : State → Prop) (cells slots pc : Nat) (L : List (Option Value)) (st : List Value) (k : Nat) (w : Nat → va_E) : Prop :=
  ∀ (H : Heap) (locs : List Loc) (ls : Array Slot), H.size = X.2.1 k → va_P X.1 cls (pE X w k) H → va_S A0 H0 H locs → lvH X ls L → W p l e R s m args below meth c H locs cells slots Z (F0 m pc ls (st.map (cv X)))
variable {X : Cx} {p : Program} {l : Launch} {e : Env} {R : Room} {s : State} {m : MethodId} {args : Array Value} {below : List Frame} {meth : Method} {c : Code} {A0 : Nat → Prop} {H0 : Heap} {Z : State → Prop} {cells slots pc : Nat} {L : List (Option Value)} {st : List Value} {k : Nat} {w : Nat → va_E} {M : Mt}
theorem AtC.cg {w' : Nat → va_E} (h : ∀ i, i < k → w i = w' i) (kk : AtC X p l e R s m args below meth c A0 H0 Z cells slots pc L st k w') : AtC X p l e R s m args below meth c A0 H0 Z cells slots pc L st k w := fun H locs ls hz hP hS hL => kk H locs ls hz (by rw [← pE_cong h]; exact hP) hS hL
theorem c_aload_n (F : FB X M R p s m args c A0) {q : Fin 4} {x : Nat} (i : Nat) (hd : decode M.2.1 pc = .ok (.aload_n q, 1)) (hi : (q : Nat) = i) (hx : L[i]? = some (some (.ref x))) (kk : AtC X p l e R s m args below meth c A0 H0 Z cells slots (pc + 1) L (.ref x :: st) k w) : AtC X p l e R s m args below meth c A0 H0 Z cells slots pc L st k w := fun H locs ls hz hP hS hL => lv_aload_n F.1 F.2.1 hd hi (hL.2.2 i _ hx) (kk H locs ls hz hP hS hL)
theorem c_iload_n (F : FB X M R p s m args c A0) {q : Fin 4} {x : Int32} (i : Nat) (hd : decode M.2.1 pc = .ok (.iload_n q, 1)) (hi : (q : Nat) = i) (hx : L[i]? = some (some (.int x))) (kk : AtC X p l e R s m args below meth c A0 H0 Z cells slots (pc + 1) L (.int x :: st) k w) : AtC X p l e R s m args below meth c A0 H0 Z cells slots pc L st k w := fun H locs ls hz hP hS hL => lv_iload_n F.1 F.2.1 hd hi (hL.2.2 i _ hx) (kk H locs ls hz hP hS hL)
theorem c_istore_n (F : FB X M R p s m args c A0) {q : Fin 4} {x : Int32} (i : Nat) {L' : List (Option Value)} (hd : decode M.2.1 pc = .ok (.istore_n q, 1)) (hi : (q : Nat) = i) (hn : i < L.length) (he : st1 L i (.int x) = L') (kk : AtC X p l e R s m args below meth c A0 H0 Z cells slots (pc + 1) L' st k w) : AtC X p l e R s m args below meth c A0 H0 Z cells slots pc L (.int x :: st) k w := fun H locs ls hz hP hS hL => by
  subst he
  exact lv_istore_n F.1 F.2.1 hd hi hL.has hn rfl (fun ls' h' => kk H locs ls' hz hP hS (lvH_st1 (v := .int x) h'))
theorem c_iinc (F : FB X M R p s m args c A0) {x v : Int32} {n : Int} (i : Nat) {L' : List (Option Value)} (hd : decode M.2.1 pc = .ok (.iinc i n, 3)) (hx : L[i]? = some (some (.int x))) (hv : x + Int32.ofInt n = v) (hn : i < L.length) (he : st1 L i (.int v) = L') (kk : AtC X p l e R s m args below meth c A0 H0 Z cells slots (pc + 3) L' st k w) : AtC X p l e R s m args below meth c A0 H0 Z cells slots pc L st k w := fun H locs ls hz hP hS hL => by
  subst he
  obtain ⟨q, hq⟩ := List.getElem?_of_mem (lvA_mem (X := X) hx)
  exact lv_iinc F.1 F.2.1 hd hL.has hq hv hn rfl (fun ls' h' => kk H locs ls' hz hP hS (lvH_st1 (v := .int v) h'))
theorem c_goto (F : FB X M R p s m args c A0) {off : Int} (tgt : Nat) (hd : decode M.2.1 pc = .ok (.goto off, 3)) (ht : (pc : Int) + off = (tgt : Int)) (kk : AtC X p l e R s m args below meth c A0 H0 Z cells slots tgt L st k w) : AtC X p l e R s m args below meth c A0 H0 Z cells slots pc L st k w := fun H locs ls hz hP hS hL => lv_goto F.1 F.2.1 hd ht (kk H locs ls hz hP hS hL)
theorem c_iconst (F : FB X M R p s m args c A0) {n : Int} {v : Int32} (hd : decode M.2.1 pc = .ok (.iconst n, 1)) (hv : Int32.ofInt n = v) (kk : AtC X p l e R s m args below meth c A0 H0 Z cells slots (pc + 1) L (.int v :: st) k w) : AtC X p l e R s m args below meth c A0 H0 Z cells slots pc L st k w := fun H locs ls hz hP hS hL => lv_iconst F.1 F.2.1 hd hv (kk H locs ls hz hP hS hL)
theorem c_bipush (F : FB X M R p s m args c A0) {n : Int} {v : Int32} (hd : decode M.2.1 pc = .ok (.bipush n, 2)) (hv : (Int8.ofInt n).toInt32 = v) (kk : AtC X p l e R s m args below meth c A0 H0 Z cells slots (pc + 2) L (.int v :: st) k w) : AtC X p l e R s m args below meth c A0 H0 Z cells slots pc L st k w := fun H locs ls hz hP hS hL => lv_bipush F.1 F.2.1 hd hv (kk H locs ls hz hP hS hL)
theorem c_sipush (F : FB X M R p s m args c A0) {n : Int} {v : Int32} (hd : decode M.2.1 pc = .ok (.sipush n, 3)) (hv : (Int16.ofInt n).toInt32 = v) (kk : AtC X p l e R s m args below meth c A0 H0 Z cells slots (pc + 3) L (.int v :: st) k w) : AtC X p l e R s m args below meth c A0 H0 Z cells slots pc L st k w := fun H locs ls hz hP hS hL => lv_sipush F.1 F.2.1 hd hv (kk H locs ls hz hP hS hL)
theorem c_ldc (F : FB X M R p s m args c A0) {i : Nat} {v : Int32} (hc : Cond.constant M.1 i v ∈ GW) (hd : decode M.2.1 pc = .ok (.ldc i, 2)) (kk : AtC X p l e R s m args below meth c A0 H0 Z cells slots (pc + 2) L (.int v :: st) k w) : AtC X p l e R s m args below meth c A0 H0 Z cells slots pc L st k w := fun H locs ls hz hP hS hL => lv_ldc F.1 F.2.1 F.2.2.2.1 (F.2.2.2.2.1 _ hc) hd (kk H locs ls hz hP hS hL)
theorem c_icmp_ge (F : FB X M R p s m args c A0) {x y : Int32} {off : Int} (tgt : Nat) (hd : decode M.2.1 pc = .ok (.if_icmp .ge off, 3)) (ht : (pc : Int) + off = (tgt : Int)) (k1 : y ≤ x → AtC X p l e R s m args below meth c A0 H0 Z cells slots tgt L st k w) (k2 : ¬ y ≤ x → AtC X p l e R s m args below meth c A0 H0 Z cells slots (pc + 3) L st k w) : AtC X p l e R s m args below meth c A0 H0 Z cells slots pc L (.int y :: .int x :: st) k w := fun H locs ls hz hP hS hL => lv_icmp_ge F.1 F.2.1 hd ht (fun q => k1 q H locs ls hz hP hS hL) (fun q => k2 q H locs ls hz hP hS hL)
theorem c_objInit (F : FB X M R p s m args c A0) {i x : Nat} (hl : Cond.methodLink M.1 i Lib.objectInit ∈ GW) (hn : Cond.instanceMethod Lib.objectInit ∈ GW) (hc : Cond.code Lib.objectInit ⟨#[0xb1]⟩ 1 none ∈ GW) (hL : L.length = M.2.2.1) (hf : 1 ≤ R.frames) (ho : 12 ≤ R.locals) (hd : decode M.2.1 pc = .ok (.invokespecial i, 3)) (kk : AtC X p l e R s m args below meth c A0 H0 Z cells slots (pc + 3) L [] k w) : AtC X p l e R s m args below meth c A0 H0 Z cells slots pc L [.ref x] k w := fun H locs ls hz hP hS hl' =>
  W.objInit F.1 F.2.1 F.2.2.2.1 (F.2.2.2.2.1 _ hl) (F.2.2.2.2.1 _ hn) (F.2.2.2.2.1 _ hc) rfl (by rw [F.2.2.1, ← hL]; exact hl'.1) rfl hd hf (by show 2 * 0 + 0 + 12 ≤ R.locals; omega) (kk H locs ls hz hP hS hl')
theorem c_newa (F : FB X M R p s m args c A0) {at1 : ArrayType} {ty : FieldType} {j n : Nat} {v : Int32} {a0 : vp_A} (hk : k < NC) (hty : newarray.typeOf at1 = ty) (hj : (tys X)[j]? = some (X.2.2 j, ty)) (hno : ∀ C, ty ≠ .object C) (harr : Cond.arrayClass ty ∈ GW) (hw : w k = .inl (X.2.2 j, a0)) (ha : ∀ cA : ClassId, vp_cell cA a0 = arrV cA n (fun _ => defaultValue ty)) (hn : ¬ v < 0) (hN : v.toNatClampNeg = n) (hb : n * componentBytes ty ≤ 536870912) (hcells : cells + 1 ≤ R.cells) (hslots : slots + n ≤ R.slots) (hd : decode M.2.1 pc = .ok (.newarray at1, 2)) (kk : AtC X p l e R s m args below meth c A0 H0 Z (cells + 1) (slots + n) (pc + 2) L (.ref k :: st) (k + 1) w) : AtC X p l e R s m args below meth c A0 H0 Z cells slots pc L (.int v :: st) k w := by
  subst hty
  intro H locs ls hz hP hS hL
  refine va_newaK (g := F0 m pc ls ((Value.int v :: st).map (cv X))) F.1 F.2.1 (F.2.2.2.2.1 _ harr) rfl hd rfl hn hN hb hcells hslots hz fun H1 cA e1 z1 o1 hAr hNm => ?_
  have hk' : ∀ (i : Nat) (q : Nat × va_E), (pE X w k)[i]? = some q → H1[q.1]? = H[q.1]? := fun i q hq => o1 q.1 (by have := (hP i q hq).lt; rw [hz] at this; exact this)
  have eC : cA = X.2.2 j := by
    have h2 := (F.2.2.2.2.2.1.1.1.2 j _ hj).2
    have h3 : s.vm.findClass ("[" ++ (newarray.typeOf at1).toString) = some (X.2.2 j) := by
      revert h2
      show va_RA s (X.2.2 j) (newarray.typeOf at1) → _
      cases hh : newarray.typeOf at1 with
      | object C => exact absurd hh (hno C)
      | _ => exact fun h => h
    exact Option.some.inj (hNm.symm.trans h3)
  refine kk H1 locs ls (by rw [z1, F.2.2.2.2.2.2.2.s hk]) (pE_push (hP.kept hk') ?_) ⟨by have := hS.1; omega, fun x h1 h2 => (o1 x (by have := hS.1; omega)).trans (hS.2.1 x h1 h2), hS.2.2⟩ hL
  rw [hw]
  show H1[X.2.1 k]? = some (vp_cell (X.2.2 j) a0)
  rw [ha, e1, eC]
theorem c_anew (F : FB X M R p s m args c A0) {C : String} {i j n : Nat} {v : Int32} (hk : k < NC) (hj : (tys X)[j]? = some (X.2.2 j, .object C)) (hao : va_AO C s) (hcl : Cond.classLink M.1 i C ∈ GW) (hw : w k = .inl (X.2.2 j, n, .inr (.inr (.inr (.inr (fun _ => none)))))) (hn : ¬ v < 0) (hN : v.toNatClampNeg = n) (hb : n * 4 ≤ 536870912) (hcells : cells + 1 ≤ R.cells) (hslots : slots + n ≤ R.slots) (hd : decode M.2.1 pc = .ok (.anewarray i, 3)) (kk : AtC X p l e R s m args below meth c A0 H0 Z (cells + 1) (slots + n) (pc + 3) L (.ref k :: st) (k + 1) w) : AtC X p l e R s m args below meth c A0 H0 Z cells slots pc L (.int v :: st) k w := by
  subst hN
  intro H locs ls hz hP hS hL
  refine W.anew (g := F0 m pc ls ((Value.int v :: st).map (cv X))) F.1 F.2.1 F.2.2.2.1 (F.2.2.2.2.1 _ hcl) (va_AO.use hao) rfl hd rfl hn hb hcells hslots fun cA kA comp f1 f2 f3 f4 => ?_
  generalize hH1 : H.push ({ cls := cA, slots := Array.replicate v.toNatClampNeg .null, vm := .none } : Cell) = H1
  have z1 : H1.size = H.size + 1 := by rw [← hH1, Array.size_push]
  have e1 : H1[H.size]? = some (arrV cA v.toNatClampNeg (fun _ => .null)) := by rw [← hH1, Array.getElem?_push_size, ← arrV_new]
  have o1 : ∀ q : Nat, q < H.size → H1[q]? = H[q]? := fun q hq => by rw [← hH1, Array.getElem?_push, if_neg (Nat.ne_of_lt hq)]
  have hk' : ∀ (i : Nat) (q : Nat × va_E), (pE X w k)[i]? = some q → H1[q.1]? = H[q.1]? := fun i q hq => o1 q.1 (hP i q hq).lt
  have eC : cA = X.2.2 j := by
    obtain ⟨_, _, _, _, _, h2⟩ := (F.2.2.2.2.2.1.1.1.2 j _ hj).2
    exact Option.some.inj (f1.symm.trans h2)
  rw [hz] at e1 z1 ⊢
  refine kk H1 locs ls (by rw [z1, F.2.2.2.2.2.2.2.s hk]) (pE_push (hP.kept hk') ?_) ⟨by have := hS.1; omega, fun x h1 h2 => (o1 x (by have := hS.1; omega)).trans (hS.2.1 x h1 h2), hS.2.2⟩ hL
  rw [hw]
  show H1[X.2.1 k]? = some (vp_cell (X.2.2 j) _)
  rw [vp_cell_q, e1, eC]
  rfl
theorem c_putF (F : FB X M R p s m args c A0) {o cl f i : Nat} {fs : List Value} {v : Value} {ty1 : FieldType} (hf : FL M.1 i cl f) (hm : meth.name = "<init>") (ho : o < k) (hk : k ≤ NC) (hw : w o = .inr (cl, fs)) (hfin : ((cT cl).2.1 f).2.2.2 = true) (hdecl : ((cT cl).2.1 f).1 = M.1) (ht : parseFieldDescriptor ((cT cl).2.1 f).2.2.1 = some ty1) (hn : narrow ty1 (cv X v) = cv X v) (hfit : fits ty1 (cv X v) = true) (hl : f < fs.length) (hd : decode M.2.1 pc = .ok (.putfield i, 3)) (kk : AtC X p l e R s m args below meth c A0 H0 Z cells slots (pc + 3) L st k (uE w o (.inr (cl, fs.set f (cv X v))))) : AtC X p l e R s m args below meth c A0 H0 Z cells slots pc L (v :: .ref o :: st) k w := by
  intro H locs ls hz hP hS0 hL
  obtain ⟨⟨hin, hcl, hN, hc, ty, hty, hnm⟩, hkn, hlk⟩ := hf
  have hat : (pE X w k)[o]? = some (X.2.1 o, .inr (cl, fs)) := by rw [pE_at ho, hw]
  have hD : va_D A0 (pE X w k) := pE_D F.2.2.2.2.2.1.1.2.2 hk F.2.2.2.2.2.2.1
  have hts := F.2.2.2.2.1
  have hown := F.2.2.2.1
  have hK := F.2.2.2.2.2.1.1.1
  have hfN : f < (cT cl).2.2 := by rw [hN]; exact hkn
  have hap := va_apart (own := M.1) hts hin ty hty hnm hK hcl
  obtain ⟨r, h1, cell, q1, q2, q3, q4⟩ := hP o _ hat
  have hr : r = cT cl := Option.some.inj (h1.symm.trans hcl)
  subst hr
  obtain ⟨hS, hfc, kC, hkC, hkind⟩ := hK.1 cl _ hcl
  obtain ⟨cf, kf, fi, fd, hi, hsl⟩ := hS f hfN
  have hlay := hts _ (hin _ (u_in_lay hfN))
  unfold u_lay at hlay
  rw [if_pos hfin] at hlay
  have hst := (u_facts hfc hkC (u_lays hts hin hfN) hi).1
  have hcf : m.cls = cf := by
    obtain ⟨_, _, c', _, _, _, -, -, hf', -, -, -, hown2, -⟩ := Cond.laysFinal_spec hlay
    have e1 : c' = cf := by have := hi.symm.trans hf'; simp at this; exact this.1.symm
    rw [hdecl] at hown2
    rw [← e1]; exact Option.some.inj (hown.symm.trans hown2)
  have h6 := u_fits hfc hkC hkind (Or.inr hlay) hi ht hn hfit
  refine W.putFinK (g := F0 m pc ls ((v :: Value.ref o :: st).map (cv X))) F.1 F.2.1 hown (hts _ hlk) hi hst hcf hm (by rw [q2]; exact h6) q1 q3 (by rw [hsl]; exact k2_hasslot (q4 f hfN)) rfl rfl hd fun H1 e1 e2 e3 => ?_
  rw [hsl] at e1
  have hP1 := hP.set (e := .inr (cl, fs.set f (cv X v))) hD hat ⟨_, hcl, t_OB.to (V := updV (vp_V fs) f (cv X v)) ⟨_, e1, q2, q3, t_set q4 hap hfN (cv X v)⟩ (fun j _ => vp_updV_set hl (cv X v) j)⟩ e3
  rw [pE_set ho] at hP1
  exact kk H1 _ ls (e2.trans hz) hP1 (hS0.put e2 e3 (hD.2 o _ hat)) hL
theorem c_put (F : FB X M R p s m args c A0) {o cl f i : Nat} {fs : List Value} {v : Value} {ty1 : FieldType} (hf : FL M.1 i cl f) (ho : o < k) (hk : k ≤ NC) (hw : w o = .inr (cl, fs)) (hfin : ((cT cl).2.1 f).2.2.2 = false) (ht : parseFieldDescriptor ((cT cl).2.1 f).2.2.1 = some ty1) (hn : narrow ty1 (cv X v) = cv X v) (hfit : fits ty1 (cv X v) = true) (hl : f < fs.length) (hd : decode M.2.1 pc = .ok (.putfield i, 3)) (kk : AtC X p l e R s m args below meth c A0 H0 Z cells slots (pc + 3) L st k (uE w o (.inr (cl, fs.set f (cv X v))))) : AtC X p l e R s m args below meth c A0 H0 Z cells slots pc L (v :: .ref o :: st) k w := by
  intro H locs ls hz hP hS0 hL
  obtain ⟨⟨hin, hcl, hN, hc, ty, hty, hnm⟩, hkn, hlk⟩ := hf
  have hat : (pE X w k)[o]? = some (X.2.1 o, .inr (cl, fs)) := by rw [pE_at ho, hw]
  have hD : va_D A0 (pE X w k) := pE_D F.2.2.2.2.2.1.1.2.2 hk F.2.2.2.2.2.2.1
  have hts := F.2.2.2.2.1
  have hown := F.2.2.2.1
  have hK := F.2.2.2.2.2.1.1.1
  have hfN : f < (cT cl).2.2 := by rw [hN]; exact hkn
  have hap := va_apart (own := M.1) hts hin ty hty hnm hK hcl
  obtain ⟨r, h1, cell, q1, q2, q3, q4⟩ := hP o _ hat
  have hr : r = cT cl := Option.some.inj (h1.symm.trans hcl)
  subst hr
  obtain ⟨hS, hfc, kC, hkC, hkind⟩ := hK.1 cl _ hcl
  obtain ⟨cf, kf, fi, fd, hi, hsl⟩ := hS f hfN
  have hlay := hts _ (hin _ (u_in_lay hfN))
  unfold u_lay at hlay
  rw [if_neg (by rw [hfin]; decide)] at hlay
  have hst := (u_facts hfc hkC (u_lays hts hin hfN) hi).1
  have h6 := u_store hfc hkC hkind hlay hi ht hn hfit
  refine W.putK (g := F0 m pc ls ((v :: Value.ref o :: st).map (cv X))) F.1 F.2.1 (f := fd) ⟨hown, hts _ hlk, ⟨_, _, _, hi⟩, hst⟩ (by rw [q2]; exact h6) q1 q3 (by rw [hsl]; exact k2_hasslot (q4 f hfN)) rfl rfl hd fun H1 e1 e2 e3 => ?_
  rw [hsl] at e1
  have hP1 := hP.set (e := .inr (cl, fs.set f (cv X v))) hD hat ⟨_, hcl, t_OB.to (V := updV (vp_V fs) f (cv X v)) ⟨_, e1, q2, q3, t_set q4 hap hfN (cv X v)⟩ (fun j _ => vp_updV_set hl (cv X v) j)⟩ e3
  rw [pE_set ho] at hP1
  exact kk H1 _ ls (e2.trans hz) hP1 (hS0.put e2 e3 (hD.2 o _ hat)) hL
theorem c_getr (F : FB X M R p s m args c A0) {o cl f i x : Nat} {fs : List Value} (hf : FL M.1 i cl f) (ho : o < k) (hw : w o = .inr (cl, fs)) (hv : fs[f]? = some (.ref (X.2.1 x))) (hd : decode M.2.1 pc = .ok (.getfield i, 3)) (kk : AtC X p l e R s m args below meth c A0 H0 Z cells slots (pc + 3) L (.ref x :: st) k w) : AtC X p l e R s m args below meth c A0 H0 Z cells slots pc L (.ref o :: st) k w := by
  intro H locs ls hz hP hS hL
  obtain ⟨⟨hin, hcl, hN, hc, ty, hty, hnm⟩, hkn, hlk⟩ := hf
  have hat : (pE X w k)[o]? = some (X.2.1 o, .inr (cl, fs)) := by rw [pE_at ho, hw]
  exact va_get F.1 F.2.1 F.2.2.2.2.1 hin F.2.2.2.1 F.2.2.2.2.2.1.1.1 hP o hat hcl f (by rw [hN]; exact hkn) (F.2.2.2.2.1 _ hlk) (fun _ h => h) hv hd (kk H locs ls hz hP hS hL)
theorem c_alen (F : FB X M R p s m args c A0) {o j : Nat} {a0 : vp_A} {ty : FieldType} {v : Int32} (ho : o < k) (hw : w o = .inl (X.2.2 j, a0)) (hj : (tys X)[j]? = some (X.2.2 j, ty)) (hv : Int32.ofNat a0.1 = v) (hd : decode M.2.1 pc = .ok (.arraylength, 1)) (kk : AtC X p l e R s m args below meth c A0 H0 Z cells slots (pc + 1) L (.int v :: st) k w) : AtC X p l e R s m args below meth c A0 H0 Z cells slots pc L (.ref o :: st) k w := by
  intro H locs ls hz hP hS hL
  have hat : (pE X w k)[o]? = some (X.2.1 o, .inl (X.2.2 j, a0)) := by rw [pE_at ho, hw]
  exact va_alen F.1 F.2.1 F.2.2.2.2.2.1.1.1 hP o j hat hj hv hd (kk H locs ls hz hP hS hL)
theorem c_iast (F : FB X M R p s m args c A0) {o n : Nat} {f : Nat → Int32} {x v : Int32} (ho : o < k) (hk : k ≤ NC) (hw : w o = .inl (X.2.2 0, n, .inl f)) (hin : vp_in x n) (hd : decode M.2.1 pc = .ok (.iastore, 1)) (kk : AtC X p l e R s m args below meth c A0 H0 Z cells slots (pc + 1) L st k (uE w o (.inl (X.2.2 0, n, .inl (upd f x.toNatClampNeg v))))) : AtC X p l e R s m args below meth c A0 H0 Z cells slots pc L (.int v :: .int x :: .ref o :: st) k w := by
  intro H locs ls hz hP hS hL
  have hat : (pE X w k)[o]? = some (X.2.1 o, .inl (X.2.2 0, n, .inl f)) := by rw [pE_at ho, hw]
  have hD : va_D A0 (pE X w k) := pE_D F.2.2.2.2.2.1.1.2.2 hk F.2.2.2.2.2.2.1
  refine W.iast (g := F0 m pc ls ((Value.int v :: Value.int x :: Value.ref o :: st).map (cv X))) F.1 F.2.1 (hP o _ hat) ((F.2.2.2.2.2.1.1.1.2 0 _ rfl).1 n (fun j => .int (f j))) (fun q => by cases q) (by show ¬ (x < 0 ∨ (arrV _ _ _).slots.size ≤ _); rw [arrV_size]; exact hin) rfl rfl hd fun H1 e1 z oq => ?_
  have hP1 := hP.set (e := .inl (X.2.2 0, n, .inl (upd f x.toNatClampNeg v))) hD hat (by
    show H1[X.2.1 o]? = some (vp_cell _ _)
    rw [e1, vp_cell_i, vp_cell_i, arrV_store]
    congr 2
    funext q
    by_cases hq : q = x.toNatClampNeg
    · subst hq
      simp [updV, upd]
    · simp [updV, upd, hq]) oq
  rw [pE_set ho] at hP1
  exact kk H1 _ ls (z.trans hz) hP1 (hS.put z oq (hD.2 o _ hat)) hL
theorem c_astq (F : FB X M R p s m args c A0) {o j n y ci : Nat} {f : Nat → Option Nat} {vs : List Value} {x : Int32} (ho : o < k) (hy : y < k) (hk : k ≤ NC) (hw : w o = .inl (X.2.2 j, n, .inr (.inr (.inr (.inr f))))) (hj : (tys X)[j]? = some (X.2.2 j, .object (cT ci).1)) (hwy : w y = .inr (ci, vs)) (hci : cls[ci]? = some (cT ci)) (hin : vp_in x n) (hd : decode M.2.1 pc = .ok (.aastore, 1)) (kk : AtC X p l e R s m args below meth c A0 H0 Z cells slots (pc + 1) L st k (uE w o (.inl (X.2.2 j, n, .inr (.inr (.inr (.inr (va_up f x.toNatClampNeg (some (X.2.1 y))))))))))  : AtC X p l e R s m args below meth c A0 H0 Z cells slots pc L (.ref y :: .int x :: .ref o :: st) k w := by
  intro H locs ls hz hP hS hL
  have hat : (pE X w k)[o]? = some (X.2.1 o, .inl (X.2.2 j, n, .inr (.inr (.inr (.inr f))))) := by rw [pE_at ho, hw]
  have hay : (pE X w k)[y]? = some (X.2.1 y, .inr (ci, vs)) := by rw [pE_at hy, hwy]
  have hD : va_D A0 (pE X w k) := pE_D F.2.2.2.2.2.1.1.2.2 hk F.2.2.2.2.2.2.1
  have hK := F.2.2.2.2.2.1.1.1
  have hlt : x.toNatClampNeg < n := Nat.not_le.mp fun q => hin (Or.inr q)
  have h0 : ¬ x < 0 := fun q => hin (Or.inl q)
  obtain ⟨r', hr', cellV, g1, g2, g3, -⟩ := hP y _ hay
  have hcls := (hK.1 ci _ hci).2
  obtain ⟨kA, comp, k1, k2, k3, -⟩ := (hK.2 j _ hj).2
  have hcomp : comp = X.1.1 ci := Option.some.inj (k3.symm.trans hcls.1)
  subst hcomp
  obtain ⟨kC, hkC, -⟩ := hcls.2
  refine W.aast (g := F0 m pc ls ((Value.ref y :: Value.int x :: Value.ref o :: st).map (cv X))) F.1 F.2.1 (hP o _ hat) (fun q h => by cases h) (fun h => by cases h) k1 k2 rfl hkC ⟨h0, by show _ < (arrV _ _ _).slots.size; rw [arrV_size]; exact hlt⟩ g1 (fun q h => by rw [g3] at h; cases h) (by rw [g2]; exact hkC) (by rw [g2]; exact va_assign hcls) rfl rfl hd fun H1 e1 z oq => ?_
  have hP1 := hP.set (e := .inl (X.2.2 j, n, .inr (.inr (.inr (.inr (va_up f x.toNatClampNeg (some (X.2.1 y)))))))) hD hat (by
    show H1[X.2.1 o]? = some (vp_cell _ _)
    rw [e1, vp_cell_q, vp_cell_q, arrV_store]
    congr 2
    funext q
    by_cases hq : q = x.toNatClampNeg
    · subst hq
      simp [updV, va_up, va_rf]
    · simp [updV, va_up, hq]) oq
  rw [pE_set ho] at hP1
  exact kk H1 _ ls (z.trans hz) hP1 (hS.put z oq (hD.2 o _ hat)) hL
/-! a constructor's contract -/
def vD (X : Cx) (w : Nat → va_E) (o : Nat) : Nat → va_E := fun i => if i < o then w i else hE X s0 i
def vO (X : Cx) (w : Nat → va_E) (o cl : Nat) (fs : List Value) : Nat → va_E := fun i => if i < o then w i else if i = o then .inr (cl, fs) else hE X s0 i
theorem vO_u {o cl : Nat} {fs fs' : List Value} : uE (vO X w o cl fs) o (.inr (cl, fs')) = vO X w o cl fs' := by
  funext i
  unfold uE vO
  by_cases h : i = o
  · subst h; rw [if_pos rfl, if_neg (Nat.lt_irrefl _), if_pos rfl]
  · rw [if_neg h, if_neg h, if_neg h]
theorem vO_at {o cl : Nat} {fs : List Value} : vO X w o cl fs o = .inr (cl, fs) := by unfold vO; rw [if_neg (Nat.lt_irrefl _), if_pos rfl]
theorem vO_hi {o cl i : Nat} {fs : List Value} (h : o < i) : vO X w o cl fs i = hE X s0 i := by unfold vO; rw [if_neg (by omega), if_neg (by omega)]
def rmC (d mc ms : Nat) : Room := { frames := d, cells := mc, slots := ms, locals := 64 * d }
def kB (X : Cx) (w : Nat → va_E) (k : Nat) (U : State) : Prop := U.heap.size = X.2.1 k ∧ va_P X.1 cls (pE X w k) U.heap ∧ CY X U
def kQ (X : Cx) (w : Nat → va_E) (k : Nat) : Array Value → State → Outcome → State → Prop := fun _ st oc t => oc = .returned none ∧ t.heap.size = X.2.1 k ∧ va_P X.1 cls (pE X w k) t.heap ∧ va_F (AX X) st t
def Kt (y : MethodName) (M : Mt) (d mc ms o k' cl : Nat) (fs : List Value) : Prop := ∀ (l : Launch) (X : Cx), aX X → ∀ w : Nat → va_E, Met l y (Cond.code y M.2.1 M.2.2.1 M.2.2.2 :: GW) (rmC d mc ms) (va_Pc [.ref (X.2.1 o)] (kB X (vO X w o cl fs) (o + 1))) (kQ X (vD X w o) k') mc ms (AX X)
theorem Kt.of {y : MethodName} {d mc ms o k' cl : Nat} {fs : List Value} (hy : yOk y M 0) (hnm : y.name = "<init>") (hr0 : M.2.2.2 = none) (h1 : 1 ≤ M.2.2.1) (body : ∀ (X : Cx) (w : Nat → va_E) (p : Program) (l : Launch) (e : Env) (s : State) (m : MethodId) (args : Array Value) (below : List Frame) (meth : Method) (c : Code) (H0 : Heap) (Z : State → Prop), FB X M (rmC d mc ms) p s m args c (AX X) → meth.name = "<init>" → (∀ (pc : Nat) (L : List (Option Value)) (w' : Nat → va_E), decode M.2.1 pc = .ok (.return_, 1) → (∀ i, i < k' → w' i = vD X w o i) → AtC X p l e (rmC d mc ms) s m args below meth c (AX X) H0 Z mc ms pc L [] k' w') → AtC X p l e (rmC d mc ms) s m args below meth c (AX X) H0 Z 0 0 0 (Le [.ref o] M.2.2.1) [] (o + 1) (vO X w o cl fs)) : Kt y M d mc ms o k' cl fs := by
  intro l X ha w
  refine Met.ofW (cc := M.2.1) (maxL := M.2.2.1) (ret := M.2.2.2) hy.2.1 rfl ?_
  intro p e s m args below meth c s₁ B hml hv
  obtain ⟨rfl, hz, hP, hC⟩ := hv
  have hts := atoms_spec (ws := Cond.code y M.2.1 M.2.2.1 M.2.2.2 :: GW) B.pre
  have hown : s.vm.findClass M.1 = some m.cls := by rw [hy.2.2.1]; exact findClass_of_methodNamed B.named
  have hr := B.returns
  have hx := B.exec
  have hb := B.bytes
  have hin : meth.name = "<init>" := (name_of_methodNamed B.named B.method).1.trans hnm
  have hL : (eL [Value.ref o]).length ≤ M.2.2.1 := h1
  have F : FB X M (rmC d mc ms) p s m ([Value.ref o].map (cv X)).toArray c (AX X) := ⟨hx, hb, hml, hown, fun w hw => hts w (List.mem_cons_of_mem _ hw), hC, fun i hi => ⟨i, hi, rfl⟩, ha⟩
  have key := body X w p l e s m ([Value.ref o].map (cv X)).toArray below meth c s.heap (MQ below (kQ X (vD X w o) k') ([Value.ref o].map (cv X)).toArray s mc ms (AX X)) F hin (fun pc L w' hd he H locs ls hz' hP' hS' hL' => by
    have hQt : ∀ t : State, t.heap = H → s.WarmedH t.vm → kQ X (vD X w o) k' ([Value.ref o].map (cv X)).toArray s (.returned none) t := fun t ht _ => ⟨rfl, by rw [ht]; exact hz', by rw [ht, ← pE_cong he]; exact hP', hS'.F ht⟩
    exact W.vret hx hb (hr.trans hr0) hQt hS'.2.2 hd)
  show W p l e _ s m ([Value.ref o].map (cv X)).toArray below meth c s.heap [] 0 0 _ (entryFrame m ([Value.ref o].map (cv X)).toArray M.2.2.1)
  rw [lg_entry_eq]
  exact key s.heap [] _ hz hP va_S.rf (Le_H X [Value.ref o] hL)
end BUILD

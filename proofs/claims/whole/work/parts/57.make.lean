/-! THE WORLD IS MADE: objects -/
section MAKE
variable {X : Cx} {p : Program} {l : Launch} {e : Env} {R : Room} {s : State} {m : MethodId} {args : Array Value} {below : List Frame} {meth : Method} {c : Code} {A0 : Nat → Prop} {H0 : Heap} {Z : State → Prop} {cells slots pc : Nat} {L : List (Option Value)} {st : List Value} {k : Nat} {w : Nat → va_E} {M : Mt}
theorem c_new (F : FB X M R p s m args c A0) {cl i N : Nat} {fs : List Value} (ty : Nat → FieldType) (hlay : LayOk cl) (hN : (cT cl).2.2 = N) (hty : ∀ j, j < N → parseFieldDescriptor ((cT cl).2.1 j).2.2.1 = some (ty j)) (hcl : Cond.classLink M.1 i (cT cl).1 ∈ GW) (hins : Cond.instantiable (cT cl).1 N ∈ GW) (hini : Cond.initialized (cT cl).1 ∈ GW) (hk : k < NC) (hw : w k = .inr (cl, fs)) (hfs : ∀ j, j < N → defaultValue (ty j) = vp_V fs j) (hcells : cells + 1 ≤ R.cells) (hslots : slots + N ≤ R.slots) (hd : decode M.2.1 pc = .ok (.new i, 3)) (kk : AtC X p l e R s m args below meth c A0 H0 Z (cells + 1) (slots + N) (pc + 3) L (.ref k :: st) (k + 1) w) : AtC X p l e R s m args below meth c A0 H0 Z cells slots pc L st k w := by
  subst hN
  intro H locs ls hz hP hS hL
  have hKn := F.2.2.2.2.2.1.1.1.1 cl _ hlay.2.1
  refine W.newcK (g := F0 m pc ls (st.map (cv X))) F.1 F.2.1 F.2.2.2.1 (F.2.2.2.2.1 _ hcl) (F.2.2.2.2.1 _ hins) (F.2.2.2.2.1 _ hini) rfl hd hcells hslots hKn.2.1 hz fun H1 kC hkC e1 z1 o1 => ?_
  have hk' : ∀ (i : Nat) (q : Nat × va_E), (pE X w k)[i]? = some q → H1[q.1]? = H[q.1]? := fun i q hq => o1 q.1 (by have := (hP i q hq).lt; rw [hz] at this; exact this)
  refine kk H1 locs ls (by rw [z1, F.2.2.2.2.2.2.2.s hk]) (pE_push (hP.kept hk') ?_) ⟨by have := hS.1; omega, fun x h1 h2 => (o1 x (by have := hS.1; omega)).trans (hS.2.1 x h1 h2), hS.2.2⟩ hL
  rw [hw]
  exact ⟨_, hlay.2.1, (u_born ty F.2.2.2.2.1 hlay.1 hKn hkC e1 hty).to hfs⟩
theorem c_dup (F : FB X M R p s m args c A0) {v : Value} (hd : decode M.2.1 pc = .ok (.dup, 1)) (hc : v.category = 1) (kk : AtC X p l e R s m args below meth c A0 H0 Z cells slots (pc + 1) L (v :: v :: st) k w) : AtC X p l e R s m args below meth c A0 H0 Z cells slots pc L (v :: st) k w := fun H locs ls hz hP hS hL => lv_dup F.1 F.2.1 hd (by rw [cv_cat]; exact hc) (kk H locs ls hz hP hS hL)
theorem kB_blind {a : Nat} : FrameBlind (va_Pc [.ref a] (kB X w k)) := fun a U g mk q => by
  obtain ⟨q0, qz, qP, qC⟩ := q
  exact ⟨q0, qz, qP, CY.same (s := U) (U := U.calling g mk a) rfl qC⟩
/-- the link of a constructor -/
def Li (own : String) (i : Nat) (y : MethodName) : Prop := Cond.methodLink own i y ∈ GW ∨ ∃ host, Cond.methodLinkNest own i y host ∈ nestW
def MI (y : MethodName) (M : Mt) : Prop := yOk y M 0 ∧ y.name = "<init>" ∧ Cond.initialized y.cls ∈ GW ∧ Cond.code y M.2.1 M.2.2.1 M.2.2.2 ∈ GW ∧ Cond.instanceMethod y ∈ GW
theorem c_init (F : FB X M R p s m args c A0) {y : MethodName} {cn : String} {by1 : ByteArray} {mL dc mc ms o k' cl i : Nat} {fs : List Value} (K : Kt y (cn, by1, mL, none) dc mc ms o k' cl fs) (hm : MI y (cn, by1, mL, none)) (hl : Li M.1 i y) (hko : k = o + 1) (hw : w o = .inr (cl, fs)) (hL : L.length = M.2.2.1) (hs : (st.map fun v => v.category).sum ≤ 8) (hf : dc + 1 ≤ R.frames) (ho : 64 * (dc + 1) ≤ R.locals) (hcells : cells + mc ≤ R.cells) (hslots : slots + ms ≤ R.slots) (hd : decode M.2.1 pc = .ok (.invokespecial i, 3)) (kk : AtC X p l e R s m args below meth c A0 H0 Z (cells + mc) (slots + ms) (pc + 3) L st k' (vD X w o)) : AtC X p l e R s m args below meth c A0 H0 Z cells slots pc L (.ref o :: st) k w := by
  subst hko
  intro H locs ls hz hP hS hL'
  have hM := K l X F.2.2.2.2.2.2.2 w
  obtain ⟨hy, hnm, hini, hcd, hin⟩ := hm
  have hgw := F.2.2.2.2.1
  have hroom : (rmC dc mc ms).frames + 1 ≤ R.frames ∧ 8 + (mL + 11) + (rmC dc mc ms).locals ≤ R.locals := ⟨hf, by have : mL ≤ 40 := hy.2.2.2; show 8 + (mL + 11) + 64 * dc ≤ R.locals; omega⟩
  have ew : pE X (vO X w o cl fs) (o + 1) = pE X w (o + 1) := pE_cong (fun i hi => by
    unfold vO
    by_cases h : i < o
    · rw [if_pos h]
    · rw [if_neg h, if_pos (by omega), show i = o by omega, hw])
  have hpre : PreS s H (va_Pc [.ref (X.2.1 o)] (kB X (vO X w o cl fs) (o + 1))) (Value.ref (X.2.1 o) :: []) := ⟨kB_blind, fun U hU hW => ⟨rfl, by rw [hU]; exact hz, by rw [hU, ew]; exact hP, CY.warm hW F.2.2.2.2.2.1⟩⟩
  have hsum : 2 * 0 + ((st.map (cv X)).map fun v => v.category).sum ≤ 8 := by rw [List.map_map]; simpa [Function.comp_def, cv_cat] using hs
  have hrun : va_Run p l e R s m args below meth c H locs cells slots mc ms (F0 m pc ls ((Value.ref o :: st).map (cv X))) (st.map (cv X)) (kQ X (vD X w o) k' (Value.ref (X.2.1 o) :: []).toArray) (AX X) := by
    rcases hl with hl | ⟨host, hl⟩
    · exact va_runI (cc := M.2.1) (nL := M.2.2.1) (own := M.1) ⟨F.1, F.2.1, F.2.2.1, F.2.2.2.1, hgw⟩ hM ⟨callB_of (ws' := GW) 0 hgw (gw_code (Mc := (cn, by1, mL, none)) hcd) rfl rfl rfl (hgw _ hini) (hgw _ hl) hy.1 hroom, hnm, hgw _ hin⟩ hpre rfl rfl (hL'.1.trans hL) rfl hsum hd ⟨hcells, hslots⟩
    · exact va_runIN (cc := M.2.1) (nL := M.2.2.1) (own := M.1) (host := host) ⟨F.1, F.2.1, F.2.2.1, F.2.2.2.1, hgw⟩ hM ⟨va_cnB (ws' := GW) 0 hgw (gw_code (Mc := (cn, by1, mL, none)) hcd) rfl rfl rfl (F.2.2.2.2.2.1.1.2.1 _ hl) (hgw _ hini) hy.1 hroom, hnm, hgw _ hin⟩ hpre rfl rfl (hL'.1.trans hL) rfl hsum hd ⟨hcells, hslots⟩
  intro T hT X0
  obtain ⟨v, st₀, t, T', L2, h0, X', hL2, e1, e2, ⟨hv, hsz, hp, hF1, hF2⟩, stp⟩ := hrun T hT X0
  cases hv
  rw [h0] at hF1 hF2
  have hAX : ∀ q, AX X q → A0 q := fun q ⟨i, hi, hq⟩ => hq ▸ F.2.2.2.2.2.2.1 i hi
  obtain ⟨t2, a1, b1⟩ := kk T'.heap (locs ++ L2) ls (by rw [e1]; exact hsz) (by rw [e1]; exact hp)
    ⟨Nat.le_trans hS.1 (by rw [e1]; exact hF1), fun q h1 h2 => by rw [e1, hF2 q (Nat.lt_of_lt_of_le h1 hS.1) (fun z => h2 (hAX q z))]; exact hS.2.1 q h1 h2, fun q hq => by
      rcases List.mem_append.mp hq with h | h
      · exact hS.2.2 q h
      · exact hAX _ (hL2 q h)⟩ hL' T' rfl X'
  exact ⟨t2, stp t2 a1, b1⟩
/-- new, dup, invokespecial -/
theorem c_make (F : FB X M R p s m args c A0) {y : MethodName} {cn : String} {by1 : ByteArray} {mL dc mc ms k' cl i j N : Nat} {fs : List Value} (K : Kt y (cn, by1, mL, none) dc mc ms k k' cl fs) (hm : MI y (cn, by1, mL, none)) (hl : Li M.1 j y) (ty : Nat → FieldType) (hlay : LayOk cl) (hN : (cT cl).2.2 = N) (hty : ∀ j, j < N → parseFieldDescriptor ((cT cl).2.1 j).2.2.1 = some (ty j)) (hcl : Cond.classLink M.1 i (cT cl).1 ∈ GW) (hins : Cond.instantiable (cT cl).1 N ∈ GW) (hini : Cond.initialized (cT cl).1 ∈ GW) (hk : k < NC) (hw : ∀ i, k ≤ i → i < k' → w i = hE X s0 i) (hfs : ∀ j, j < N → defaultValue (ty j) = vp_V fs j) (hL : L.length = M.2.2.1) (hs : (st.map fun v => v.category).sum ≤ 7) (hf : dc + 1 ≤ R.frames) (ho : 64 * (dc + 1) ≤ R.locals) (hcells : cells + 1 + mc ≤ R.cells) (hslots : slots + N + ms ≤ R.slots) (hd : decode M.2.1 pc = .ok (.new i, 3)) (hd2 : decode M.2.1 (pc + 3) = .ok (.dup, 1)) (hd3 : decode M.2.1 (pc + 4) = .ok (.invokespecial j, 3)) (kk : AtC X p l e R s m args below meth c A0 H0 Z (cells + 1 + mc) (slots + N + ms) (pc + 7) L (.ref k :: st) k' w) : AtC X p l e R s m args below meth c A0 H0 Z cells slots pc L st k w := by
  have ek : uE w k (.inr (cl, fs)) k = .inr (cl, fs) := if_pos rfl
  refine AtC.cg (w' := uE w k (.inr (cl, fs))) (fun i hi => (if_neg (by omega)).symm) ?_
  refine c_new F ty hlay hN hty hcl hins hini hk ek hfs (by omega) (by omega) hd ?_
  refine c_dup F hd2 rfl ?_
  have hs8 : (((Value.ref k :: st : List Value)).map fun v => v.category).sum ≤ 8 := by
    have : (Value.ref k).category = 1 := rfl
    rw [List.map_cons, List.sum_cons]; omega
  refine c_init F K hm hl rfl ek hL hs8 hf ho hcells hslots hd3 ?_
  refine AtC.cg (fun i hi => ?_) kk
  unfold vD uE
  by_cases h : i < k
  · rw [if_pos h, if_neg (by omega)]
  · rw [if_neg h, hw i (by omega) hi]
end MAKE

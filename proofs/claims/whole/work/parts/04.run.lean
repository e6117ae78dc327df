section RUNS
/-- the entry's locals -/
def eL : List Value → List (Option Value)
  | [] => []
  | v :: t => if v.category = 2 then some v :: none :: eL t else some v :: eL t
def Le (av : List Value) (n : Nat) : List (Option Value) := eL av ++ List.replicate (n - (eL av).length) none
theorem eL_len (X : Cx) (av : List Value) : (eL av).length = (lg_sl (av.map (cv X))).length := by
  induction av with
  | nil => rfl
  | cons v t ih =>
    have h : (lg_sl ((v :: t).map (cv X))).length = (if v.category = 2 then 2 else 1) + (lg_sl (t.map (cv X))).length := by
      by_cases hc : v.category = 2 <;> simp [lg_sl, cv_cat, hc] <;> omega
    rw [h, ← ih]
    by_cases hc : v.category = 2 <;> simp [eL, hc] <;> omega
theorem eL_at (X : Cx) : ∀ (av : List Value) (k i : Nat) (v : Value), (eL av)[i]? = some (some v) → (k + i, cv X v) ∈ lv_args k (av.map (cv X))
  | [], _, _, _, h => by simp [eL] at h
  | w :: t, k, i, v, h => by
    by_cases hc : w.category = 2
    · simp only [eL, hc, if_true] at h
      match i, h with
      | 0, h => simp at h; subst h; simp [lv_args]
      | 1, h => simp at h
      | i + 2, h =>
        have := eL_at X t (k + 2) i v (by simpa using h)
        simp only [List.map_cons, lv_args, cv_cat, hc, if_true]
        exact List.mem_cons_of_mem _ (by rw [show k + (i + 2) = k + 2 + i by omega]; exact this)
    · simp only [eL, hc, if_false] at h
      match i, h with
      | 0, h => simp at h; subst h; simp [lv_args]
      | i + 1, h =>
        have := eL_at X t (k + 1) i v (by simpa using h)
        simp only [List.map_cons, lv_args, cv_cat, hc, if_false]
        exact List.mem_cons_of_mem _ (by rw [show k + (i + 1) = k + 1 + i by omega]; exact this)
theorem Le_H (X : Cx) (av : List Value) {n : Nat} (h : (eL av).length ≤ n) : lvH X ((lg_sl (av.map (cv X)) ++ List.replicate (n - (lg_sl (av.map (cv X))).length) Slot.unset).toArray) (Le av n) := by
  have e := lv_entry (av.map (cv X)) (n := n) (by rw [← eL_len]; exact h)
  refine ⟨by rw [e.1]; simp [Le]; omega, e.2.1, fun i v hi => ?_⟩
  have hl : (eL av)[i]? = some (some v) := by
    unfold Le at hi
    rcases Nat.lt_or_ge i (eL av).length with q | q
    · rwa [List.getElem?_append_left q] at hi
    · rw [List.getElem?_append_right q] at hi
      simp [List.getElem?_replicate] at hi
  have := e.2.2 _ (eL_at X av 0 i v hl)
  simpa using this
/-- a return instruction that fits the method and the value -/
def rOk (M : Mt) (pc : Nat) (v : Option Value) : Prop := match v with
  | none => M.2.2.2 = none ∧ decode M.2.1 pc = .ok (.return_, 1)
  | some (.int x) => (M.2.2.2 = some .int ∨ (M.2.2.2 = some .boolean ∧ (x = 0 ∨ x = 1))) ∧ decode M.2.1 pc = .ok (.ireturn, 1)
  | some (.long _) => M.2.2.2 = some .long ∧ decode M.2.1 pc = .ok (.lreturn, 1)
  | some (.ref _) => (∃ C, M.2.2.2 = some (.object C)) ∧ decode M.2.1 pc = .ok (.areturn, 1)
  | some .null => (∃ C, M.2.2.2 = some (.object C)) ∧ decode M.2.1 pc = .ok (.areturn, 1)
  | _ => False
/-- from here the method comes to its end, with Q of its answer and of the world then -/
def Run (M : Mt) (d : Nat) (pc : Nat) (L : List (Option Value)) (st : List Value) (σ : St) (Q : Option Value → St → Prop) : Prop :=
  ∀ (X : Cx) (p : Program) (l : Launch) (e : Env) (R : Room) (s : State) (m : MethodId) (args : Array Value) (below : List Frame) (meth : Method) (c : Code) (A0 : Nat → Prop) (H0 : Heap) (cells slots : Nat) (Z : State → Prop), Fx X M d R p s m args c A0 cells slots →
    (∀ (v : Option Value) (σ' : St), Q v σ' → ∀ (pc' : Nat) (L' : List (Option Value)), rOk M pc' v → At X p l e R s m args below meth c A0 H0 cells slots Z pc' L' v.toList σ') →
    At X p l e R s m args below meth c A0 H0 cells slots Z pc L st σ
variable {M : Mt} {d pc pc' pc1 pc2 : Nat} {L L' : List (Option Value)} {st st' : List Value} {σ σ' : St} {Q : Option Value → St → Prop} {q q2 : Prop}
theorem Go.run (h : Go M d pc L st σ pc' L' st' σ') (k : Run M d pc' L' st' σ' Q) : Run M d pc L st σ Q :=
  fun X p l e R s m args below meth c A0 H0 cells slots Z F hq => h X p l e R s m args below meth c A0 H0 cells slots Z F (k X p l e R s m args below meth c A0 H0 cells slots Z F hq)
theorem Br.run (h : Br M d pc L st σ q q2 pc1 pc2 st') (k1 : q → Run M d pc1 L st' σ Q) (k2 : q2 → Run M d pc2 L st' σ Q) : Run M d pc L st σ Q :=
  fun X p l e R s m args below meth c A0 H0 cells slots Z F hq => h X p l e R s m args below meth c A0 H0 cells slots Z F (fun a => k1 a X p l e R s m args below meth c A0 H0 cells slots Z F hq) (fun a => k2 a X p l e R s m args below meth c A0 H0 cells slots Z F hq)
theorem Run.ret {v : Option Value} (h : Q v σ) (hd : rOk M pc v) (hs : v.toList = st) : Run M d pc L st σ Q := by
  subst hs
  exact fun X p l e R s m args below meth c A0 H0 cells slots Z F hq => hq v σ h pc L hd
theorem Run.eq (e1 : L = L') (e2 : st = st') (e3 : σ = σ') (k : Run M d pc L' st' σ' Q) : Run M d pc L st σ Q := by
  subst e1; subst e2; subst e3; exact k
theorem Run.mono {Q2 : Option Value → St → Prop} (k : Run M d pc L st σ Q) (h : ∀ v σ', Q v σ' → Q2 v σ') : Run M d pc L st σ Q2 :=
  fun X p l e R s m args below meth c A0 H0 cells slots Z F hq => k X p l e R s m args below meth c A0 H0 cells slots Z F (fun v σ' a => hq v σ' (h v σ' a))
def cB (X : Cx) (σ : St) (U : State) : Prop := va_P X.1 cls (ws X σ) U.heap ∧ CX X U
def cQ (X : Cx) (Q : Option Value → St → Prop) : Array Value → State → Outcome → State → Prop := fun _ st oc t => ∃ (v : Option Value) (σ' : St), oc = .returned (v.map (cv X)) ∧ Q v σ' ∧ va_P X.1 cls (ws X σ') t.heap ∧ va_F (AX X) st t
/-- a method's contract in the fixed world -/
def Ct (y : MethodName) (M : Mt) (d : Nat) (av : List Value) (σ : St) (Q : Option Value → St → Prop) : Prop :=
  ∀ (Q2 : Option Value → St → Prop), (∀ v σ', Q v σ' → (∃ pc, rOk M pc v) → Q2 v σ') → ∀ (l : Launch) (X : Cx), Met l y (Cond.code y M.2.1 M.2.2.1 M.2.2.2 :: GW) (rm d) (va_Pc (av.map (cv X)) (cB X σ)) (cQ X Q2) 0 0 (AX X)
theorem Ct.mono {y : MethodName} {av : List Value} {Q2 : Option Value → St → Prop} (h : Ct y M d av σ Q) (k : ∀ v σ', Q v σ' → Q2 v σ') : Ct y M d av σ Q2 := fun Q3 h3 => h Q3 (fun v σ' a t => h3 v σ' (k v σ' a) t)
theorem Ct.of {y : MethodName} {n : Nat} {av : List Value} (hy : yOk y M n) (hl : (eL av).length ≤ M.2.2.1) (h : Run M d 0 (Le av M.2.2.1) [] σ Q) : Ct y M d av σ Q := by
  intro Q2 hQ2 l X
  refine Met.ofW (cc := M.2.1) (maxL := M.2.2.1) (ret := M.2.2.2) hy.2.1 rfl ?_
  intro p e s m args below meth c s₁ B hml hv
  obtain ⟨rfl, hP, hC⟩ := hv
  have hts := atoms_spec (ws := Cond.code y M.2.1 M.2.2.1 M.2.2.2 :: GW) B.pre
  have hown : s.vm.findClass M.1 = some m.cls := by rw [hy.2.2.1]; exact findClass_of_methodNamed B.named
  have hr := B.returns
  have hlocks := B.notSynchronized
  have hx := B.exec
  have hb := B.bytes
  have F : Fx X M d (rm d) p s m (av.map (cv X)).toArray c (AX X) 0 0 := ⟨hx, hb, hml, hown, fun w hw => hts w (List.mem_cons_of_mem _ hw), hC, ⟨Nat.le_refl _, Nat.le_refl _, Nat.le_refl _, Nat.le_refl _⟩, fun i hi => ⟨i, hi, rfl⟩⟩
  rw [lg_entry_eq]
  refine h X p l e (rm d) s m _ below meth c (AX X) s.heap 0 0 _ F ?_ s.heap [] _ hP va_S.rf (Le_H X av hl)
  intro v σ' hq pc' L' hd H locs ls hP' hS hL'
  have hQt : ∀ t : State, t.heap = H → s.WarmedH t.vm → cQ X Q2 (av.map (cv X)).toArray s (.returned (v.map (cv X))) t := fun t ht _ => ⟨v, σ', rfl, hQ2 v σ' hq ⟨pc', hd⟩, by rw [ht]; exact hP', hS.F ht⟩
  match v, hd, hQt with
  | none, hd, hQt => exact W.vret hx hb (hr.trans hd.1) hQt hS.2.2 hd.2
  | some (.int x), hd, hQt =>
    rcases hd.1 with h1 | ⟨h1, h2⟩
    · exact W.iret hx hb (hr.trans h1) hQt hS.2.2 hd.2
    · exact W.zret hx hb (hr.trans h1) (by rcases h2 with rfl | rfl <;> rfl) hQt hS.2.2 hd.2
  | some (.long x), hd, hQt => exact W.lret hx hb (hr.trans hd.1) hQt hS.2.2 hd.2
  | some (.ref o), hd, hQt =>
    obtain ⟨⟨C, h1⟩, h2⟩ := hd
    exact W.aret hx hb (hr.trans h1) (Or.inl ⟨_, rfl⟩) (Or.inr ⟨_, rfl⟩) hQt hS.2.2 h2
  | some .null, hd, hQt =>
    obtain ⟨⟨C, h1⟩, h2⟩ := hd
    exact W.aret hx hb (hr.trans h1) (Or.inl ⟨_, rfl⟩) (Or.inl rfl) hQt hS.2.2 h2
/-- behind a call -/
theorem run_back {X : Cx} {p : Program} {l : Launch} {e : Env} {R : Room} {s : State} {m : MethodId} {args : Array Value} {below : List Frame} {meth : Method} {c : Code} {A0 : Nat → Prop} {H0 H : Heap} {cells slots : Nat} {Z : State → Prop} {ls : Array Slot} {st0 rest : List Value} {a : Array Value} {locs : List Loc} {Q1 : Option Value → St → Prop}
    (hr : va_Run p l e R s m args below meth c H locs cells slots 0 0 (F0 m pc ls st0) rest (cQ X Q1 a) (AX X)) (hS : va_S A0 H0 H locs) (hA : ∀ i, i < NC → A0 (X.2.1 i))
    (kk : ∀ (v : Option Value) (σ1 : St) (H1 : Heap) (locs1 : List Loc), Q1 v σ1 → va_P X.1 cls (ws X σ1) H1 → va_S A0 H0 H1 locs1 → W p l e R s m args below meth c H1 locs1 cells slots Z (F0 m (pc + 3) ls ((v.map (cv X)).toList ++ rest))) : W p l e R s m args below meth c H locs cells slots Z (F0 m pc ls st0) := by
  intro T hT X0
  obtain ⟨v, st₀, t, T', L, h0, X', hL, e1, e2, ⟨v1, σ1, hv, hq, hp, hz, hk⟩, st⟩ := hr T hT X0
  cases hv
  rw [h0] at hz hk
  have hAX : ∀ q, AX X q → A0 q := fun q ⟨i, hi, hq⟩ => hq ▸ hA i hi
  obtain ⟨t2, a1, b1⟩ := kk v1 σ1 T'.heap (locs ++ L) hq (by rw [e1]; exact hp)
    ⟨Nat.le_trans hS.1 (by rw [e1]; exact hz), fun q h1 h2 => by rw [e1, hk q (Nat.lt_of_lt_of_le h1 hS.1) (fun z => h2 (hAX q z))]; exact hS.2.1 q h1 h2, fun q hq => by
      rcases List.mem_append.mp hq with h | h
      · exact hS.2.2 q h
      · exact hAX _ (hL q h)⟩ T' rfl X'
  exact ⟨t2, st t2 a1, b1⟩
/-- a link of a method, plain or of a nest mate -/
def Lk (own : String) (i : Nat) (y : MethodName) : Prop := Cond.methodLink own i y ∈ GW ∨ ∃ host, Cond.methodLinkNest own i y host ∈ nestW
theorem gw_code {y : MethodName} {Mc : Mt} (h : Cond.code y Mc.2.1 Mc.2.2.1 Mc.2.2.2 ∈ GW) : GoodIn GW (Cond.code y Mc.2.1 Mc.2.2.1 Mc.2.2.2 :: GW) := fun w hw => by
  rcases List.mem_cons.mp hw with rfl | hw
  · exact gw_good _ h
  · exact gw_good _ hw
theorem cB_blind {X : Cx} {av : List Value} : FrameBlind (va_Pc (av.map (cv X)) (cB X σ)) := fun a U g mk q => by
  obtain ⟨q0, qP, qC⟩ := q
  exact ⟨q0, qP, CX.same (s := U) (U := U.calling g mk a) rfl qC⟩
theorem cB_pre {X : Cx} {av : List Value} {s : State} {H : Heap} (hC : CX X s) (hP : va_P X.1 cls (ws X σ) H) : ∀ U : State, U.heap = H → s.WarmedH U.vm → va_Pc (av.map (cv X)) (cB X σ) (av.map (cv X)).toArray U := fun U hU hW => ⟨rfl, by rw [hU]; exact hP, CX.warm hW hC⟩
theorem Run.callV {y : MethodName} {Mc : Mt} {n i b ci : Nat} {As : List Value} {q : vw_C} (hm : MV y Mc n) (hl : Lk M.1 i y) (hk : kd b = ci) (hci : ci < 100) (hq : cls[ci]? = some q) (hqn : q.1 = y.cls) (hn : As.length = n) (hst : As.reverse ++ .ref b :: st = st') (hML : L.length = M.2.2.1) (hs : (st.map fun v => v.category).sum ≤ 8)
    (hd : decode M.2.1 pc = .ok (.invokevirtual i, 3)) (hc : Ct y Mc d (.ref b :: As) σ (fun v σ1 => Run M (d + 1) (pc + 3) L (v.toList ++ st) σ1 Q)) : Run M (d + 1) pc L st' σ Q := by
  subst hst
  intro X p l e R s m args below meth c A0 H0 cells slots Z F hq' H locs ls hP hS hL
  have hM := hc _ (fun v σ' a _ => a) l X
  obtain ⟨hy, hini, hcd, hin, hse⟩ := hm
  have hgw := F.2.2.2.2.1
  have hR := F.2.2.2.2.2.2.1
  have hroom : (rm d).frames + 1 ≤ R.frames ∧ 8 + (Mc.2.2.1 + 11) + (rm d).locals ≤ R.locals := ⟨hR.1, by have := hy.2.2.2; show 8 + (Mc.2.2.1 + 11) + 64 * d ≤ R.locals; omega⟩
  have hpre : PreV s H y.cls (X.2.1 b) (va_Pc ((Value.ref b :: As).map (cv X)) (cB X σ)) (As.map (cv X)) := ⟨cB_blind, by rw [← hqn]; exact va_recv F.2.2.2.2.2.1.1 hP hq (by rw [ws_at X σ (kd_lt hk (by omega)), hE_obj X σ hk hci]), cB_pre F.2.2.2.2.2.1 hP⟩
  have hg : decode M.2.1 pc = .ok (.invokevirtual i, 3) := hd
  have hsum : 2 * 0 + ((st.map (cv X)).map fun v => v.category).sum ≤ 8 := by rw [List.map_map]; simpa [Function.comp_def, cv_cat] using hs
  have hfit : cells + 0 ≤ R.cells ∧ slots + 0 ≤ R.slots := ⟨hR.2.2.1, hR.2.2.2⟩
  have hstk : (As.reverse ++ Value.ref b :: st).map (cv X) = (As.map (cv X)).reverse ++ Value.ref (X.2.1 b) :: st.map (cv X) := by simp [cv]
  have hlen : (As.map (cv X)).length = n := by simpa using hn
  have hrun : va_Run p l e R s m args below meth c H locs cells slots 0 0 (F0 m pc ls ((As.reverse ++ Value.ref b :: st).map (cv X))) (st.map (cv X)) (cQ X (fun v σ1 => Run M (d + 1) (pc + 3) L (v.toList ++ st) σ1 Q) (Value.ref (X.2.1 b) :: As.map (cv X)).toArray) (AX X) := by
    rcases hl with hl | ⟨host, hl⟩
    · exact va_runV (cc := M.2.1) (nL := M.2.2.1) (own := M.1) (C := y.cls) ⟨F.1, F.2.1, F.2.2.1, F.2.2.2.1, hgw⟩ hM ⟨callB_of (ws' := GW) n hgw (gw_code hcd) rfl rfl rfl (hgw _ hini) (hgw _ hl) hy.1 hroom, hgw _ hin, hgw _ hse⟩ hpre rfl hlen (hL.1.trans hML) hstk hsum hg hfit
    · exact va_runVN (cc := M.2.1) (nL := M.2.2.1) (own := M.1) (C := y.cls) (host := host) ⟨F.1, F.2.1, F.2.2.1, F.2.2.2.1, hgw⟩ hM ⟨va_cnB (ws' := GW) n hgw (gw_code hcd) rfl rfl rfl (F.2.2.2.2.2.1.2.1 _ hl) (hgw _ hini) hy.1 hroom, hgw _ hin, hgw _ hse⟩ hpre rfl hlen (hL.1.trans hML) hstk hsum hg hfit
  refine run_back hrun hS F.2.2.2.2.2.2.2 (fun v σ1 H1 locs1 h1 hP1 hS1 => ?_)
  have := h1 X p l e R s m args below meth c A0 H0 cells slots Z F hq' H1 locs1 ls hP1 hS1 hL
  rw [List.map_append] at this
  cases v <;> exact this
theorem Run.callS {y : MethodName} {Mc : Mt} {n i : Nat} {As : List Value} (hm : MS y Mc n) (hl : Lk M.1 i y) (hn : As.length = n) (hst : As.reverse ++ st = st') (hML : L.length = M.2.2.1) (hs : (st.map fun v => v.category).sum ≤ 8)
    (hd : decode M.2.1 pc = .ok (.invokestatic i, 3)) (hc : Ct y Mc d As σ (fun v σ1 => Run M (d + 1) (pc + 3) L (v.toList ++ st) σ1 Q)) : Run M (d + 1) pc L st' σ Q := by
  subst hst
  intro X p l e R s m args below meth c A0 H0 cells slots Z F hq' H locs ls hP hS hL
  have hM := hc _ (fun v σ' a _ => a) l X
  obtain ⟨hy, hini, hcd, hsc⟩ := hm
  have hgw := F.2.2.2.2.1
  have hR := F.2.2.2.2.2.2.1
  have hroom : (rm d).frames + 1 ≤ R.frames ∧ 8 + (Mc.2.2.1 + 11) + (rm d).locals ≤ R.locals := ⟨hR.1, by have := hy.2.2.2; show 8 + (Mc.2.2.1 + 11) + 64 * d ≤ R.locals; omega⟩
  have hpre : PreS s H (va_Pc (As.map (cv X)) (cB X σ)) (As.map (cv X)) := ⟨cB_blind, cB_pre F.2.2.2.2.2.1 hP⟩
  have hg : decode M.2.1 pc = .ok (.invokestatic i, 3) := hd
  have hsum : 2 * 0 + ((st.map (cv X)).map fun v => v.category).sum ≤ 8 := by rw [List.map_map]; simpa [Function.comp_def, cv_cat] using hs
  have hfit : cells + 0 ≤ R.cells ∧ slots + 0 ≤ R.slots := ⟨hR.2.2.1, hR.2.2.2⟩
  have hstk : (As.reverse ++ st).map (cv X) = (As.map (cv X)).reverse ++ st.map (cv X) := by simp
  have hlen : (As.map (cv X)).length = n := by simpa using hn
  have hrun : va_Run p l e R s m args below meth c H locs cells slots 0 0 (F0 m pc ls ((As.reverse ++ st).map (cv X))) (st.map (cv X)) (cQ X (fun v σ1 => Run M (d + 1) (pc + 3) L (v.toList ++ st) σ1 Q) (As.map (cv X)).toArray) (AX X) := by
    rcases hl with hl | ⟨host, hl⟩
    · exact va_runS (cc := M.2.1) (nL := M.2.2.1) (own := M.1) ⟨F.1, F.2.1, F.2.2.1, F.2.2.2.1, hgw⟩ hM ⟨callB_of (ws' := GW) n hgw (gw_code hcd) rfl rfl rfl (hgw _ hini) (hgw _ hl) hy.1 hroom, hgw _ hsc⟩ hpre rfl hlen (hL.1.trans hML) hstk hsum hg hfit
    · exact va_runSN (cc := M.2.1) (nL := M.2.2.1) (own := M.1) (host := host) ⟨F.1, F.2.1, F.2.2.1, F.2.2.2.1, hgw⟩ hM ⟨va_cnB (ws' := GW) n hgw (gw_code hcd) rfl rfl rfl (F.2.2.2.2.2.1.2.1 _ hl) (hgw _ hini) hy.1 hroom, hgw _ hsc, trivial⟩ hpre rfl hlen (hL.1.trans hML) hstk hsum hg hfit
  refine run_back hrun hS F.2.2.2.2.2.2.2 (fun v σ1 H1 locs1 h1 hP1 hS1 => ?_)
  have := h1 X p l e R s m args below meth c A0 H0 cells slots Z F hq' H1 locs1 ls hP1 hS1 hL
  rw [List.map_append] at this
  cases v <;> exact this
end RUNS

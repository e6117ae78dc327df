/-! THE LAW: rules -/
section LAWR
def ML : Mt := (R_law, code, 4, ret)
def LLoc (i : Nat) : List (Option Value) := [some (.ref 200), some (.ref 0), some (.ref 88), some (.int (nI i))]
def LC (X : Cx) (p : Program) (s : State) (m : MethodId) (c : Code) (b L : Nat) (xs : Nat → Int32) (A0 : Nat → Prop) (cells slots : Nat) : Prop := Fx X ML 100 room_1 p s m #[Value.ref b] c A0 cells slots ∧ va_X b L xs s s.heap ∧ b < s.heap.size ∧ ¬ A0 b ∧ X.2.1 200 = b ∧ L ≤ 3072
def AL (X : Cx) (p : Program) (l : Launch) (e : Env) (s : State) (m : MethodId) (below : List Frame) (meth : Method) (c : Code) (b : Nat) (A0 : Nat → Prop) (cells slots : Nat) (Z : State → Prop) (pc : Nat) (Ls : List (Option Value)) (st : List Value) (σ : St) : Prop := At X p l e room_1 s m #[Value.ref b] below meth c A0 s.heap cells slots Z pc Ls st σ
variable {X : Cx} {p : Program} {l : Launch} {e : Env} {s : State} {m : MethodId} {below : List Frame} {meth : Method} {c : Code} {b L : Nat} {xs : Nat → Int32} {A0 : Nat → Prop} {cells slots : Nat} {Z : State → Prop} {pc : Nat} {Ls : List (Option Value)} {st : List Value} {σ : St}
theorem Go.al {pc' : Nat} {Ls' : List (Option Value)} {st' : List Value} {σ' : St} (h : Go ML 100 pc Ls st σ pc' Ls' st' σ') (C : LC X p s m c b L xs A0 cells slots) (k : AL X p l e s m below meth c b A0 cells slots Z pc' Ls' st' σ') : AL X p l e s m below meth c b A0 cells slots Z pc Ls st σ := h X p l e room_1 s m _ below meth c A0 s.heap cells slots Z C.1 k
theorem Br.al {q1 q2 : Prop} {pc1 pc2 : Nat} {st' : List Value} (h : Br ML 100 pc Ls st σ q1 q2 pc1 pc2 st') (C : LC X p s m c b L xs A0 cells slots) (k1 : q1 → AL X p l e s m below meth c b A0 cells slots Z pc1 Ls st' σ) (k2 : q2 → AL X p l e s m below meth c b A0 cells slots Z pc2 Ls st' σ) : AL X p l e s m below meth c b A0 cells slots Z pc Ls st σ := h X p l e room_1 s m _ below meth c A0 s.heap cells slots Z C.1 k1 k2
theorem l_ld (C : LC X p s m c b L xs A0 cells slots) {k : Nat} (hk : k < L) (hd : decode ML.2.1 pc = .ok (.iaload, 1)) (kk : AL X p l e s m below meth c b A0 cells slots Z (pc + 1) Ls (.int (xs k) :: st) σ) : AL X p l e s m below meth c b A0 cells slots Z pc Ls (.int (nI k) :: .ref 200 :: st) σ := by
  intro H locs ls hP hS hL
  obtain ⟨F, hX, hbl, hA, hb, hL2⟩ := C
  show W p l e room_1 s m _ below meth c H locs cells slots Z (F0 m pc ls (.int (nI k) :: .ref (X.2.1 200) :: st.map (cv X)))
  rw [hb]
  refine va_sld (i := nI k) F.1 F.2.1 hX hbl hA hS (vp_in_nI hk (by omega)) hd ?_
  rw [nI_clamp (by omega)]
  exact kk H locs ls hP hS hL
theorem l_len (C : LC X p s m c b L xs A0 cells slots) (hd : decode ML.2.1 pc = .ok (.arraylength, 1)) (kk : AL X p l e s m below meth c b A0 cells slots Z (pc + 1) Ls (.int (nI L) :: st) σ) : AL X p l e s m below meth c b A0 cells slots Z pc Ls (.ref 200 :: st) σ := by
  intro H locs ls hP hS hL
  obtain ⟨F, hX, hbl, hA, hb, hL2⟩ := C
  show W p l e room_1 s m _ below meth c H locs cells slots Z (F0 m pc ls (.ref (X.2.1 200) :: st.map (cv X)))
  rw [hb]
  exact va_slen F.1 F.2.1 hX hbl hA hS hd (kk H locs ls hP hS hL)
theorem l_arg (C : LC X p s m c b L xs A0 cells slots) {i : Nat} (j : Nat) (hij : i + j < L) (hj : Int32.ofInt (j : Int) = nI j) (h1 : decode ML.2.1 pc = .ok (.aload_n 0, 1)) (h2 : decode ML.2.1 (pc + 1) = .ok (.iload_n 3, 1)) (h3 : decode ML.2.1 (pc + 2) = .ok (.iconst (j : Int), 1)) (h4 : decode ML.2.1 (pc + 3) = .ok (.iadd, 1)) (h5 : decode ML.2.1 (pc + 4) = .ok (.iaload, 1)) (kk : AL X p l e s m below meth c b A0 cells slots Z (pc + 5) (LLoc i) (.int (xs (i + j)) :: st) σ) : AL X p l e s m below meth c b A0 cells slots Z pc (LLoc i) st σ := by
  refine (go_aload_n (M := ML) (x := 200) 0 h1 rfl rfl).al C ?_
  refine (go_iload_n (M := ML) (x := nI i) 3 h2 rfl rfl).al C ?_
  refine (go_iconst (M := ML) (v := nI j) h3 hj).al C ?_
  refine (go_iadd h4).al C ?_
  rw [nI_add]
  exact l_ld C hij h5 kk
theorem l_bool (C : LC X p s m c b L xs A0 cells slots) {x : Int32} (h1 : decode ML.2.1 pc = .ok (.ifCond .eq 7, 3)) (h2 : decode ML.2.1 (pc + 3) = .ok (.iconst 1, 1)) (h3 : decode ML.2.1 (pc + 4) = .ok (.goto 4, 3)) (h4 : decode ML.2.1 (pc + 7) = .ok (.iconst 0, 1)) (kk : AL X p l e s m below meth c b A0 cells slots Z (pc + 8) Ls (.int (if x = 0 then 0 else 1) :: st) σ) : AL X p l e s m below meth c b A0 cells slots Z pc Ls (.int x :: st) σ := by
  refine (br_if_eq (M := ML) (pc + 7) h1 (by omega)).al C (fun q => ?_) (fun q => ?_)
  · refine (go_iconst (M := ML) (v := 0) h4 rfl).al C ?_
    rw [if_pos q] at kk; exact kk
  · refine (go_iconst (M := ML) (v := 1) h2 rfl).al C ?_
    refine (go_goto (pc + 8) h3 (by omega)).al C ?_
    rw [if_neg q] at kk; exact kk
theorem ty_int {M : Mt} {r : Value} (h : M.2.2.2 = some .int) (t : ∃ pc, rOk M pc (some r)) : ∃ x, r = .int x := by
  obtain ⟨pc, t⟩ := t
  cases r with
  | int x => exact ⟨x, rfl⟩
  | long x => exact absurd (h.symm.trans t.1) (by simp)
  | ref x => obtain ⟨⟨C, t⟩, _⟩ := t; exact absurd (h.symm.trans t) (by simp)
  | null => obtain ⟨⟨C, t⟩, _⟩ := t; exact absurd (h.symm.trans t) (by simp)
  | _ => exact absurd t (fun q => q)
theorem ty_long {M : Mt} {r : Value} (h : M.2.2.2 = some .long) (t : ∃ pc, rOk M pc (some r)) : ∃ x, r = .long x := by
  obtain ⟨pc, t⟩ := t
  cases r with
  | long x => exact ⟨x, rfl⟩
  | int x =>
    rcases t.1 with q | q
    · exact absurd (h.symm.trans q) (by simp)
    · exact absurd (h.symm.trans q.1) (by simp)
  | ref x => obtain ⟨⟨C, t⟩, _⟩ := t; exact absurd (h.symm.trans t) (by simp)
  | null => obtain ⟨⟨C, t⟩, _⟩ := t; exact absurd (h.symm.trans t) (by simp)
  | _ => exact absurd t (fun q => q)
theorem l_call (C : LC X p s m c b L xs A0 cells slots) {y : MethodName} {Mc : Mt} {n i o ci d j : Nat} {As st' : List Value} {q : vw_C} {Q : Option Value → St → Prop} (hm : MV y Mc n) (hl : Lk R_law i y) (hk : kd o = ci) (hci : ci < 100) (hq : cls[ci]? = some q) (hqn : q.1 = y.cls) (hn : As.length = n) (hst : As.reverse ++ .ref o :: st = st') (hs : (st.map fun v => v.category).sum ≤ 8) (hd9 : d ≤ 99) (hd : decode ML.2.1 pc = .ok (.invokevirtual i, 3)) (hc : Ct y Mc d (.ref o :: As) σ Q) (kk : ∀ v σ1, Q v σ1 → (∃ pc, rOk Mc pc v) → AL X p l e s m below meth c b A0 cells slots Z (pc + 3) (LLoc j) (v.toList ++ st) σ1) : AL X p l e s m below meth c b A0 cells slots Z pc (LLoc j) st' σ := by
  subst hst
  intro H locs ls hP hS hL
  have hM := hc (fun v σ1 => Q v σ1 ∧ ∃ pc, rOk Mc pc v) (fun v σ' a t => ⟨a, t⟩) l X
  have F := C.1
  obtain ⟨hy, hini, hcd, hin, hse⟩ := hm
  have hgw := F.2.2.2.2.1
  have hR := F.2.2.2.2.2.2.1
  have hroom : (rm d).frames + 1 ≤ room_1.frames ∧ 8 + (Mc.2.2.1 + 11) + (rm d).locals ≤ room_1.locals := ⟨by show d + 1 ≤ 2048; omega, by have := hy.2.2.2; show 8 + (Mc.2.2.1 + 11) + 64 * d ≤ 84000; omega⟩
  have hpre : PreV s H y.cls (X.2.1 o) (va_Pc ((Value.ref o :: As).map (cv X)) (cB X σ)) (As.map (cv X)) := ⟨cB_blind, by rw [← hqn]; exact va_recv F.2.2.2.2.2.1.1 hP hq (by rw [ws_at X σ (kd_lt hk (by omega)), hE_obj X σ hk hci]), cB_pre F.2.2.2.2.2.1 hP⟩
  have hsum : 2 * 0 + ((st.map (cv X)).map fun v => v.category).sum ≤ 8 := by rw [List.map_map]; simpa [Function.comp_def, cv_cat] using hs
  have hfit : cells + 0 ≤ room_1.cells ∧ slots + 0 ≤ room_1.slots := ⟨hR.2.2.1, hR.2.2.2⟩
  have hstk : (As.reverse ++ Value.ref o :: st).map (cv X) = (As.map (cv X)).reverse ++ Value.ref (X.2.1 o) :: st.map (cv X) := by simp [cv]
  have hlen : (As.map (cv X)).length = n := by simpa using hn
  have hrun : va_Run p l e room_1 s m #[Value.ref b] below meth c H locs cells slots 0 0 (F0 m pc ls ((As.reverse ++ Value.ref o :: st).map (cv X))) (st.map (cv X)) (cQ X (fun v σ1 => Q v σ1 ∧ ∃ pc, rOk Mc pc v) (Value.ref (X.2.1 o) :: As.map (cv X)).toArray) (AX X) := by
    rcases hl with hl | ⟨host, hl⟩
    · exact va_runV (cc := ML.2.1) (nL := ML.2.2.1) (own := ML.1) (C := y.cls) ⟨F.1, F.2.1, F.2.2.1, F.2.2.2.1, hgw⟩ hM ⟨callB_of (ws' := GW) n hgw (gw_code hcd) rfl rfl rfl (hgw _ hini) (hgw _ hl) hy.1 hroom, hgw _ hin, hgw _ hse⟩ hpre rfl hlen (hL.1.trans rfl) hstk hsum hd hfit
    · exact va_runVN (cc := ML.2.1) (nL := ML.2.2.1) (own := ML.1) (C := y.cls) (host := host) ⟨F.1, F.2.1, F.2.2.1, F.2.2.2.1, hgw⟩ hM ⟨va_cnB (ws' := GW) n hgw (gw_code hcd) rfl rfl rfl (F.2.2.2.2.2.1.2.1 _ hl) (hgw _ hini) hy.1 hroom, hgw _ hin, hgw _ hse⟩ hpre rfl hlen (hL.1.trans rfl) hstk hsum hd hfit
  refine run_back hrun hS F.2.2.2.2.2.2.2 (fun v σ1 H1 locs1 h1 hP1 hS1 => ?_)
  have := kk v σ1 h1.1 h1.2 H1 locs1 ls hP1 hS1 hL
  rw [List.map_append] at this
  cases v <;> exact this
end LAWR

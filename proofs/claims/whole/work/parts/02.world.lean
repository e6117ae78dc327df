def NC : Nat := 111
def kdL : List Nat := [9, 103, 8, 102, 7, 100, 100, 100, 4, 7, 100, 100, 100, 100, 2, 100, 100, 7, 100, 100, 100, 0, 100, 100, 1, 100, 101, 3, 100, 3, 100, 104, 5, 7, 100, 100, 100, 100, 5, 7, 100, 100, 100, 100, 5, 7, 100, 100, 100, 100, 5, 7, 100, 100, 100, 100, 5, 7, 100, 100, 100, 100, 5, 7, 100, 100, 100, 100, 5, 7, 100, 100, 100, 100, 5, 7, 100, 100, 100, 100, 6, 100, 6, 100, 6, 100, 6, 100, 10, 100, 100, 101, 100, 100, 100, 100, 100, 100, 100, 100, 100, 100, 100, 100, 101, 101, 100, 100, 100, 100, 100]
def kd (i : Nat) : Nat := kdL.getD i 999
def lnL : List Nat := [0, 8, 0, 240, 0, 32, 32, 32, 0, 0, 32, 32, 32, 32, 0, 32, 32, 0, 32, 32, 32, 0, 6, 6, 0, 429, 32, 0, 12, 0, 12, 4, 0, 0, 32, 32, 32, 32, 0, 0, 32, 32, 32, 32, 0, 0, 32, 32, 32, 32, 0, 0, 32, 32, 32, 32, 0, 0, 32, 32, 32, 32, 0, 0, 32, 32, 32, 32, 0, 0, 32, 32, 32, 32, 0, 0, 32, 32, 32, 32, 0, 60, 0, 60, 0, 60, 0, 60, 0, 8, 8, 256, 32, 32, 32, 240, 32, 32, 32, 35280, 35280, 7, 12, 1690, 33, 33, 12, 12, 4, 4, 240]
def ln (i : Nat) : Nat := lnL.getD i 0
def grL : List (List Nat) := [[1, 0, 2, 4, 8, 14, 21, 24, 26, 27, 29, 31], [32, 38, 44, 50, 56, 62, 68, 74], [0, 0, 3], [], [0, 5, 6, 7], [], [], [], [0, 0, 0, 0, 0, 9, 13], [0, 10, 11, 12], [], [], [], [], [0, 0, 15, 16, 17], [], [], [0, 18, 19, 20], [], [], [], [0, 0, 0, 0, 0, 22, 23], [], [], [25], [], [], [0, 0, 0, 28], [], [0, 0, 0, 30], [], [80, 82, 84, 86], [0, 0, 33, 37], [0, 34, 35, 36], [], [], [], [], [0, 0, 39, 43], [0, 40, 41, 42], [], [], [], [], [0, 0, 45, 49], [0, 46, 47, 48], [], [], [], [], [0, 0, 51, 55], [0, 52, 53, 54], [], [], [], [], [0, 0, 57, 61], [0, 58, 59, 60], [], [], [], [], [0, 0, 63, 67], [0, 64, 65, 66], [], [], [], [], [0, 0, 69, 73], [0, 70, 71, 72], [], [], [], [], [0, 0, 75, 79], [0, 76, 77, 78], [], [], [], [], [0, 0, 81], [], [0, 0, 83], [], [0, 0, 85], [], [0, 0, 87], [], [0, 89, 90, 91, 0, 0, 92, 93, 94, 95, 0, 0, 0, 0, 0, 0, 0, 96, 97, 98, 0, 0, 99, 100, 0, 101, 102, 103, 104, 105, 106, 107, 0, 0, 0, 108, 109, 110], [], [], [], [], [], [], [], [], [], [], [], [], [], [], [], [], [], [], [], [], [], []]
def gr (i k : Nat) : Nat := (grL.getD i []).getD k 0
def nF (c : Nat) : Nat := ([8, 3, 5, 4, 7, 4, 3, 4, 7, 12, 38] : List Nat).getD c 0
def rFL : List (List Nat) := [[5, 6], [0], [2, 3, 4], [3], [5, 6], [2, 3], [2], [1, 2, 3], [2], [0, 2, 3, 4, 5, 6, 7, 8, 9, 10, 11], [1, 2, 3, 6, 7, 8, 9, 17, 18, 19, 22, 23, 25, 26, 27, 28, 29, 30, 31, 35, 36, 37]]
def rF (c k : Nat) : Bool := (rFL.getD c []).contains k
/-! the fixed world: ids, contents σ, the words' context -/
abbrev St : Type := (Nat → Nat → Int32) × (Nat → Nat → Int64)
abbrev Cx : Type := va_G × (Nat → Nat) × (Nat → ClassId)
def cv (X : Cx) (v : Value) : Value := match v with
  | .ref i => .ref (X.2.1 i)
  | v => v
theorem cv_cat (X : Cx) (v : Value) : (cv X v).category = v.category := by cases v <;> rfl
def hE (X : Cx) (σ : St) (i : Nat) : va_E :=
  if kd i < 100 then .inr (kd i, (List.range (nF (kd i))).map (fun k => if rF (kd i) k = true then Value.ref (X.2.1 (gr i k)) else Value.int (σ.1 i k)))
  else if kd i = 100 then .inl (X.2.2 0, ln i, .inl (σ.1 i))
  else if kd i = 101 then .inl (X.2.2 1, ln i, .inr (.inl (σ.2 i)))
  else if kd i = 102 then .inl (X.2.2 2, ln i, .inl (σ.1 i))
  else .inl (X.2.2 (kd i - 100), ln i, .inr (.inr (.inr (.inr (fun k => some (X.2.1 (gr i k)))))))
def ws (X : Cx) (σ : St) : va_W := (List.range NC).map (fun i => (X.2.1 i, hE X σ i))
abbrev tys (X : Cx) : List (ClassId × FieldType) := [(X.2.2 0, .int), (X.2.2 1, .long), (X.2.2 2, .byte), (X.2.2 3, .object "CarryNets$Net"), (X.2.2 4, .object "CarryNets$Sheet")]
def sA (σ : St) (o : Nat) (g : Nat → Int32) : St := (fun i => if i = o then g else σ.1 i, σ.2)
def sJ (σ : St) (o : Nat) (g : Nat → Int64) : St := (σ.1, fun i => if i = o then g else σ.2 i)
theorem kd_lt {o c : Nat} (h : kd o = c) (hc : c < 999) : o < NC := by
  rcases Nat.lt_or_ge o NC with q | q
  · exact q
  · exfalso
    have h1 : kdL.length ≤ o := q
    have h2 : kd o = 999 := by unfold kd; rw [List.getD_eq_getElem?_getD, List.getElem?_eq_none h1]; rfl
    omega
theorem ws_at (X : Cx) (σ : St) {i : Nat} (h : i < NC) : (ws X σ)[i]? = some (X.2.1 i, hE X σ i) := by
  simp [ws, h]
theorem ws_len (X : Cx) (σ : St) : (ws X σ).length = NC := by simp [ws]
theorem ws_set (X : Cx) (σ σ' : St) {o : Nat} (ho : o < NC) {e : va_E} (he : hE X σ' o = e) (hn : ∀ i, i ≠ o → hE X σ' i = hE X σ i) : (ws X σ).set o (X.2.1 o, e) = ws X σ' := by
  subst he
  apply List.ext_getElem?
  intro i
  rw [List.getElem?_set]
  by_cases h : o = i
  · subst h
    rw [if_pos rfl, ws_len, if_pos ho, ws_at X σ' ho]
  · rw [if_neg h]
    rcases Nat.lt_or_ge i NC with q | q
    · rw [ws_at X σ q, ws_at X σ' q, hn i (fun e => h e.symm)]
    · rw [List.getElem?_eq_none (by rw [ws_len]; exact q), List.getElem?_eq_none (by rw [ws_len]; exact q)]
theorem hE_sA_ne (X : Cx) (σ : St) (o : Nat) (g : Nat → Int32) {i : Nat} (h : i ≠ o) : hE X (sA σ o g) i = hE X σ i := by
  have e1 : (sA σ o g).1 i = σ.1 i := by show (if i = o then g else σ.1 i) = σ.1 i; rw [if_neg h]
  have e2 : (sA σ o g).2 = σ.2 := rfl
  unfold hE
  rw [e1, e2]
theorem hE_sJ_ne (X : Cx) (σ : St) (o : Nat) (g : Nat → Int64) {i : Nat} (h : i ≠ o) : hE X (sJ σ o g) i = hE X σ i := by
  have e1 : (sJ σ o g).2 i = σ.2 i := by show (if i = o then g else σ.2 i) = σ.2 i; rw [if_neg h]
  have e2 : (sJ σ o g).1 = σ.1 := rfl
  unfold hE
  rw [e1, e2]
theorem sA_at (σ : St) (o : Nat) (g : Nat → Int32) : (sA σ o g).1 o = g := by show (if o = o then g else σ.1 o) = g; rw [if_pos rfl]
theorem sJ_at (σ : St) (o : Nat) (g : Nat → Int64) : (sJ σ o g).2 o = g := by show (if o = o then g else σ.2 o) = g; rw [if_pos rfl]
def fsO (X : Cx) (σ : St) (c i : Nat) : List Value := (List.range (nF c)).map (fun k => if rF c k = true then Value.ref (X.2.1 (gr i k)) else Value.int (σ.1 i k))
theorem hE_obj (X : Cx) (σ : St) {i c : Nat} (h : kd i = c) (hc : c < 100) : hE X σ i = .inr (c, fsO X σ c i) := by
  subst h
  unfold hE
  rw [if_pos hc]
  rfl
theorem hE_int (X : Cx) (σ : St) {i : Nat} (h : kd i = 100) : hE X σ i = .inl (X.2.2 0, ln i, .inl (σ.1 i)) := by
  unfold hE; rw [h]; rfl
theorem hE_long (X : Cx) (σ : St) {i : Nat} (h : kd i = 101) : hE X σ i = .inl (X.2.2 1, ln i, .inr (.inl (σ.2 i))) := by
  unfold hE; rw [h]; rfl
theorem hE_byte (X : Cx) (σ : St) {i : Nat} (h : kd i = 102) : hE X σ i = .inl (X.2.2 2, ln i, .inl (σ.1 i)) := by
  unfold hE; rw [h]; rfl
theorem hE_refs (X : Cx) (σ : St) {i k : Nat} (h : kd i = k) (hk : k = 103 ∨ k = 104) : hE X σ i = .inl (X.2.2 (k - 100), ln i, .inr (.inr (.inr (.inr (fun k => some (X.2.1 (gr i k))))))) := by
  unfold hE; rw [h]
  rcases hk with rfl | rfl <;> rfl
theorem fsO_at (X : Cx) (σ : St) {c i k : Nat} (hk : k < nF c) : (fsO X σ c i)[k]? = some (if rF c k = true then Value.ref (X.2.1 (gr i k)) else Value.int (σ.1 i k)) := by
  simp [fsO, hk]
theorem fsO_len (X : Cx) (σ : St) (c i : Nat) : (fsO X σ c i).length = nF c := by simp [fsO]
theorem fsO_set (X : Cx) (σ : St) {c o k : Nat} (hk : k < nF c) (hr : rF c k = false) (x : Int32) : (fsO X σ c o).set k (.int x) = fsO X (sA σ o (upd (σ.1 o) k x)) c o := by
  apply List.ext_getElem?
  intro i
  rw [List.getElem?_set, fsO_len]
  by_cases h : k = i
  · subst h
    rw [if_pos rfl, if_pos hk, fsO_at _ _ hk, sA_at]
    simp [hr, upd]
  · rw [if_neg h]
    rcases Nat.lt_or_ge i (nF c) with q | q
    · rw [fsO_at _ _ q, fsO_at _ _ q, sA_at]
      have hik : ¬ i = k := fun e => h e.symm
      simp only [upd, if_neg hik]
    · rw [List.getElem?_eq_none (by rw [fsO_len]; exact q), List.getElem?_eq_none (by rw [fsO_len]; exact q)]
/-- what stays as it is: the tables, the nest words, the addresses apart -/
def CX (X : Cx) (U : State) : Prop := va_K X.1 cls (tys X) U ∧ (∀ w ∈ nestW, va_Nw w U) ∧ ∀ i j, i < NC → j < NC → X.2.1 i = X.2.1 j → i = j
def AX (X : Cx) : Nat → Prop := fun q => ∃ i, i < NC ∧ X.2.1 i = q
theorem nest_warm {s U : State} (hW : s.WarmedH U.vm) (h : ∀ w ∈ nestW, va_Nw w s) : ∀ w ∈ nestW, va_Nw w U := by
  intro w hw
  have h1 := (List.mem_filter.mp hw).2
  have h2 := h w hw
  cases w <;> first | exact va_Nw.warmM hW h2 | exact Bool.noConfusion h1
theorem nest_same {s U : State} (hv : s.vm = U.vm) (h : ∀ w ∈ nestW, va_Nw w s) : ∀ w ∈ nestW, va_Nw w U := by
  intro w hw
  have h1 := (List.mem_filter.mp hw).2
  have h2 := h w hw
  cases w <;> first | exact Bool.noConfusion h1 | exact va_Nw.same rfl hv h2
theorem CX.warm {X : Cx} {s U : State} (hW : s.WarmedH U.vm) (h : CX X s) : CX X U := ⟨va_K.moved hW.alike h.1, nest_warm hW h.2.1, h.2.2⟩
theorem CX.same {X : Cx} {s U : State} (hv : s.vm = U.vm) (h : CX X s) : CX X U := ⟨va_K.moved (by rw [hv]; exact Vm.Alike.refl U.vm) h.1, nest_same hv h.2.1, h.2.2⟩
theorem ws_D {X : Cx} {σ : St} {A0 : Nat → Prop} (hi : ∀ i j, i < NC → j < NC → X.2.1 i = X.2.1 j → i = j) (hA : ∀ i, i < NC → A0 (X.2.1 i)) : va_D A0 (ws X σ) := by
  have lt : ∀ {k : Nat} {q : Nat × va_E}, (ws X σ)[k]? = some q → k < NC := fun {k q} h => by
    have := (List.getElem?_eq_some_iff.mp h).1
    rwa [ws_len] at this
  refine ⟨fun i j p q h1 h2 e => ?_, fun k q h => ?_⟩
  · have l1 := lt h1
    have l2 := lt h2
    rw [ws_at X σ l1] at h1
    rw [ws_at X σ l2] at h2
    cases h1; cases h2
    exact hi i j l1 l2 e
  · have l1 := lt h
    rw [ws_at X σ l1] at h
    cases h
    exact hA k l1
/-! locals -/
def lvH (X : Cx) (ls : Array Slot) (L : List (Option Value)) : Prop := ls.size = L.length ∧ lv_wf ls ∧ ∀ (i : Nat) (v : Value), L[i]? = some (some v) → ls[i]? = some (.val (cv X v))
def lvA (X : Cx) (L : List (Option Value)) : List (Nat × Value) := (List.range L.length).filterMap (fun i => (L.getD i none).map (fun v => (i, cv X v)))
theorem lvA_mem {X : Cx} {L : List (Option Value)} {i : Nat} {v : Value} (h : L[i]? = some (some v)) : (i, cv X v) ∈ lvA X L := by
  have hl := (List.getElem?_eq_some_iff.mp h).1
  refine List.mem_filterMap.mpr ⟨i, List.mem_range.mpr hl, ?_⟩
  rw [List.getD_eq_getElem?_getD, h]
  rfl
theorem lvA_of {X : Cx} {L : List (Option Value)} {q : Nat × Value} (h : q ∈ lvA X L) : ∃ v, L[q.1]? = some (some v) ∧ q.2 = cv X v := by
  obtain ⟨i, hi, he⟩ := List.mem_filterMap.mp h
  have hl := List.mem_range.mp hi
  rw [List.getD_eq_getElem?_getD] at he
  cases hx : L[i]? with
  | none => rw [hx] at he; cases he
  | some o =>
    rw [hx] at he
    cases o with
    | none => cases he
    | some v => cases he; exact ⟨v, hx, rfl⟩
theorem lvH.has {X : Cx} {ls : Array Slot} {L : List (Option Value)} (h : lvH X ls L) : lv_has ls L.length (lvA X L) := ⟨h.1, h.2.1, fun q hq => by
  obtain ⟨v, h1, h2⟩ := lvA_of hq
  rw [h2]
  exact h.2.2 _ _ h1⟩
def isL (o : Option Value) : Bool := match o with
  | some v => v.category == 2
  | none => false
def st1 : List (Option Value) → Nat → Value → List (Option Value)
  | [], _, _ => []
  | _ :: t, 0, v => some v :: t
  | w :: t, n + 1, v => (if n == 0 && isL w then none else w) :: st1 t n v
def st2 : List (Option Value) → Nat → Value → List (Option Value)
  | [], _, _ => []
  | _ :: t, 0, v => some v :: (match t with | [] => [] | _ :: t' => none :: t')
  | w :: t, n + 1, v => (if n == 0 && isL w then none else w) :: st2 t n v
theorem st1_len : ∀ (L : List (Option Value)) (i : Nat) (v : Value), (st1 L i v).length = L.length
  | [], _, _ => rfl
  | _ :: _, 0, _ => rfl
  | _ :: t, n + 1, v => by show (st1 t n v).length + 1 = t.length + 1; rw [st1_len t n v]
theorem st2_len : ∀ (L : List (Option Value)) (i : Nat) (v : Value), (st2 L i v).length = L.length
  | [], _, _ => rfl
  | [_], 0, _ => rfl
  | _ :: _ :: _, 0, _ => rfl
  | _ :: t, n + 1, v => by show (st2 t n v).length + 1 = t.length + 1; rw [st2_len t n v]
theorem st1_at : ∀ (L : List (Option Value)) (i : Nat) (v : Value) (j : Nat) (w : Value), (st1 L i v)[j]? = some (some w) → (j = i ∧ w = v) ∨ (j ≠ i ∧ L[j]? = some (some w) ∧ ¬ (j + 1 = i ∧ w.category = 2))
  | [], _, _, j, w, h => by simp [st1] at h
  | _ :: t, 0, v, 0, w, h => by simp [st1] at h; exact Or.inl ⟨rfl, h.symm⟩
  | _ :: t, 0, v, j + 1, w, h => by simp [st1] at h; exact Or.inr ⟨by omega, by simpa using h, by omega⟩
  | x :: t, n + 1, v, 0, w, h => by
    simp only [st1, List.getElem?_cons_zero, Option.some.injEq] at h
    refine Or.inr ⟨by omega, ?_, ?_⟩
    · split at h
      · cases h
      · simpa using h
    · rintro ⟨e, hc⟩
      have hn : n = 0 := by omega
      subst hn
      by_cases hx : isL x = true
      · simp [hx] at h
      · simp [hx] at h
        subst h
        exact hx (by simp [isL, hc])
  | x :: t, n + 1, v, j + 1, w, h => by
    simp only [st1, List.getElem?_cons_succ] at h ⊢
    rcases st1_at t n v j w h with ⟨h1, h2⟩ | ⟨h1, h2, h3⟩
    · exact Or.inl ⟨by omega, h2⟩
    · exact Or.inr ⟨by omega, h2, fun q => h3 ⟨by omega, q.2⟩⟩
theorem st2_at : ∀ (L : List (Option Value)) (i : Nat) (v : Value) (j : Nat) (w : Value), (st2 L i v)[j]? = some (some w) → (j = i ∧ w = v) ∨ (j ≠ i ∧ j ≠ i + 1 ∧ L[j]? = some (some w) ∧ ¬ (j + 1 = i ∧ w.category = 2))
  | [], _, _, j, w, h => by simp [st2] at h
  | _ :: t, 0, v, 0, w, h => by simp [st2] at h; exact Or.inl ⟨rfl, h.symm⟩
  | [_], 0, v, j + 1, w, h => by simp [st2] at h
  | _ :: _ :: t, 0, v, 1, w, h => by simp [st2] at h
  | _ :: _ :: t, 0, v, j + 2, w, h => by simp [st2] at h; exact Or.inr ⟨by omega, by omega, by simpa using h, by omega⟩
  | x :: t, n + 1, v, 0, w, h => by
    simp only [st2, List.getElem?_cons_zero, Option.some.injEq] at h
    refine Or.inr ⟨by omega, by omega, ?_, ?_⟩
    · split at h
      · cases h
      · simpa using h
    · rintro ⟨e, hc⟩
      have hn : n = 0 := by omega
      subst hn
      by_cases hx : isL x = true
      · simp [hx] at h
      · simp [hx] at h
        subst h
        exact hx (by simp [isL, hc])
  | x :: t, n + 1, v, j + 1, w, h => by
    simp only [st2, List.getElem?_cons_succ] at h ⊢
    rcases st2_at t n v j w h with ⟨h1, h2⟩ | ⟨h1, h2, h3, h4⟩
    · exact Or.inl ⟨by omega, h2⟩
    · exact Or.inr ⟨by omega, by omega, h3, fun q => h4 ⟨by omega, q.2⟩⟩
theorem lvH_st1 {X : Cx} {ls' : Array Slot} {L : List (Option Value)} {i : Nat} {v : Value} (h : lv_has ls' L.length ((i, cv X v) :: (lvA X L).filter (fun q => !(q.1 == i) && !(q.1 + 1 == i && q.2.category == 2)))) : lvH X ls' (st1 L i v) := by
  refine ⟨h.1.trans (st1_len L i v).symm, h.2.1, fun j w hj => ?_⟩
  rcases st1_at L i v j w hj with ⟨rfl, rfl⟩ | ⟨h1, h2, h3⟩
  · exact h.2.2 _ List.mem_cons_self
  · refine h.2.2 (j, cv X w) (List.mem_cons_of_mem _ (List.mem_filter.mpr ⟨lvA_mem h2, ?_⟩))
    by_cases e : j + 1 = i
    · have hc : ¬ w.category = 2 := fun q => h3 ⟨e, q⟩
      simp [h1, cv_cat, hc]
    · simp [h1, e]
theorem lvH_st2 {X : Cx} {ls' : Array Slot} {L : List (Option Value)} {i : Nat} {v : Value} (h : lv_has ls' L.length ((i, cv X v) :: (lvA X L).filter (fun q => !(q.1 == i) && (!(q.1 == i + 1) && !(q.1 + 1 == i && q.2.category == 2))))) : lvH X ls' (st2 L i v) := by
  refine ⟨h.1.trans (st2_len L i v).symm, h.2.1, fun j w hj => ?_⟩
  rcases st2_at L i v j w hj with ⟨rfl, rfl⟩ | ⟨h1, h2, h3, h4⟩
  · exact h.2.2 _ List.mem_cons_self
  · refine h.2.2 (j, cv X w) (List.mem_cons_of_mem _ (List.mem_filter.mpr ⟨lvA_mem h3, ?_⟩))
    by_cases e : j + 1 = i
    · have hc : ¬ w.category = 2 := fun q => h4 ⟨e, q⟩
      simp [h1, h2, cv_cat, hc]
    · simp [h1, h2, e]
/-- fewer values known -/
def lsub : List (Option Value) → List (Option Value) → Prop
  | [], [] => True
  | a :: l, b :: l' => (b = none ∨ a = b) ∧ lsub l l'
  | _, _ => False
theorem lsub_at : ∀ {L L' : List (Option Value)}, lsub L L' → L.length = L'.length ∧ ∀ (i : Nat) (v : Value), L'[i]? = some (some v) → L[i]? = some (some v)
  | [], [], _ => ⟨rfl, fun _ _ h => h⟩
  | a :: l, b :: l', h => by
    obtain ⟨h1, h2⟩ := lsub_at h.2
    refine ⟨by simp [h1], fun i v hi => ?_⟩
    cases i with
    | zero =>
      simp only [List.getElem?_cons_zero, Option.some.injEq] at hi ⊢
      rcases h.1 with e | e
      · rw [e] at hi; cases hi
      · rw [e]; exact hi
    | succ i => simpa using h2 i v (by simpa using hi)
  | [], _ :: _, h => h.elim
  | _ :: _, [], h => h.elim
theorem lvH.sub {X : Cx} {ls : Array Slot} {L L' : List (Option Value)} (h : lvH X ls L) (hs : lsub L L') : lvH X ls L' := ⟨h.1.trans (lsub_at hs).1, h.2.1, fun i v hi => h.2.2 i v ((lsub_at hs).2 i v hi)⟩

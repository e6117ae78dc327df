/-! TEXT: bytes and tokens -/
section TAPE
def ch (B : Nat → Nat) (T p : Nat) : Int32 := if p < T then nI (B p) else -1
def tB (B : Nat → Nat) (T : Nat) (σ : St) : Prop := T ≤ 240 ∧ σ.1 2 0 = nI T ∧ σ.1 88 10 = nI T ∧ ∀ i, i < T → B i < 256 ∧ σ.1 95 i = nI (B i) ∧ σ.1 3 i = (nI (B i)).toInt8.toInt32
def tM (B : Nat → Nat) (T : Nat) (σ : St) : Prop := T ≤ 240 ∧ True ∧ σ.1 88 10 = nI T ∧ ∀ i, i < T → B i < 256 ∧ σ.1 95 i = nI (B i) ∧ True
theorem tB.m {B : Nat → Nat} {T : Nat} {σ : St} (h : tB B T σ) : tM B T σ := ⟨h.1, trivial, h.2.2.1, fun i hi => ⟨(h.2.2.2 i hi).1, (h.2.2.2 i hi).2.1, trivial⟩⟩
theorem RT.bytes {σ : St} (h : RT σ) : ∃ B T, tB B T σ := by
  obtain ⟨L, hL, e1, e2, hb, _⟩ := h
  refine ⟨fun i => if hi : i < L then (hb i hi).choose else 0, L, hL, e1, e2, fun i hi => ?_⟩
  have := (hb i hi).choose_spec
  simp only [dif_pos hi]
  exact this
theorem and255 {b : Nat} (h : b < 256) : nI b &&& 255 = nI b := by
  rw [show (255 : Int32) = nI (2 ^ 8 - 1) from rfl, fa_mask, Nat.mod_eq_of_lt (by omega)]
theorem chC {B : Nat → Nat} {T p : Nat} {σ s : St} (h : tB B T σ) (e0 : s.1 2 0 = σ.1 2 0) (e3 : s.1 3 = σ.1 3) (hp : p < 300) : rX9_byteAt (nI p) s = ch B T p := by
  obtain ⟨hT, h0, _, hb⟩ := h
  unfold rX9_byteAt ch
  rw [if_neg (nI_pos (by omega)), e0, h0]
  by_cases c : p < T
  · obtain ⟨b, _, b3⟩ := hb p c
    rw [if_neg (nI_ge c (by omega)), if_neg (show ¬ (240 : Int32) ≤ nI p from nI_ge (show p < 240 by omega) (by decide)), if_pos c, nI_clamp (by omega), e3, b3, bp_b, and255 b]
  · rw [if_pos ((nI_leI (by omega) (by omega)).mpr (by omega)), if_neg c]
theorem chM {B : Nat → Nat} {T p : Nat} {σ s : St} (h : tM B T σ) (e0 : s.1 88 10 = σ.1 88 10) (e3 : s.1 95 = σ.1 95) (hp : p < 300) : rX11_look (nI p) s = ch B T p := by
  obtain ⟨hT, _, h0, hb⟩ := h
  unfold rX11_look ch
  rw [e0, h0]
  by_cases c : p < T
  · obtain ⟨_, b, _⟩ := hb p c
    rw [if_neg (nI_ge c (by omega)), if_pos c, nI_clamp (by omega), e3, b]
  · rw [if_pos ((nI_leI (by omega) (by omega)).mpr (by omega)), if_neg c]
/-- q: the first from p on that is not so -/
def isF (P : Nat → Prop) (T p q : Nat) : Prop := p ≤ q ∧ (∀ i, p ≤ i → i < q → i < T ∧ P i) ∧ ¬ (q < T ∧ P q)
theorem isF_ex (P : Nat → Prop) (T : Nat) : ∀ (f p : Nat), T ≤ p + f → ∃ q, isF P T p q
  | 0, p, h => ⟨p, Nat.le_refl _, fun i a b => by omega, fun q => by omega⟩
  | f + 1, p, h => by
    by_cases c : p < T ∧ P p
    · obtain ⟨q, a, b, e⟩ := isF_ex P T f (p + 1) (by omega)
      refine ⟨q, by omega, fun i i1 i2 => ?_, e⟩
      by_cases ei : i = p
      · rw [ei]; exact c
      · exact b i (by omega) i2
    · exact ⟨p, Nat.le_refl _, fun i a b => by omega, c⟩
theorem isF_le {P : Nat → Prop} {T p q : Nat} (h : isF P T p q) : q ≤ p ∨ q ≤ T := by
  by_cases c : q ≤ p
  · exact .inl c
  · have := (h.2.1 (q - 1) (by omega) (by omega)).1; exact .inr (by omega)
theorem isF_one {P : Nat → Prop} {T p q q' : Nat} (h : isF P T p q) (h' : isF P T p q') : q = q' := by
  by_cases c : q < q'
  · exact absurd (h'.2.1 q h.1 c) h.2.2
  · by_cases c2 : q' < q
    · exact absurd (h.2.1 q' h'.1 c2) h'.2.2
    · omega
def fgr (B : Nat → Nat) (i : Nat) : Prop := 48 ≤ B i ∧ B i ≤ 57
theorem ch_fgr {B : Nat → Nat} {T p : Nat} (hB : ∀ i, i < T → B i < 256) : ((48 : Int32) ≤ ch B T p ∧ ch B T p ≤ 57) ↔ (p < T ∧ fgr B p) := by
  unfold ch fgr
  by_cases c : p < T
  · have := hB p c
    rw [if_pos c, show (48 : Int32) = nI 48 from rfl, show (57 : Int32) = nI 57 from rfl, nI_leI (by decide) (by omega), nI_leI (by omega) (by decide)]
    exact ⟨fun q => ⟨c, q⟩, fun q => q.2⟩
  · rw [if_neg c]
    exact ⟨fun q => absurd q.1 (by decide), fun q => absurd q.1 c⟩
theorem ch_sp {B : Nat → Nat} {T p : Nat} (hB : ∀ i, i < T → B i < 256) : ch B T p = 32 ↔ (p < T ∧ B p = 32) := by
  unfold ch
  by_cases c : p < T
  · have := hB p c
    rw [if_pos c, show (32 : Int32) = nI 32 from rfl, nI_eq (by omega) (by decide)]
    exact ⟨fun q => ⟨c, q⟩, fun q => q.2⟩
  · rw [if_neg c]
    exact ⟨fun q => absurd q (by decide), fun q => absurd q.1 c⟩
end TAPE

/-! BEST: the numbers -/
section BESTM
def okS (n : Nat) (L : Nat → Nat) : Prop := ∀ i, L i ≤ i ∧ (n ≤ i → L i = 0)
def un (n : Nat) (L : Nat → Nat) : Nat := mk (fun i => decide (0 < L i) && decide (0 < L (L i - 1))) n
def vB (n f : Nat) (L : Nat → Nat) (m : Nat) : Bool := decide (m ≠ 0 ∧ m &&& op n L = m ∧ gst (fun p => ld m L n p) n ≤ f)
def bT (n f : Nat) (g : (Nat → Nat) → Nat → Nat) (L : Nat → Nat) (s m : Nat) : Nat := if vB n f L m = true ∧ pop 7 (m &&& un n L) ≤ s then g (jn m L) (s - pop 7 (m &&& un n L)) else 0
/-- so many NETS go on from L with l ROWS at most and just s spare CELLS -/
def bV (n f : Nat) : Nat → (Nat → Nat) → Nat → Nat
  | 0 => fun L s => if op n L = 0 ∧ s = 0 then 1 else 0
  | l + 1 => fun L s => if op n L = 0 then (if s = 0 then 1 else 0) else sm (bT n f (bV n f l) L s) 128
/-- where a row has its first that is not 0 -/
def lst (g : Nat → Nat) : Nat → Nat
  | 0 => 0
  | k + 1 => if 0 < sm g k then lst g k else k
/-- the least ROWS -/
def bL (n f : Nat) : Nat → (Nat → Nat) → Nat → Nat → Nat
  | 0 => fun _ _ _ => 0
  | l + 1 => fun L s r => if op n L = 0 then 0 else if r = 0 then lst (bT n f (bV n f l) L s) 128 else bL n f l (jn (lst (bT n f (bV n f l) L s) 128) L) (s - pop 7 (lst (bT n f (bV n f l) L s) 128 &&& un n L)) (r - 1)
theorem bV_z {n f : Nat} {L : Nat → Nat} (h : op n L = 0) : ∀ l s, bV n f l L s = if s = 0 then 1 else 0
  | 0, s => by
    show (if op n L = 0 ∧ s = 0 then 1 else 0) = _
    simp only [h, true_and]
  | l + 1, s => if_pos h
theorem bV_s {n f l : Nat} {L : Nat → Nat} (h : ¬ op n L = 0) (s : Nat) : bV n f (l + 1) L s = sm (bT n f (bV n f l) L s) 128 := if_neg h
theorem bV_0 {n f : Nat} {L : Nat → Nat} (h : ¬ op n L = 0) (s : Nat) : bV n f 0 L s = 0 := if_neg (fun q => h q.1)
theorem bit01 (x k : Nat) : x / 2 ^ k % 2 = if x.testBit k = true then 1 else 0 := by
  rw [Nat.testBit_eq_decide_div_mod_eq]
  by_cases h : x / 2 ^ k % 2 = 1
  · rw [h]; rfl
  · rw [if_neg (by simpa using h)]; omega
theorem okR_iff {n m : Nat} {L : Nat → Nat} : m &&& op n L = m ↔ okR n L m := ⟨fun h => by rw [← h]; exact ad_row m, okR_and⟩
theorem vB_iff {n f m : Nat} {L : Nat → Nat} : vB n f L m = true ↔ m ≠ 0 ∧ okR n L m ∧ gst (fun p => ld m L n p) n ≤ f := by
  unfold vB
  rw [decide_eq_true_iff, okR_iff]
theorem vB_lt {n f m : Nat} {L : Nat → Nat} (hn : n ≤ 7) (h : vB n f L m = true) : m < 128 := Nat.lt_pow_two_of_testBit (n := 7) _ (fun i hi => by
  cases q : m.testBit i
  · rfl
  · have := ((vB_iff.mp h).2.1 i q).1; omega)
theorem vB_even {n f m : Nat} {L : Nat → Nat} (hL : okS n L) (h : vB n f L m = true) : m % 2 = 0 := by
  have b : m.testBit 0 = false := by
    cases q : m.testBit 0
    · rfl
    · have := ((vB_iff.mp h).2.1 0 q).2; have := (hL 0).1; omega
  have := bit01 m 0
  rw [b] at this
  simpa using this
theorem okS_jn {n m : Nat} {L : Nat → Nat} (h : okS n L) (hm : okR n L m) : okS n (jn m L) := fun i => by
  refine ⟨jn_le (fun i => (h i).1) i, fun q => ?_⟩
  have : m.testBit i = false := by
    cases t : m.testBit i
    · rfl
    · have := (hm i t).1; omega
  unfold jn
  rw [this]
  exact (h i).2 q
theorem sm_pos {g : Nat → Nat} : ∀ {n : Nat}, 0 < sm g n → ∃ m, m < n ∧ 0 < g m
  | 0, h => absurd h (Nat.lt_irrefl _)
  | n + 1, h => by
    have h : 0 < sm g n + g n := h
    by_cases c : 0 < g n
    · exact ⟨n, by omega, c⟩
    · obtain ⟨m, a, b⟩ := sm_pos (g := g) (n := n) (by omega)
      exact ⟨m, by omega, b⟩
theorem sm_0 {g : Nat → Nat} : ∀ {n : Nat}, (∀ m, m < n → g m = 0) → sm g n = 0
  | 0, _ => rfl
  | n + 1, h => by show sm g n + g n = 0; rw [sm_0 (fun m hm => h m (by omega)), h n (by omega)]
theorem bT_pos {n f s m : Nat} {g : (Nat → Nat) → Nat → Nat} {L : Nat → Nat} (h : 0 < bT n f g L s m) : vB n f L m = true ∧ pop 7 (m &&& un n L) ≤ s ∧ 0 < g (jn m L) (s - pop 7 (m &&& un n L)) := by
  unfold bT at h
  by_cases c : vB n f L m = true ∧ pop 7 (m &&& un n L) ≤ s
  · rw [if_pos c] at h; exact ⟨c.1, c.2, h⟩
  · rw [if_neg c] at h; exact absurd h (Nat.lt_irrefl _)
theorem bT_0 {n f s m : Nat} {g : (Nat → Nat) → Nat → Nat} {L : Nat → Nat} (h : ¬ vB n f L m = true) : bT n f g L s m = 0 := if_neg (fun q => h q.1)
/-- how many spare CELLS at most -/
theorem bV_le {n f : Nat} : ∀ {l : Nat} {L : Nat → Nat} {s : Nat}, 0 < bV n f l L s → s ≤ 7 * l
  | 0, L, s, h => by
    by_cases z : op n L = 0
    · rw [bV_z z] at h
      by_cases c : s = 0
      · omega
      · rw [if_neg c] at h; exact absurd h (Nat.lt_irrefl _)
    · rw [bV_0 z] at h; exact absurd h (Nat.lt_irrefl _)
  | l + 1, L, s, h => by
    by_cases z : op n L = 0
    · rw [bV_z z] at h
      by_cases c : s = 0
      · omega
      · rw [if_neg c] at h; exact absurd h (Nat.lt_irrefl _)
    · rw [bV_s z] at h
      obtain ⟨m, _, hm⟩ := sm_pos h
      obtain ⟨_, h2, h3⟩ := bT_pos hm
      have := bV_le h3
      have := pop_le 7 (m &&& un n L)
      omega
/-- how many NETS at most -/
theorem sm_even {g : Nat → Nat} : ∀ {k : Nat}, (∀ j, g (2 * j + 1) = 0) → sm g (2 * k) = sm (fun j => g (2 * j)) k
  | 0, _ => rfl
  | k + 1, h => by
    show sm g (2 * k) + g (2 * k) + g (2 * k + 1) = sm (fun j => g (2 * j)) k + g (2 * k)
    rw [sm_even h, h k]; rfl
theorem bT_odd {n f s : Nat} {g : (Nat → Nat) → Nat → Nat} {L : Nat → Nat} (hL : okS n L) (j : Nat) : bT n f g L s (2 * j + 1) = 0 := bT_0 (fun h => by have := vB_even hL h; omega)
theorem bV_most {n f : Nat} (hn : n ≤ 7) : ∀ {l : Nat} {L : Nat → Nat} {s : Nat}, okS n L → bV n f l L s ≤ 64 ^ l
  | 0, L, s, h => by
    show (if op n L = 0 ∧ s = 0 then 1 else 0) ≤ 1
    split <;> omega
  | l + 1, L, s, h => by
    by_cases z : op n L = 0
    · rw [bV_z z]
      have : 0 < 64 ^ (l + 1) := Nat.pow_pos (by decide)
      split <;> omega
    · rw [bV_s z, show 128 = 2 * 64 from rfl, sm_even (bT_odd h), Nat.pow_succ, Nat.mul_comm]
      refine sm_le (fun c _ => ?_)
      unfold bT
      by_cases q : vB n f L (2 * c) = true ∧ pop 7 (2 * c &&& un n L) ≤ s
      · rw [if_pos q]; exact bV_most hn (okS_jn h (vB_iff.mp q.1).2.1)
      · rw [if_neg q]; exact Nat.zero_le _
/-- the last ROW takes all that is open -/
theorem bT_last {n f s m : Nat} {L : Nat → Nat} (h : 0 < bT n f (bV n f 0) L s m) : m = op n L := by
  obtain ⟨h1, _, h3⟩ := bT_pos h
  have z : op n (jn m L) = 0 := by
    by_cases z : op n (jn m L) = 0
    · exact z
    · rw [bV_0 z] at h3; exact absurd h3 (Nat.lt_irrefl _)
  have ok := (vB_iff.mp h1).2.1
  refine Nat.eq_of_testBit_eq (fun i => ?_)
  cases q : m.testBit i
  · cases t : (op n L).testBit i
    · rfl
    · have t' := (op_bit n L i).mp t
      have : (op n (jn m L)).testBit i = true := (op_bit _ _ _).mpr ⟨t'.1, by unfold jn; rw [q]; exact t'.2⟩
      rw [z, Nat.zero_testBit] at this; exact absurd this (by decide)
  · exact ((op_bit n L i).mpr (ok i q)).symm
/-! chains -/
def cn (L : Nat → Nat) : Nat → Nat → Nat
  | 0, _ => 0
  | f + 1, i => if L i = 0 then 0 else 1 + cn L f (L i - 1)
theorem cn_eq {n : Nat} {L : Nat → Nat} (h : okS n L) : ∀ {f g i : Nat}, i ≤ f → i ≤ g → cn L f i = cn L g i
  | 0, 0, i, _, _ => rfl
  | 0, g + 1, i, a, _ => by
    have : L i = 0 := by have := (h i).1; omega
    show 0 = (if L i = 0 then 0 else _)
    rw [if_pos this]
  | f + 1, 0, i, _, b => by
    have : L i = 0 := by have := (h i).1; omega
    show (if L i = 0 then 0 else _) = 0
    rw [if_pos this]
  | f + 1, g + 1, i, a, b => by
    show (if L i = 0 then 0 else 1 + cn L f (L i - 1)) = (if L i = 0 then 0 else 1 + cn L g (L i - 1))
    by_cases c : L i = 0
    · rw [if_pos c, if_pos c]
    · have := (h i).1
      rw [if_neg c, if_neg c, cn_eq h (f := f) (g := g) (by omega) (by omega)]
def ck (L : Nat → Nat) (i : Nat) : Nat := cn L i i
theorem ck_0 {L : Nat → Nat} {i : Nat} (h : L i = 0) : ck L i = 0 := by
  unfold ck
  cases i with
  | zero => rfl
  | succ i => exact if_pos h
theorem ck_s {n : Nat} {L : Nat → Nat} (h : okS n L) {i : Nat} (hi : ¬ L i = 0) : ck L i = 1 + ck L (L i - 1) := by
  have := (h i).1
  unfold ck
  rw [cn_eq h (f := i) (g := (i - 1) + 1) (Nat.le_refl _) (by omega)]
  show (if L i = 0 then 0 else 1 + cn L (i - 1) (L i - 1)) = _
  rw [if_neg hi, cn_eq h (f := i - 1) (g := L i - 1) (by omega) (Nat.le_refl _)]
theorem ck_le {n : Nat} {L : Nat → Nat} (h : okS n L) : ∀ {b i : Nat}, i ≤ b → ck L i ≤ i
  | 0, i, hi => by
    have := (h i).1
    rw [ck_0 (by omega)]; omega
  | b + 1, i, hi => by
    by_cases c : L i = 0
    · rw [ck_0 c]; omega
    · have := (h i).1
      rw [ck_s h c]
      have := ck_le h (b := b) (i := L i - 1) (by omega)
      omega
theorem ck_half {n m : Nat} {L : Nat → Nat} (h : okS n L) (hm : okR n L m) : ∀ {b i : Nat}, i ≤ b → ck L i ≤ 2 * ck (jn m L) i + 1
  | 0, i, hi => by
    have := (h i).1
    rw [ck_0 (by omega)]; omega
  | b + 1, i, hi => by
    have h' := okS_jn h hm
    by_cases c : L i = 0
    · rw [ck_0 c]; omega
    have li := (h i).1
    rw [ck_s h c]
    cases q : m.testBit i
    · have e : jn m L i = L i := by unfold jn; rw [q]; rfl
      have := ck_half h hm (b := b) (i := L i - 1) (by omega)
      rw [ck_s h' (i := i) (by rw [e]; exact c), e]; omega
    · have e : jn m L i = L (L i - 1) := by unfold jn; rw [q]; rfl
      by_cases c2 : L (L i - 1) = 0
      · rw [ck_0 c2]; omega
      · have l2 := (h (L i - 1)).1
        rw [ck_s h c2, ck_s h' (i := i) (by rw [e]; exact c2), e]
        have := ck_half h hm (b := b) (i := L (L i - 1) - 1) (by omega)
        omega
theorem bV_chain {n f : Nat} : ∀ {l : Nat} {L : Nat → Nat} {s : Nat}, okS n L → 0 < bV n f l L s → ∀ i, i < n → ck L i < 2 ^ l
  | l, L, s, h, hp, i, hi => by
    by_cases z : op n L = 0
    · have : L i = 0 := by
        by_cases c : L i = 0
        · exact c
        · have t := (op_bit n L i).mpr ⟨hi, by omega⟩
          rw [z, Nat.zero_testBit] at t; exact absurd t (by decide)
      rw [ck_0 this]; exact Nat.pow_pos (by decide)
    · cases l with
      | zero => rw [bV_0 z] at hp; exact absurd hp (Nat.lt_irrefl _)
      | succ l =>
        rw [bV_s z] at hp
        obtain ⟨m, _, hm⟩ := sm_pos hp
        obtain ⟨h1, _, h3⟩ := bT_pos hm
        have ok := (vB_iff.mp h1).2.1
        have a := bV_chain (okS_jn h ok) h3 i hi
        have b := ck_half h ok (Nat.le_refl i)
        rw [Nat.pow_succ]; omega
/-! CELLS counted -/
theorem op_b (n : Nat) (L : Nat → Nat) (i : Nat) : (op n L).testBit i = (decide (i < n) && decide (0 < L i)) := mk_bit _ _ _
theorem un_b (n : Nat) (L : Nat → Nat) (i : Nat) : (un n L).testBit i = (decide (i < n) && (decide (0 < L i) && decide (0 < L (L i - 1)))) := mk_bit _ _ _
theorem pops {n m : Nat} {L : Nat → Nat} (hm : okR n L m) : pop 7 m + pop 7 (op n (jn m L)) = pop 7 (op n L) + pop 7 (m &&& un n L) := by
  unfold pop
  refine sm_add2 (fun i _ => ?_)
  rw [bit01, bit01, bit01, bit01, Nat.testBit_and, op_b, op_b, un_b]
  unfold jn
  cases q : m.testBit i
  · simp
  · have := hm i q
    simp [this.1, this.2]
/-! the first that is not 0 -/
theorem lst_lt {g : Nat → Nat} : ∀ {k : Nat}, 0 < sm g k → lst g k < k ∧ 0 < g (lst g k) ∧ ∀ j, j < lst g k → g j = 0
  | 0, h => absurd h (Nat.lt_irrefl _)
  | k + 1, h => by
    have h : 0 < sm g k + g k := h
    by_cases c : 0 < sm g k
    · have e : lst g (k + 1) = lst g k := if_pos c
      obtain ⟨a, b, d⟩ := lst_lt c
      rw [e]; exact ⟨by omega, b, d⟩
    · have e : lst g (k + 1) = k := if_neg c
      rw [e]
      refine ⟨by omega, by omega, fun j hj => ?_⟩
      have : g j ≤ sm g k := le_sm hj
      omega
theorem lst_is {g : Nat → Nat} {k m : Nat} (hm : m < k) (h : 0 < g m) (h0 : ∀ j, j < m → g j = 0) : lst g k = m := by
  obtain ⟨a, b, c⟩ := lst_lt (g := g) (k := k) (Nat.lt_of_lt_of_le h (le_sm hm))
  by_cases q : m < lst g k
  · have := c m q; omega
  · by_cases q2 : lst g k < m
    · have := h0 _ q2; omega
    · omega
theorem lst_more {g : Nat → Nat} {k j : Nat} (h : 0 < sm g k) (hj : k ≤ j) : lst g j = lst g k := by
  obtain ⟨a, b, c⟩ := lst_lt h
  exact lst_is (by omega) b c
end BESTM

/-! tools: loops, frames, cells -/
section TOOLS
theorem loopI1 {A1 : Type} (W : Int32 → A1 → Prop) (I : Nat → A1 → Prop) (e : Nat) (hx : ∀ (a1 : A1), I e a1 → W (nI e) a1) (hs : ∀ (i : Nat) (a1 : A1), i < e → I i a1 → (∀ (b1 : A1), I (i + 1) b1 → W (nI i + 1) b1) → W (nI i) a1) : ∀ (i : Nat) (a1 : A1), i ≤ e → I i a1 → W (nI i) a1 := by
  have key : ∀ (n i : Nat) (a1 : A1), i + n = e → I i a1 → W (nI i) a1 := by
    intro n
    induction n with
    | zero => intro i a1 h hi; have : i = e := by omega
              subst this; exact hx a1 hi
    | succ n ih => intro i a1 h hi; exact hs i a1 (by omega) hi (fun b1 h' => by rw [← nI_succ]; exact ih (i + 1) b1 (by omega) h')
  intro i a1 h hi
  exact key (e - i) i a1 (by omega) hi
theorem loopD1 {A1 : Type} (W : Int32 → A1 → Prop) (I : Nat → A1 → Prop) (hx : ∀ (a1 : A1), I 0 a1 → W (-1) a1) (hs : ∀ (i : Nat) (a1 : A1), I (i + 1) a1 → (∀ (b1 : A1), I i b1 → W (nI i + (-1)) b1) → W (nI i) a1) : ∀ (i : Nat) (a1 : A1), I i a1 → W (nI i + (-1)) a1 := by
  intro i
  induction i with
  | zero => intro a1 hi; exact hx a1 hi
  | succ n ih => intro a1 hi; rw [pk_m1]; exact hs n a1 hi ih
theorem loopM1 {A1 : Type} (W : A1 → Prop) (I : A1 → Prop) (μ : A1 → Nat) (hs : ∀ (a1 : A1), I a1 → (∀ (b1 : A1), I b1 → μ b1 < μ a1 → W b1) → W a1) : ∀ (a1 : A1), I a1 → W a1 := by
  have key : ∀ (n : Nat) (a1 : A1), μ a1 < n → I a1 → W a1 := by
    intro n
    induction n with
    | zero => intro a1 h; omega
    | succ n ih => intro a1 h hi; exact hs a1 hi (fun b1 h' hl => ih b1 (by omega) h')
  exact fun a1 hi => key (μ a1 + 1) a1 (by omega) hi
theorem loopI2 {A1 A2 : Type} (W : Int32 → A1 → A2 → Prop) (I : Nat → A1 → A2 → Prop) (e : Nat) (hx : ∀ (a1 : A1) (a2 : A2), I e a1 a2 → W (nI e) a1 a2) (hs : ∀ (i : Nat) (a1 : A1) (a2 : A2), i < e → I i a1 a2 → (∀ (b1 : A1) (b2 : A2), I (i + 1) b1 b2 → W (nI i + 1) b1 b2) → W (nI i) a1 a2) : ∀ (i : Nat) (a1 : A1) (a2 : A2), i ≤ e → I i a1 a2 → W (nI i) a1 a2 := by
  have key : ∀ (n i : Nat) (a1 : A1) (a2 : A2), i + n = e → I i a1 a2 → W (nI i) a1 a2 := by
    intro n
    induction n with
    | zero => intro i a1 a2 h hi; have : i = e := by omega
              subst this; exact hx a1 a2 hi
    | succ n ih => intro i a1 a2 h hi; exact hs i a1 a2 (by omega) hi (fun b1 b2 h' => by rw [← nI_succ]; exact ih (i + 1) b1 b2 (by omega) h')
  intro i a1 a2 h hi
  exact key (e - i) i a1 a2 (by omega) hi
theorem loopD2 {A1 A2 : Type} (W : Int32 → A1 → A2 → Prop) (I : Nat → A1 → A2 → Prop) (hx : ∀ (a1 : A1) (a2 : A2), I 0 a1 a2 → W (-1) a1 a2) (hs : ∀ (i : Nat) (a1 : A1) (a2 : A2), I (i + 1) a1 a2 → (∀ (b1 : A1) (b2 : A2), I i b1 b2 → W (nI i + (-1)) b1 b2) → W (nI i) a1 a2) : ∀ (i : Nat) (a1 : A1) (a2 : A2), I i a1 a2 → W (nI i + (-1)) a1 a2 := by
  intro i
  induction i with
  | zero => intro a1 a2 hi; exact hx a1 a2 hi
  | succ n ih => intro a1 a2 hi; rw [pk_m1]; exact hs n a1 a2 hi ih
theorem loopM2 {A1 A2 : Type} (W : A1 → A2 → Prop) (I : A1 → A2 → Prop) (μ : A1 → A2 → Nat) (hs : ∀ (a1 : A1) (a2 : A2), I a1 a2 → (∀ (b1 : A1) (b2 : A2), I b1 b2 → μ b1 b2 < μ a1 a2 → W b1 b2) → W a1 a2) : ∀ (a1 : A1) (a2 : A2), I a1 a2 → W a1 a2 := by
  have key : ∀ (n : Nat) (a1 : A1) (a2 : A2), μ a1 a2 < n → I a1 a2 → W a1 a2 := by
    intro n
    induction n with
    | zero => intro a1 a2 h; omega
    | succ n ih => intro a1 a2 h hi; exact hs a1 a2 hi (fun b1 b2 h' hl => ih b1 b2 (by omega) h')
  exact fun a1 a2 hi => key (μ a1 a2 + 1) a1 a2 (by omega) hi
theorem loopI3 {A1 A2 A3 : Type} (W : Int32 → A1 → A2 → A3 → Prop) (I : Nat → A1 → A2 → A3 → Prop) (e : Nat) (hx : ∀ (a1 : A1) (a2 : A2) (a3 : A3), I e a1 a2 a3 → W (nI e) a1 a2 a3) (hs : ∀ (i : Nat) (a1 : A1) (a2 : A2) (a3 : A3), i < e → I i a1 a2 a3 → (∀ (b1 : A1) (b2 : A2) (b3 : A3), I (i + 1) b1 b2 b3 → W (nI i + 1) b1 b2 b3) → W (nI i) a1 a2 a3) : ∀ (i : Nat) (a1 : A1) (a2 : A2) (a3 : A3), i ≤ e → I i a1 a2 a3 → W (nI i) a1 a2 a3 := by
  have key : ∀ (n i : Nat) (a1 : A1) (a2 : A2) (a3 : A3), i + n = e → I i a1 a2 a3 → W (nI i) a1 a2 a3 := by
    intro n
    induction n with
    | zero => intro i a1 a2 a3 h hi; have : i = e := by omega
              subst this; exact hx a1 a2 a3 hi
    | succ n ih => intro i a1 a2 a3 h hi; exact hs i a1 a2 a3 (by omega) hi (fun b1 b2 b3 h' => by rw [← nI_succ]; exact ih (i + 1) b1 b2 b3 (by omega) h')
  intro i a1 a2 a3 h hi
  exact key (e - i) i a1 a2 a3 (by omega) hi
theorem loopD3 {A1 A2 A3 : Type} (W : Int32 → A1 → A2 → A3 → Prop) (I : Nat → A1 → A2 → A3 → Prop) (hx : ∀ (a1 : A1) (a2 : A2) (a3 : A3), I 0 a1 a2 a3 → W (-1) a1 a2 a3) (hs : ∀ (i : Nat) (a1 : A1) (a2 : A2) (a3 : A3), I (i + 1) a1 a2 a3 → (∀ (b1 : A1) (b2 : A2) (b3 : A3), I i b1 b2 b3 → W (nI i + (-1)) b1 b2 b3) → W (nI i) a1 a2 a3) : ∀ (i : Nat) (a1 : A1) (a2 : A2) (a3 : A3), I i a1 a2 a3 → W (nI i + (-1)) a1 a2 a3 := by
  intro i
  induction i with
  | zero => intro a1 a2 a3 hi; exact hx a1 a2 a3 hi
  | succ n ih => intro a1 a2 a3 hi; rw [pk_m1]; exact hs n a1 a2 a3 hi ih
theorem loopM3 {A1 A2 A3 : Type} (W : A1 → A2 → A3 → Prop) (I : A1 → A2 → A3 → Prop) (μ : A1 → A2 → A3 → Nat) (hs : ∀ (a1 : A1) (a2 : A2) (a3 : A3), I a1 a2 a3 → (∀ (b1 : A1) (b2 : A2) (b3 : A3), I b1 b2 b3 → μ b1 b2 b3 < μ a1 a2 a3 → W b1 b2 b3) → W a1 a2 a3) : ∀ (a1 : A1) (a2 : A2) (a3 : A3), I a1 a2 a3 → W a1 a2 a3 := by
  have key : ∀ (n : Nat) (a1 : A1) (a2 : A2) (a3 : A3), μ a1 a2 a3 < n → I a1 a2 a3 → W a1 a2 a3 := by
    intro n
    induction n with
    | zero => intro a1 a2 a3 h; omega
    | succ n ih => intro a1 a2 a3 h hi; exact hs a1 a2 a3 hi (fun b1 b2 b3 h' hl => ih b1 b2 b3 (by omega) h')
  exact fun a1 a2 a3 hi => key (μ a1 a2 a3 + 1) a1 a2 a3 (by omega) hi
theorem loopI4 {A1 A2 A3 A4 : Type} (W : Int32 → A1 → A2 → A3 → A4 → Prop) (I : Nat → A1 → A2 → A3 → A4 → Prop) (e : Nat) (hx : ∀ (a1 : A1) (a2 : A2) (a3 : A3) (a4 : A4), I e a1 a2 a3 a4 → W (nI e) a1 a2 a3 a4) (hs : ∀ (i : Nat) (a1 : A1) (a2 : A2) (a3 : A3) (a4 : A4), i < e → I i a1 a2 a3 a4 → (∀ (b1 : A1) (b2 : A2) (b3 : A3) (b4 : A4), I (i + 1) b1 b2 b3 b4 → W (nI i + 1) b1 b2 b3 b4) → W (nI i) a1 a2 a3 a4) : ∀ (i : Nat) (a1 : A1) (a2 : A2) (a3 : A3) (a4 : A4), i ≤ e → I i a1 a2 a3 a4 → W (nI i) a1 a2 a3 a4 := by
  have key : ∀ (n i : Nat) (a1 : A1) (a2 : A2) (a3 : A3) (a4 : A4), i + n = e → I i a1 a2 a3 a4 → W (nI i) a1 a2 a3 a4 := by
    intro n
    induction n with
    | zero => intro i a1 a2 a3 a4 h hi; have : i = e := by omega
              subst this; exact hx a1 a2 a3 a4 hi
    | succ n ih => intro i a1 a2 a3 a4 h hi; exact hs i a1 a2 a3 a4 (by omega) hi (fun b1 b2 b3 b4 h' => by rw [← nI_succ]; exact ih (i + 1) b1 b2 b3 b4 (by omega) h')
  intro i a1 a2 a3 a4 h hi
  exact key (e - i) i a1 a2 a3 a4 (by omega) hi
theorem loopD4 {A1 A2 A3 A4 : Type} (W : Int32 → A1 → A2 → A3 → A4 → Prop) (I : Nat → A1 → A2 → A3 → A4 → Prop) (hx : ∀ (a1 : A1) (a2 : A2) (a3 : A3) (a4 : A4), I 0 a1 a2 a3 a4 → W (-1) a1 a2 a3 a4) (hs : ∀ (i : Nat) (a1 : A1) (a2 : A2) (a3 : A3) (a4 : A4), I (i + 1) a1 a2 a3 a4 → (∀ (b1 : A1) (b2 : A2) (b3 : A3) (b4 : A4), I i b1 b2 b3 b4 → W (nI i + (-1)) b1 b2 b3 b4) → W (nI i) a1 a2 a3 a4) : ∀ (i : Nat) (a1 : A1) (a2 : A2) (a3 : A3) (a4 : A4), I i a1 a2 a3 a4 → W (nI i + (-1)) a1 a2 a3 a4 := by
  intro i
  induction i with
  | zero => intro a1 a2 a3 a4 hi; exact hx a1 a2 a3 a4 hi
  | succ n ih => intro a1 a2 a3 a4 hi; rw [pk_m1]; exact hs n a1 a2 a3 a4 hi ih
theorem loopM4 {A1 A2 A3 A4 : Type} (W : A1 → A2 → A3 → A4 → Prop) (I : A1 → A2 → A3 → A4 → Prop) (μ : A1 → A2 → A3 → A4 → Nat) (hs : ∀ (a1 : A1) (a2 : A2) (a3 : A3) (a4 : A4), I a1 a2 a3 a4 → (∀ (b1 : A1) (b2 : A2) (b3 : A3) (b4 : A4), I b1 b2 b3 b4 → μ b1 b2 b3 b4 < μ a1 a2 a3 a4 → W b1 b2 b3 b4) → W a1 a2 a3 a4) : ∀ (a1 : A1) (a2 : A2) (a3 : A3) (a4 : A4), I a1 a2 a3 a4 → W a1 a2 a3 a4 := by
  have key : ∀ (n : Nat) (a1 : A1) (a2 : A2) (a3 : A3) (a4 : A4), μ a1 a2 a3 a4 < n → I a1 a2 a3 a4 → W a1 a2 a3 a4 := by
    intro n
    induction n with
    | zero => intro a1 a2 a3 a4 h; omega
    | succ n ih => intro a1 a2 a3 a4 h hi; exact hs a1 a2 a3 a4 hi (fun b1 b2 b3 b4 h' hl => ih b1 b2 b3 b4 (by omega) h')
  exact fun a1 a2 a3 a4 hi => key (μ a1 a2 a3 a4 + 1) a1 a2 a3 a4 (by omega) hi
theorem loopI5 {A1 A2 A3 A4 A5 : Type} (W : Int32 → A1 → A2 → A3 → A4 → A5 → Prop) (I : Nat → A1 → A2 → A3 → A4 → A5 → Prop) (e : Nat) (hx : ∀ (a1 : A1) (a2 : A2) (a3 : A3) (a4 : A4) (a5 : A5), I e a1 a2 a3 a4 a5 → W (nI e) a1 a2 a3 a4 a5) (hs : ∀ (i : Nat) (a1 : A1) (a2 : A2) (a3 : A3) (a4 : A4) (a5 : A5), i < e → I i a1 a2 a3 a4 a5 → (∀ (b1 : A1) (b2 : A2) (b3 : A3) (b4 : A4) (b5 : A5), I (i + 1) b1 b2 b3 b4 b5 → W (nI i + 1) b1 b2 b3 b4 b5) → W (nI i) a1 a2 a3 a4 a5) : ∀ (i : Nat) (a1 : A1) (a2 : A2) (a3 : A3) (a4 : A4) (a5 : A5), i ≤ e → I i a1 a2 a3 a4 a5 → W (nI i) a1 a2 a3 a4 a5 := by
  have key : ∀ (n i : Nat) (a1 : A1) (a2 : A2) (a3 : A3) (a4 : A4) (a5 : A5), i + n = e → I i a1 a2 a3 a4 a5 → W (nI i) a1 a2 a3 a4 a5 := by
    intro n
    induction n with
    | zero => intro i a1 a2 a3 a4 a5 h hi; have : i = e := by omega
              subst this; exact hx a1 a2 a3 a4 a5 hi
    | succ n ih => intro i a1 a2 a3 a4 a5 h hi; exact hs i a1 a2 a3 a4 a5 (by omega) hi (fun b1 b2 b3 b4 b5 h' => by rw [← nI_succ]; exact ih (i + 1) b1 b2 b3 b4 b5 (by omega) h')
  intro i a1 a2 a3 a4 a5 h hi
  exact key (e - i) i a1 a2 a3 a4 a5 (by omega) hi
theorem loopD5 {A1 A2 A3 A4 A5 : Type} (W : Int32 → A1 → A2 → A3 → A4 → A5 → Prop) (I : Nat → A1 → A2 → A3 → A4 → A5 → Prop) (hx : ∀ (a1 : A1) (a2 : A2) (a3 : A3) (a4 : A4) (a5 : A5), I 0 a1 a2 a3 a4 a5 → W (-1) a1 a2 a3 a4 a5) (hs : ∀ (i : Nat) (a1 : A1) (a2 : A2) (a3 : A3) (a4 : A4) (a5 : A5), I (i + 1) a1 a2 a3 a4 a5 → (∀ (b1 : A1) (b2 : A2) (b3 : A3) (b4 : A4) (b5 : A5), I i b1 b2 b3 b4 b5 → W (nI i + (-1)) b1 b2 b3 b4 b5) → W (nI i) a1 a2 a3 a4 a5) : ∀ (i : Nat) (a1 : A1) (a2 : A2) (a3 : A3) (a4 : A4) (a5 : A5), I i a1 a2 a3 a4 a5 → W (nI i + (-1)) a1 a2 a3 a4 a5 := by
  intro i
  induction i with
  | zero => intro a1 a2 a3 a4 a5 hi; exact hx a1 a2 a3 a4 a5 hi
  | succ n ih => intro a1 a2 a3 a4 a5 hi; rw [pk_m1]; exact hs n a1 a2 a3 a4 a5 hi ih
theorem loopM5 {A1 A2 A3 A4 A5 : Type} (W : A1 → A2 → A3 → A4 → A5 → Prop) (I : A1 → A2 → A3 → A4 → A5 → Prop) (μ : A1 → A2 → A3 → A4 → A5 → Nat) (hs : ∀ (a1 : A1) (a2 : A2) (a3 : A3) (a4 : A4) (a5 : A5), I a1 a2 a3 a4 a5 → (∀ (b1 : A1) (b2 : A2) (b3 : A3) (b4 : A4) (b5 : A5), I b1 b2 b3 b4 b5 → μ b1 b2 b3 b4 b5 < μ a1 a2 a3 a4 a5 → W b1 b2 b3 b4 b5) → W a1 a2 a3 a4 a5) : ∀ (a1 : A1) (a2 : A2) (a3 : A3) (a4 : A4) (a5 : A5), I a1 a2 a3 a4 a5 → W a1 a2 a3 a4 a5 := by
  have key : ∀ (n : Nat) (a1 : A1) (a2 : A2) (a3 : A3) (a4 : A4) (a5 : A5), μ a1 a2 a3 a4 a5 < n → I a1 a2 a3 a4 a5 → W a1 a2 a3 a4 a5 := by
    intro n
    induction n with
    | zero => intro a1 a2 a3 a4 a5 h; omega
    | succ n ih => intro a1 a2 a3 a4 a5 h hi; exact hs a1 a2 a3 a4 a5 hi (fun b1 b2 b3 b4 b5 h' hl => ih b1 b2 b3 b4 b5 (by omega) h')
  exact fun a1 a2 a3 a4 a5 hi => key (μ a1 a2 a3 a4 a5 + 1) a1 a2 a3 a4 a5 (by omega) hi
theorem loopI6 {A1 A2 A3 A4 A5 A6 : Type} (W : Int32 → A1 → A2 → A3 → A4 → A5 → A6 → Prop) (I : Nat → A1 → A2 → A3 → A4 → A5 → A6 → Prop) (e : Nat) (hx : ∀ (a1 : A1) (a2 : A2) (a3 : A3) (a4 : A4) (a5 : A5) (a6 : A6), I e a1 a2 a3 a4 a5 a6 → W (nI e) a1 a2 a3 a4 a5 a6) (hs : ∀ (i : Nat) (a1 : A1) (a2 : A2) (a3 : A3) (a4 : A4) (a5 : A5) (a6 : A6), i < e → I i a1 a2 a3 a4 a5 a6 → (∀ (b1 : A1) (b2 : A2) (b3 : A3) (b4 : A4) (b5 : A5) (b6 : A6), I (i + 1) b1 b2 b3 b4 b5 b6 → W (nI i + 1) b1 b2 b3 b4 b5 b6) → W (nI i) a1 a2 a3 a4 a5 a6) : ∀ (i : Nat) (a1 : A1) (a2 : A2) (a3 : A3) (a4 : A4) (a5 : A5) (a6 : A6), i ≤ e → I i a1 a2 a3 a4 a5 a6 → W (nI i) a1 a2 a3 a4 a5 a6 := by
  have key : ∀ (n i : Nat) (a1 : A1) (a2 : A2) (a3 : A3) (a4 : A4) (a5 : A5) (a6 : A6), i + n = e → I i a1 a2 a3 a4 a5 a6 → W (nI i) a1 a2 a3 a4 a5 a6 := by
    intro n
    induction n with
    | zero => intro i a1 a2 a3 a4 a5 a6 h hi; have : i = e := by omega
              subst this; exact hx a1 a2 a3 a4 a5 a6 hi
    | succ n ih => intro i a1 a2 a3 a4 a5 a6 h hi; exact hs i a1 a2 a3 a4 a5 a6 (by omega) hi (fun b1 b2 b3 b4 b5 b6 h' => by rw [← nI_succ]; exact ih (i + 1) b1 b2 b3 b4 b5 b6 (by omega) h')
  intro i a1 a2 a3 a4 a5 a6 h hi
  exact key (e - i) i a1 a2 a3 a4 a5 a6 (by omega) hi
theorem loopD6 {A1 A2 A3 A4 A5 A6 : Type} (W : Int32 → A1 → A2 → A3 → A4 → A5 → A6 → Prop) (I : Nat → A1 → A2 → A3 → A4 → A5 → A6 → Prop) (hx : ∀ (a1 : A1) (a2 : A2) (a3 : A3) (a4 : A4) (a5 : A5) (a6 : A6), I 0 a1 a2 a3 a4 a5 a6 → W (-1) a1 a2 a3 a4 a5 a6) (hs : ∀ (i : Nat) (a1 : A1) (a2 : A2) (a3 : A3) (a4 : A4) (a5 : A5) (a6 : A6), I (i + 1) a1 a2 a3 a4 a5 a6 → (∀ (b1 : A1) (b2 : A2) (b3 : A3) (b4 : A4) (b5 : A5) (b6 : A6), I i b1 b2 b3 b4 b5 b6 → W (nI i + (-1)) b1 b2 b3 b4 b5 b6) → W (nI i) a1 a2 a3 a4 a5 a6) : ∀ (i : Nat) (a1 : A1) (a2 : A2) (a3 : A3) (a4 : A4) (a5 : A5) (a6 : A6), I i a1 a2 a3 a4 a5 a6 → W (nI i + (-1)) a1 a2 a3 a4 a5 a6 := by
  intro i
  induction i with
  | zero => intro a1 a2 a3 a4 a5 a6 hi; exact hx a1 a2 a3 a4 a5 a6 hi
  | succ n ih => intro a1 a2 a3 a4 a5 a6 hi; rw [pk_m1]; exact hs n a1 a2 a3 a4 a5 a6 hi ih
theorem loopM6 {A1 A2 A3 A4 A5 A6 : Type} (W : A1 → A2 → A3 → A4 → A5 → A6 → Prop) (I : A1 → A2 → A3 → A4 → A5 → A6 → Prop) (μ : A1 → A2 → A3 → A4 → A5 → A6 → Nat) (hs : ∀ (a1 : A1) (a2 : A2) (a3 : A3) (a4 : A4) (a5 : A5) (a6 : A6), I a1 a2 a3 a4 a5 a6 → (∀ (b1 : A1) (b2 : A2) (b3 : A3) (b4 : A4) (b5 : A5) (b6 : A6), I b1 b2 b3 b4 b5 b6 → μ b1 b2 b3 b4 b5 b6 < μ a1 a2 a3 a4 a5 a6 → W b1 b2 b3 b4 b5 b6) → W a1 a2 a3 a4 a5 a6) : ∀ (a1 : A1) (a2 : A2) (a3 : A3) (a4 : A4) (a5 : A5) (a6 : A6), I a1 a2 a3 a4 a5 a6 → W a1 a2 a3 a4 a5 a6 := by
  have key : ∀ (n : Nat) (a1 : A1) (a2 : A2) (a3 : A3) (a4 : A4) (a5 : A5) (a6 : A6), μ a1 a2 a3 a4 a5 a6 < n → I a1 a2 a3 a4 a5 a6 → W a1 a2 a3 a4 a5 a6 := by
    intro n
    induction n with
    | zero => intro a1 a2 a3 a4 a5 a6 h; omega
    | succ n ih => intro a1 a2 a3 a4 a5 a6 h hi; exact hs a1 a2 a3 a4 a5 a6 hi (fun b1 b2 b3 b4 b5 b6 h' hl => ih b1 b2 b3 b4 b5 b6 (by omega) h')
  exact fun a1 a2 a3 a4 a5 a6 hi => key (μ a1 a2 a3 a4 a5 a6 + 1) a1 a2 a3 a4 a5 a6 (by omega) hi
/-- only these cells (and, of the reference's own cell 88, only these fields) may differ -/
def Fr (S F : List Nat) (σ σ' : St) : Prop := (∀ i, i ∉ S → i ≠ 88 → σ'.1 i = σ.1 i) ∧ (∀ k, k ∉ F → σ'.1 88 k = σ.1 88 k) ∧ ∀ i, i ∉ S → σ'.2 i = σ.2 i
theorem Fr.rf {S F : List Nat} {σ : St} : Fr S F σ σ := ⟨fun _ _ _ => rfl, fun _ _ => rfl, fun _ _ => rfl⟩
theorem Fr.tr {S F : List Nat} {σ σ1 σ2 : St} (h : Fr S F σ σ1) (h2 : Fr S F σ1 σ2) : Fr S F σ σ2 := ⟨fun i hi h8 => (h2.1 i hi h8).trans (h.1 i hi h8), fun i hi => (h2.2.1 i hi).trans (h.2.1 i hi), fun i hi => (h2.2.2 i hi).trans (h.2.2 i hi)⟩
theorem Fr.mono {S S' F F' : List Nat} {σ σ' : St} (h : Fr S F σ σ') (hs : ∀ i, i ∈ S → i ∈ S') (hf : ∀ i, i ∈ F → i ∈ F') : Fr S' F' σ σ' := ⟨fun i hi => h.1 i (fun q => hi (hs i q)), fun i hi => h.2.1 i (fun q => hi (hf i q)), fun i hi => h.2.2 i (fun q => hi (hs i q))⟩
theorem sA_ne {σ : St} {o i : Nat} {g : Nat → Int32} (h : i ≠ o) : (sA σ o g).1 i = σ.1 i := if_neg h
theorem sJ_ne {σ : St} {o i : Nat} {g : Nat → Int64} (h : i ≠ o) : (sJ σ o g).2 i = σ.2 i := if_neg h
theorem sA1 (σ : St) (o i : Nat) (g : Nat → Int32) : (sA σ o g).1 i = if i = o then g else σ.1 i := rfl
theorem sA2 (σ : St) (o : Nat) (g : Nat → Int32) : (sA σ o g).2 = σ.2 := rfl
theorem sJ1 (σ : St) (o : Nat) (g : Nat → Int64) : (sJ σ o g).1 = σ.1 := rfl
theorem sJ2 (σ : St) (o i : Nat) (g : Nat → Int64) : (sJ σ o g).2 i = if i = o then g else σ.2 i := rfl
theorem Fr.A {S F : List Nat} {σ : St} {o : Nat} {g : Nat → Int32} (h : o ∈ S) (h8 : o ≠ 88) : Fr S F σ (sA σ o g) := ⟨fun i hi _ => sA_ne (fun e => hi (e ▸ h)), fun k _ => by rw [sA_ne (fun e => h8 e.symm)], fun _ _ => rfl⟩
theorem Fr.J {S F : List Nat} {σ : St} {o : Nat} {g : Nat → Int64} (h : o ∈ S) : Fr S F σ (sJ σ o g) := ⟨fun _ _ _ => rfl, fun _ _ => rfl, fun i hi => sJ_ne (fun e => hi (e ▸ h))⟩
theorem upd_eq (f : Nat → Int32) (k : Nat) (x : Int32) (j : Nat) : upd f k x j = if j = k then x else f j := rfl
theorem updL_eq (f : Nat → Int64) (k : Nat) (x : Int64) (j : Nat) : vp_updL f k x j = if j = k then x else f j := rfl
theorem Fr.F {S F : List Nat} {σ : St} {k : Nat} {x : Int32} (h : k ∈ F) : Fr S F σ (sA σ 88 (upd (σ.1 88) k x)) := ⟨fun i _ h8 => sA_ne h8, fun j hj => by rw [sA_at, upd_eq, if_neg (fun e : j = k => hj (e ▸ h))], fun _ _ => rfl⟩
theorem Fr.tA {S F : List Nat} {σ σ1 : St} {o : Nat} {g : Nat → Int32} (h : Fr S F σ σ1) (ho : o ∈ S) (h8 : o ≠ 88) : Fr S F σ (sA σ1 o g) := h.tr (Fr.A ho h8)
theorem Fr.tJ {S F : List Nat} {σ σ1 : St} {o : Nat} {g : Nat → Int64} (h : Fr S F σ σ1) (ho : o ∈ S) : Fr S F σ (sJ σ1 o g) := h.tr (Fr.J ho)
theorem Fr.tF {S F : List Nat} {σ σ1 : St} {k : Nat} {x : Int32} (h : Fr S F σ σ1) (hk : k ∈ F) : Fr S F σ (sA σ1 88 (upd (σ1.1 88) k x)) := h.tr (Fr.F hk)
/-! numbers as they come from whole ones -/
def zI (z : Int) : Int32 := Int32.ofInt z
theorem zI_add (a b : Int) : zI (a + b) = zI a + zI b := Int32.ofInt_add a b
theorem zI_sub (a b : Int) : zI (a - b) = zI a - zI b := Int32.ofInt_sub a b
theorem zI_mul (a b : Int) : zI (a * b) = zI a * zI b := Int32.ofInt_mul a b
theorem zI_neg (a : Int) : zI (-a) = -zI a := Int32.ofInt_neg a
theorem nI_zI (n : Nat) : nI n = zI n := (Int32.ofInt_eq_ofNat).symm
theorem zI_toInt {z : Int} (h : -2147483648 ≤ z) (h2 : z < 2147483648) : (zI z).toInt = z := Int32.toInt_ofInt_of_le (by omega) (by omega)
theorem zI_lt {a b : Int} (h : -2147483648 ≤ a ∧ a < 2147483648) (h2 : -2147483648 ≤ b ∧ b < 2147483648) : zI a < zI b ↔ a < b := by rw [Int32.lt_iff_toInt_lt, zI_toInt h.1 h.2, zI_toInt h2.1 h2.2]
theorem zI_le {a b : Int} (h : -2147483648 ≤ a ∧ a < 2147483648) (h2 : -2147483648 ≤ b ∧ b < 2147483648) : zI a ≤ zI b ↔ a ≤ b := by rw [Int32.le_iff_toInt_le, zI_toInt h.1 h.2, zI_toInt h2.1 h2.2]
theorem zI_eq {a b : Int} (h : -2147483648 ≤ a ∧ a < 2147483648) (h2 : -2147483648 ≤ b ∧ b < 2147483648) : zI a = zI b ↔ a = b := by rw [← Int32.toInt_inj, zI_toInt h.1 h.2, zI_toInt h2.1 h2.2]
theorem zI_of (x : Int32) : x = zI x.toInt := (Int32.ofInt_toInt x).symm
theorem zl0 : (0 : Int32) = zI 0 := rfl
theorem zl1 : (1 : Int32) = zI 1 := rfl
theorem zl2 : (2 : Int32) = zI 2 := rfl
theorem zl3 : (3 : Int32) = zI 3 := rfl
theorem zl4 : (4 : Int32) = zI 4 := rfl
theorem zl5 : (5 : Int32) = zI 5 := rfl
theorem zl6 : (6 : Int32) = zI 6 := rfl
theorem zl7 : (7 : Int32) = zI 7 := rfl
theorem zl8 : (8 : Int32) = zI 8 := rfl
theorem zl9 : (9 : Int32) = zI 9 := rfl
theorem zl10 : (10 : Int32) = zI 10 := rfl
theorem zl11 : (11 : Int32) = zI 11 := rfl
theorem zl12 : (12 : Int32) = zI 12 := rfl
theorem zl13 : (13 : Int32) = zI 13 := rfl
theorem zl14 : (14 : Int32) = zI 14 := rfl
theorem zl15 : (15 : Int32) = zI 15 := rfl
theorem zl16 : (16 : Int32) = zI 16 := rfl
theorem zl24 : (24 : Int32) = zI 24 := rfl
theorem zl30 : (30 : Int32) = zI 30 := rfl
theorem zl31 : (31 : Int32) = zI 31 := rfl
theorem zl32 : (32 : Int32) = zI 32 := rfl
theorem zl48 : (48 : Int32) = zI 48 := rfl
theorem zl56 : (56 : Int32) = zI 56 := rfl
theorem zl57 : (57 : Int32) = zI 57 := rfl
theorem zl60 : (60 : Int32) = zI 60 := rfl
theorem zl63 : (63 : Int32) = zI 63 := rfl
theorem zl99 : (99 : Int32) = zI 99 := rfl
theorem zl100 : (100 : Int32) = zI 100 := rfl
theorem zl130 : (130 : Int32) = zI 130 := rfl
theorem zl199 : (199 : Int32) = zI 199 := rfl
theorem zl200 : (200 : Int32) = zI 200 := rfl
theorem zl240 : (240 : Int32) = zI 240 := rfl
theorem zl999 : (999 : Int32) = zI 999 := rfl
theorem zl1000 : (1000 : Int32) = zI 1000 := rfl
/-! small numbers -/
theorem lit_nI (n : Nat) : (OfNat.ofNat n : Int32) = nI n := rfl
theorem mx_nI {a b : Nat} (ha : a < 2 ^ 31) (hb : b < 2 ^ 31) : mxI (nI a) (nI b) = nI (max a b) := by
  unfold mxI
  by_cases h : a < b
  · rw [if_pos ((nI_ltI ha hb).mpr h), Nat.max_eq_right (by omega)]
  · rw [if_neg (fun q => h ((nI_ltI ha hb).mp q)), Nat.max_eq_left (by omega)]
theorem mn_nI {a b : Nat} (ha : a < 2 ^ 31) (hb : b < 2 ^ 31) : mnI (nI a) (nI b) = nI (min a b) := by
  unfold mnI
  by_cases h : b < a
  · rw [if_pos ((nI_ltI hb ha).mpr h), Nat.min_eq_right (by omega)]
  · rw [if_neg (fun q => h ((nI_ltI hb ha).mp q)), Nat.min_eq_left (by omega)]
theorem mx_sub {a b : Nat} (ha : a < 2 ^ 30) (hb : b < 2 ^ 30) : mxI 0 (nI a - nI b) = nI (a - b) := by
  by_cases h : b ≤ a
  · rw [pk_sub h, show (0 : Int32) = nI 0 from rfl, mx_nI (by omega) (by omega), Nat.max_eq_right (by omega)]
  · unfold mxI
    rw [if_neg (fun q => absurd (pk_sneg hb (by omega : a < b)) (by rw [i32_nlt, Int32.le_iff_toInt_le]; rw [Int32.lt_iff_toInt_lt] at q; omega)), Nat.sub_eq_zero_of_le (by omega)]
    rfl
theorem aG_in {a : Nat} {k n : Nat} {σ : St} (hn : ln a = n) (h : k < n) : aG a (nI k) σ = σ.1 a k := by
  have hl := ln_small a
  unfold aG
  rw [if_neg (nI_pos (by omega)), if_neg (nI_ge (by omega) (by omega)), nI_clamp (by omega)]
theorem aP_in {a : Nat} {k n : Nat} {v : Int32} {σ : St} (hn : ln a = n) (h : k < n) : aP a (nI k) v σ = sA σ a (upd (σ.1 a) k v) := by
  have hl := ln_small a
  unfold aP
  rw [if_neg (nI_pos (by omega)), if_neg (nI_ge (by omega) (by omega)), nI_clamp (by omega)]
/-- in(v, low, high) of ints -/
theorem in_i (x a b : Int32) : (a.toInt64 ≤ x.toInt64 ∧ x.toInt64 ≤ b.toInt64) ↔ (a ≤ x ∧ x ≤ b) := by rw [fa_wide_le, fa_wide_le]
/-- sums and greatest of a row -/
def gst (h : Nat → Nat) : Nat → Nat
  | 0 => 0
  | n + 1 => max (gst h n) (h n)
def sm (h : Nat → Nat) : Nat → Nat
  | 0 => 0
  | n + 1 => sm h n + h n
theorem gst_le {h : Nat → Nat} {b : Nat} : ∀ {n : Nat}, (∀ c, c < n → h c ≤ b) → gst h n ≤ b
  | 0, _ => Nat.zero_le _
  | n + 1, q => Nat.max_le.mpr ⟨gst_le (fun c hc => q c (by omega)), q n (by omega)⟩
theorem le_gst {h : Nat → Nat} : ∀ {n c : Nat}, c < n → h c ≤ gst h n
  | n + 1, c, q => by
    show h c ≤ max (gst h n) (h n)
    by_cases e : c = n
    · subst e; exact Nat.le_max_right _ _
    · exact Nat.le_trans (le_gst (by omega)) (Nat.le_max_left _ _)
theorem sm_le {h : Nat → Nat} {b : Nat} : ∀ {n : Nat}, (∀ c, c < n → h c ≤ b) → sm h n ≤ n * b
  | 0, _ => Nat.zero_le _
  | n + 1, q => by
    have h1 := sm_le (h := h) (b := b) (n := n) (fun c hc => q c (by omega))
    have h2 := q n (by omega)
    show sm h n + h n ≤ (n + 1) * b
    rw [Nat.succ_mul]; omega
theorem gst_cong {h g : Nat → Nat} : ∀ {n : Nat}, (∀ c, c < n → h c = g c) → gst h n = gst g n
  | 0, _ => rfl
  | n + 1, q => by show max _ _ = max _ _; rw [gst_cong (fun c hc => q c (by omega)), q n (by omega)]
theorem sm_cong {h g : Nat → Nat} : ∀ {n : Nat}, (∀ c, c < n → h c = g c) → sm h n = sm g n
  | 0, _ => rfl
  | n + 1, q => by show sm h n + h n = sm g n + g n; rw [sm_cong (fun c hc => q c (by omega)), q n (by omega)]
theorem tim20 : (-20 : Int32).toInt = -20 := rfl
theorem tjm20 : (-20 : Int64).toInt = -20 := rfl
theorem tim13 : (-13 : Int32).toInt = -13 := rfl
theorem tjm13 : (-13 : Int64).toInt = -13 := rfl
theorem tim12 : (-12 : Int32).toInt = -12 := rfl
theorem tjm12 : (-12 : Int64).toInt = -12 := rfl
theorem tim11 : (-11 : Int32).toInt = -11 := rfl
theorem tjm11 : (-11 : Int64).toInt = -11 := rfl
theorem tim10 : (-10 : Int32).toInt = -10 := rfl
theorem tjm10 : (-10 : Int64).toInt = -10 := rfl
theorem tim4 : (-4 : Int32).toInt = -4 := rfl
theorem tjm4 : (-4 : Int64).toInt = -4 := rfl
theorem tim3 : (-3 : Int32).toInt = -3 := rfl
theorem tjm3 : (-3 : Int64).toInt = -3 := rfl
theorem tim2 : (-2 : Int32).toInt = -2 := rfl
theorem tjm2 : (-2 : Int64).toInt = -2 := rfl
theorem tim1 : (-1 : Int32).toInt = -1 := rfl
theorem tjm1 : (-1 : Int64).toInt = -1 := rfl
theorem ti0 : (0 : Int32).toInt = 0 := rfl
theorem tj0 : (0 : Int64).toInt = 0 := rfl
theorem ti1 : (1 : Int32).toInt = 1 := rfl
theorem tj1 : (1 : Int64).toInt = 1 := rfl
theorem ti2 : (2 : Int32).toInt = 2 := rfl
theorem tj2 : (2 : Int64).toInt = 2 := rfl
theorem ti3 : (3 : Int32).toInt = 3 := rfl
theorem tj3 : (3 : Int64).toInt = 3 := rfl
theorem ti4 : (4 : Int32).toInt = 4 := rfl
theorem tj4 : (4 : Int64).toInt = 4 := rfl
theorem ti5 : (5 : Int32).toInt = 5 := rfl
theorem tj5 : (5 : Int64).toInt = 5 := rfl
theorem ti6 : (6 : Int32).toInt = 6 := rfl
theorem tj6 : (6 : Int64).toInt = 6 := rfl
theorem ti7 : (7 : Int32).toInt = 7 := rfl
theorem tj7 : (7 : Int64).toInt = 7 := rfl
theorem ti8 : (8 : Int32).toInt = 8 := rfl
theorem tj8 : (8 : Int64).toInt = 8 := rfl
theorem ti9 : (9 : Int32).toInt = 9 := rfl
theorem tj9 : (9 : Int64).toInt = 9 := rfl
theorem ti10 : (10 : Int32).toInt = 10 := rfl
theorem tj10 : (10 : Int64).toInt = 10 := rfl
theorem ti11 : (11 : Int32).toInt = 11 := rfl
theorem tj11 : (11 : Int64).toInt = 11 := rfl
theorem ti12 : (12 : Int32).toInt = 12 := rfl
theorem tj12 : (12 : Int64).toInt = 12 := rfl
theorem ti13 : (13 : Int32).toInt = 13 := rfl
theorem tj13 : (13 : Int64).toInt = 13 := rfl
theorem ti14 : (14 : Int32).toInt = 14 := rfl
theorem tj14 : (14 : Int64).toInt = 14 := rfl
theorem ti15 : (15 : Int32).toInt = 15 := rfl
theorem tj15 : (15 : Int64).toInt = 15 := rfl
theorem ti16 : (16 : Int32).toInt = 16 := rfl
theorem tj16 : (16 : Int64).toInt = 16 := rfl
theorem ti24 : (24 : Int32).toInt = 24 := rfl
theorem tj24 : (24 : Int64).toInt = 24 := rfl
theorem ti30 : (30 : Int32).toInt = 30 := rfl
theorem tj30 : (30 : Int64).toInt = 30 := rfl
theorem ti31 : (31 : Int32).toInt = 31 := rfl
theorem tj31 : (31 : Int64).toInt = 31 := rfl
theorem ti32 : (32 : Int32).toInt = 32 := rfl
theorem tj32 : (32 : Int64).toInt = 32 := rfl
theorem ti48 : (48 : Int32).toInt = 48 := rfl
theorem tj48 : (48 : Int64).toInt = 48 := rfl
theorem ti56 : (56 : Int32).toInt = 56 := rfl
theorem tj56 : (56 : Int64).toInt = 56 := rfl
theorem ti57 : (57 : Int32).toInt = 57 := rfl
theorem tj57 : (57 : Int64).toInt = 57 := rfl
theorem ti60 : (60 : Int32).toInt = 60 := rfl
theorem tj60 : (60 : Int64).toInt = 60 := rfl
theorem ti63 : (63 : Int32).toInt = 63 := rfl
theorem tj63 : (63 : Int64).toInt = 63 := rfl
theorem ti99 : (99 : Int32).toInt = 99 := rfl
theorem tj99 : (99 : Int64).toInt = 99 := rfl
theorem ti100 : (100 : Int32).toInt = 100 := rfl
theorem tj100 : (100 : Int64).toInt = 100 := rfl
theorem ti130 : (130 : Int32).toInt = 130 := rfl
theorem tj130 : (130 : Int64).toInt = 130 := rfl
theorem ti199 : (199 : Int32).toInt = 199 := rfl
theorem tj199 : (199 : Int64).toInt = 199 := rfl
theorem ti200 : (200 : Int32).toInt = 200 := rfl
theorem tj200 : (200 : Int64).toInt = 200 := rfl
theorem ti240 : (240 : Int32).toInt = 240 := rfl
theorem tj240 : (240 : Int64).toInt = 240 := rfl
theorem ti999 : (999 : Int32).toInt = 999 := rfl
theorem tj999 : (999 : Int64).toInt = 999 := rfl
theorem ti1000 : (1000 : Int32).toInt = 1000 := rfl
theorem tj1000 : (1000 : Int64).toInt = 1000 := rfl
theorem ti20 : (20 : Int32).toInt = 20 := rfl
theorem tj20 : (20 : Int64).toInt = 20 := rfl
theorem ti21 : (21 : Int32).toInt = 21 := rfl
theorem tj21 : (21 : Int64).toInt = 21 := rfl
theorem ti22 : (22 : Int32).toInt = 22 := rfl
theorem tj22 : (22 : Int64).toInt = 22 := rfl
theorem ti23 : (23 : Int32).toInt = 23 := rfl
theorem tj23 : (23 : Int64).toInt = 23 := rfl
theorem ti65535 : (65535 : Int32).toInt = 65535 := rfl
theorem tj65535 : (65535 : Int64).toInt = 65535 := rfl
theorem ti32767 : (32767 : Int32).toInt = 32767 := rfl
theorem tj32767 : (32767 : Int64).toInt = 32767 := rfl
theorem ti144 : (144 : Int32).toInt = 144 := rfl
theorem tj144 : (144 : Int64).toInt = 144 := rfl
/-- a call of the class and the same call of the reference answer alike; what may differ then -/
def PB (yc : MethodName) (Mc : Mt) (dc : Nat) (ym : MethodName) (Mm : Mt) (dm : Nat) (args : List Value) (σ : St) (S F : List Nat) (R : St → Prop) : Prop :=
  Ct yc Mc dc (.ref 0 :: args) σ (fun v σ1 => ∃ r, v = some r ∧ Ct ym Mm dm (.ref 88 :: args) σ1 (fun v2 σ2 => v2 = some r ∧ Fr S F σ σ2 ∧ R σ2))
theorem ofI {x : Int32} {n : Nat} (h0 : 0 ≤ x.toInt) (h1 : x.toInt < n) (hn : n < 2 ^ 31) : ∃ j, j < n ∧ x = nI j := vp_in_of (vp_in_iff.mpr ⟨h0, h1⟩) hn
end TOOLS

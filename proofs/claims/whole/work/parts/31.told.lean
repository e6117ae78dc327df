/-! TOLD -/
section TOLD
theorem fC_le (R : Nat → Nat) {n r : Nat} (hn : n ≤ 32) (hr : r ≤ 32) : fC R n r ≤ 32 * 32 := by
  unfold fC
  have := sm_le (h := fun q => sm (b1 (R q)) n) (b := 32) (n := r) (fun q _ => by
    have := sm_le (h := b1 (R q)) (b := 1) (n := n) (fun c _ => by unfold b1; split <;> omega)
    show sm (b1 (R q)) n ≤ 32
    omega)
  have : r * 32 ≤ 32 * 32 := Nat.mul_le_mul_right _ hr
  omega
theorem fW_le (R : Nat → Nat) {n r : Nat} (hn : n ≤ 32) (hr : r ≤ 32) : fW R n r ≤ 32 * 1056 := by
  unfold fW
  have t1 := sm_le (h := fun q => sm (wy (R q) (lw R q)) n) (b := 1056) (n := r) (fun q _ => by
    have := sm_le (h := wy (R q) (lw R q)) (b := 33) (n := n) (fun c hc => by have := wy_le (R q) (lw R q) c; omega)
    have : n * 33 ≤ 32 * 33 := Nat.mul_le_mul_right _ hn
    show sm (wy (R q) (lw R q)) n ≤ 1056
    omega)
  exact Nat.le_trans t1 (Nat.mul_le_mul_right _ hr)
theorem fL_le (R : Nat → Nat) {n : Nat} (hn : n ≤ 32) (r : Nat) : fL R n r ≤ 32 := gst_le (fun q _ => gst_le (fun c _ => by have := ld_le (R q) (lw R q) n c; omega))
theorem fG_le (R : Nat → Nat) {n : Nat} (hn : n ≤ 32) (r : Nat) : fG R n r ≤ 33 := gst_le (fun q _ => gst_le (fun c hc => by have := wy_le (R q) (lw R q) c; omega))
theorem fM_le (R : Nat → Nat) (r : Nat) : fM R r ≤ 32 := gst_le (fun q _ => gst_le (fun c _ => tcT_le (R q) (lw R q) (c + 1)))
def FJ : List Nat := [8, 9, 10, 11, 12, 13]
theorem tX4_look (d k n D : Nat) (R : Nat → Nat) (k8 : k < 8) (hok : okN n D R) (σ : St) (hc : cN k n D R σ) : Ct yX4_look MX4_look (d + 3) [.ref 8, .ref (32 + 6 * k)] σ (fun v σ' => v = none ∧ (σ'.1 8 0 = nI (fC R n D) ∧ σ'.1 8 1 = nI (fL R n D) ∧ σ'.1 8 2 = nI (fW R n D) ∧ σ'.1 8 3 = nI (fM R D) ∧ σ'.1 8 4 = nI (fG R n D)) ∧ Fr FJ [] σ σ') := by
  obtain ⟨c1, c2, c3, c4⟩ := hc
  obtain ⟨g1, g2, g3, g4⟩ := nt_a k k8
  have g5 := (nt_b k k8).2.2.2.2
  have n32 := hok.2.1
  have n2 := hok.1
  have D32 := hok.2.2.1
  have hrow := hok.2.2.2
  have o0 : ∀ s, Fr FJ [] σ s → s.1 (32 + 6 * k) 0 = nI n := fun s hF => by rw [hF.1 _ (by simp [FJ]; omega) (by omega)]; exact c1
  have o1 : ∀ s, Fr FJ [] σ s → s.1 (32 + 6 * k) 1 = nI D := fun s hF => by rw [hF.1 _ (by simp [FJ]; omega) (by omega)]; exact c2
  refine Ct.of mX4_look.1 (Nat.le_of_ble_eq_true rfl) (bX4_look_0 _ σ g2 ?_)
  have hF0 : Fr FJ [] σ (sA (sA (sA (sA (sA σ 8 (upd (σ.1 8) 0 0)) 8 (upd (upd (σ.1 8) 0 0) 1 0)) 8 (upd (upd (upd (σ.1 8) 0 0) 1 0) 2 0)) 8 (upd (upd (upd (upd (σ.1 8) 0 0) 1 0) 2 0) 3 0)) 8 (upd (upd (upd (upd (upd (σ.1 8) 0 0) 1 0) 2 0) 3 0) 4 0)) := ((((Fr.A (by decide) (by decide)).tA (by decide) (by decide)).tA (by decide) (by decide)).tA (by decide) (by decide)).tA (by decide) (by decide)
  rw [o0 _ hF0]
  refine (tX8_begin (d + 1) 9 n (by decide) n32 _).mono ?_
  rintro v s1 ⟨hv, hs1, hF1⟩
  rw [hv]
  refine bX4_look_36 _ s1 g2 ?_
  have e8 := hF1.1 8 (by decide) (by decide)
  refine loopI1 (fun x s => Run MX4_look (d + 3) 38 [some (.ref 8), some (.ref (32 + 6 * k)), some (.int x)] [] s _) (fun r s => Fr FJ [] σ s ∧ sL 9 s n (lw R r) ∧ (s.1 8 0 = nI (fC R n r) ∧ s.1 8 1 = nI (fL R n r) ∧ s.1 8 2 = nI (fW R n r) ∧ s.1 8 3 = nI (fM R r) ∧ s.1 8 4 = nI (fG R n r))) D ?_ ?_ 0 s1 (by omega) ⟨hF0.tr (hF1.mono (by decide) (by decide)), hs1, ?_⟩
  · intro s ⟨hF, hL, h8⟩
    exact bX4_look_38 _ (nI D) s g2 (fun _ => ⟨rfl, h8, hF⟩) (fun q => absurd q (by rw [o1 s hF]; exact nI_nlt (Nat.le_refl _) (by omega)))
  · intro r s hr ⟨hF, hL, h8⟩ ih
    refine bX4_look_38 _ (nI r) s g2 (fun q => absurd q (by rw [o1 s hF]; exact nI_ge hr (by omega))) (fun _ => ?_)
    have er : aG (gr (32 + 6 * k) 3) (nI r) s = nI (R r) := by
      rw [g4, aG_in g5 (by omega), hF.1 _ (by simp [FJ]; omega) (by omega)]; exact c4 r (by omega)
    rw [er]
    have okr := (hrow r hr).2
    refine (tX8_join (d + 1) 9 n (R r) (lw R r) (by decide) n32 (by omega) (lw_le R r) okr s hL).mono ?_
    rintro v2 s2 ⟨hv2, hL2, ht2, hl2, hF2⟩
    rw [hv2]
    have hF2' : Fr FJ [] σ s2 := hF.tr (hF2.mono (by decide) (by decide))
    have e82 : s2.1 8 = s.1 8 := hF2.1 8 (by decide) (by decide)
    refine bX4_look_58 _ _ s2 g2 ?_
    rw [o0 s2 hF2']
    have l1 := fC_le R n32 (show r ≤ 32 by omega)
    have l2 := fL_le R n32 r
    have l3 := fW_le R n32 (show r ≤ 32 by omega)
    have l4 := fM_le R r
    have l5 := fG_le R n32 r
    refine (tX4_lookAtCells d n (R r) (lw R r) (fC R n r) (fL R n r) (fW R n r) (fM R r) (fG R n r) n32 (lw_le R r) okr (by omega) (by omega) (by omega) (by omega) s2 (by rw [e82]; exact h8) ht2 hl2).mono ?_
    rintro v3 s3 ⟨hv3, ⟨a0, a1, a2, a3, a4⟩, h13, hF3⟩
    rw [hv3]
    have hF3' : Fr FJ [] σ s3 := hF2'.tr (hF3.mono (by decide) (by decide))
    refine bX4_look_66 _ _ s3 g2 ((tX4_lookAtTracks (d + 1) (R r) (lw R r) (fM R r) (by omega) (lw_le R r) (okR_32 n32 okr) s3 a3 h13).mono ?_)
    rintro v4 s4 ⟨hv4, b3, bk, hF4⟩
    rw [hv4]
    refine bX4_look_70 _ _ s4 g2 (ih s4 ⟨hF3'.tr (hF4.mono (by decide) (by decide)), ⟨?_, fun i hi => ?_⟩, ⟨?_, ?_, ?_, ?_, ?_⟩⟩)
    · rw [hF4.1 9 (by decide) (by decide), hF3.1 9 (by decide) (by decide)]; exact hL2.1
    · rw [hF4.1 _ (by decide) (by decide), hF3.1 _ (by decide) (by decide)]; exact hL2.2 i hi
    · rw [bk 0 (by decide), a0]; rfl
    · rw [bk 1 (by decide), a1]; rfl
    · rw [bk 2 (by decide), a2]; rfl
    · rw [b3]; rfl
    · rw [bk 4 (by decide), a4]; rfl
  · rw [e8]
    exact ⟨rfl, rfl, rfl, rfl, rfl⟩
theorem tk_b {m p i : Nat} {L : Nat → Nat} (hL : ∀ i, L i ≤ i) (hm : okR 32 L m) (hi : i < 32) (hp : p < 32) : ((¬ tk m L i = -4) ∧ tk m L i ≤ nI p) ↔ (m.testBit i = true ∧ L i ≤ p + 1) := by
  unfold tk
  have := hL i
  by_cases c : m.testBit i = true
  · have := (hm i c).2
    rw [if_pos c, nI_leI (by omega) (by omega)]
    exact ⟨fun q => ⟨c, by omega⟩, fun q => ⟨m4 (by omega), by omega⟩⟩
  · rw [if_neg c]
    exact ⟨fun q => absurd rfl q.1, fun q => absurd q.1 c⟩
theorem tX11_tracks (d m : Nat) (L : Nat → Nat) (hL : ∀ i, L i ≤ i) (hm : okR 32 L m) (σ : St) (hs : rT σ m L) : Ct yX11_tracks MX11_tracks d [.ref 88] σ (fun v σ' => v = some (.int (nI (gst (fun p => tcT m L (p + 1)) 31))) ∧ σ' = σ) := by
  refine Ct.of mX11_tracks.1 (Nat.le_of_ble_eq_true rfl) (bX11_tracks_0 σ ?_)
  refine loopI1 (fun x a => Run MX11_tracks d 4 [some (.ref 88), some (.int a), some (.int x), none, none] [] σ _) (fun j a => a = nI (gst (fun p => tcT m L (p + 1)) j)) 31 ?_ ?_ 0 0 (by omega) rfl
  · intro a ha
    exact bX11_tracks_4 a (nI 31) σ (fun _ => ⟨by rw [ha], rfl⟩) (fun q => absurd q (by decide))
  · intro p a hp ha ih
    refine bX11_tracks_4 a (nI p) σ (fun q => ?_) (fun _ => ?_)
    · rw [← nI_succ] at q; exact absurd q (nI_ge (show p + 1 < 32 by omega) (by decide))
    · rw [← nI_succ]
      refine loopI1 (fun x c => Run MX11_tracks d 19 [some (.ref 88), some (.int a), some (.int (nI p)), some (.int c), some (.int x)] [] σ _) (fun j c => p + 1 ≤ j ∧ c = nI (sm (fun i => if m.testBit i = true ∧ L i ≤ p + 1 ∧ p + 1 ≤ i then 1 else 0) j)) 32 ?_ ?_ (p + 1) 0 (by omega) ⟨Nat.le_refl _, ?_⟩
      · rintro c ⟨_, hc⟩
        refine bX11_tracks_19 a (nI p) c (nI 32) σ (fun q => absurd q (by decide)) (fun _ => ih _ ?_) (fun q => absurd q (by decide))
        have l1 := tcT_le m L (p + 1)
        have l2 : gst (fun p => tcT m L (p + 1)) p ≤ 32 := gst_le (fun c _ => tcT_le m L (c + 1))
        have ec : c = nI (tcT m L (p + 1)) := hc
        rw [ec, ha, mx_le', mx_nI (by omega) (by omega)]; rfl
      · rintro j c hj ⟨hpj, hc⟩ ih2
        refine bX11_tracks_19 a (nI p) c (nI j) σ (fun _ => vp_in_nI hj (by decide)) (fun q => absurd q (nI_ge hj (by decide))) (fun _ => ih2 _ ⟨by omega, ?_⟩)
        rw [nI_clamp (by omega), hs j hj, bI_iff (tk_b hL hm hj (by omega)), bI_nat, hc, nI_add]
        show nI _ = nI (_ + if m.testBit j = true ∧ L j ≤ p + 1 ∧ p + 1 ≤ j then 1 else 0)
        simp only [hpj, and_true]
      · show (0 : Int32) = nI (sm _ (p + 1))
        rw [sm_cong (g := fun _ => 0) (fun i hi => by rw [if_neg]; rintro ⟨_, _, c⟩; omega)]
        have : sm (fun _ => 0) (p + 1) = 0 := by have := sm_le (h := fun _ => 0) (b := 0) (n := p + 1) (fun _ _ => Nat.le_refl _); omega
        rw [this]; rfl
theorem tr31 (m : Nat) (L : Nat → Nat) : gst (fun p => tcT m L (p + 1)) 31 = gst (fun p => tcT m L (p + 1)) 32 := by
  show _ = max (gst (fun p => tcT m L (p + 1)) 31) (tcT m L (31 + 1))
  rw [tcT_32, Nat.max_zero]
theorem tk_wy {m i : Nat} {L : Nat → Nat} (hL : ∀ i, L i ≤ i) (hm : okR 32 L m) (hi : i < 32) : (if tk m L i = -4 then (0 : Int32) else nI i - tk m L i) = nI (wy m L i) := by
  unfold tk wy
  have := hL i
  by_cases c : m.testBit i = true
  · have := (hm i c).2
    rw [if_pos c, if_pos c, if_neg (m4 (by omega)), pk_sub (by omega)]
  · rw [if_neg c, if_neg c, if_pos rfl]; rfl
def rs (R : Nat → Nat) (n D : Nat) (x : Int32) : Int32 := if x = 0 then nI n else if x = 1 then nI D else if x = 2 then nI (fC R n D) else if x = 3 then bI (op n (lw R D) = 0) else if x = 4 then nI (fL R n D) else if x = 5 then nI (fW R n D) else if x = 6 then nI (fM R D) else if x = 7 then nI (fG R n D) else -1
theorem refTold (d k n D : Nat) (R : Nat → Nat) (x2 : Int32) (k8 : k < 8) (hok : okN n D R) (σ : St) (hm : mN k n D R σ) : Run MX11_told (d + 3) 105 [some (.ref 88), some (.int (nI k)), some (.int x2), some (.int 0), some (.int 0), some (.int 0), some (.int 0), some (.int 0), some (.int 0), none, none] [] σ (fun v σ' => v = some (.int (rs R n D x2)) ∧ Fr [93, 94, 96] [] σ σ') := by
  have n32 := hok.2.1
  have n2 := hok.1
  have D32 := hok.2.2.1
  have hrow := hok.2.2.2
  have kc : (nI k).toNatClampNeg = k := nI_clamp (by omega)
  have w89 : ∀ s, Fr [93, 94, 96] [] σ s → s.1 89 (nI k).toNatClampNeg = nI n := fun s hF => by rw [kc, hF.1 89 (by decide) (by decide)]; exact hm.1
  have w90 : ∀ s, Fr [93, 94, 96] [] σ s → s.1 90 (nI k).toNatClampNeg = nI D := fun s hF => by rw [kc, hF.1 90 (by decide) (by decide)]; exact hm.2.1
  have w91 : ∀ s, Fr [93, 94, 96] [] σ s → ∀ q, q < D → s.2 91 (32 * k + q) = lN (R q) := fun s hF q hq => by rw [hF.2.2 91 (by decide)]; exact hm.2.2 q hq
  refine loopI6 (fun x a b c e f s => Run MX11_told (d + 3) 105 [some (.ref 88), some (.int (nI k)), some (.int x2), some (.int a), some (.int b), some (.int c), some (.int e), some (.int f), some (.int x), none, none] [] s _) (fun r a b c e f s => a = nI (fC R n r) ∧ b = nI (fL R n r) ∧ c = nI (fW R n r) ∧ e = nI (fM R r) ∧ f = nI (fG R n r) ∧ Fr [93, 94, 96] [] σ s) D ?_ ?_ 0 0 0 0 0 0 σ (by omega) ⟨rfl, rfl, rfl, rfl, rfl, Fr.rf⟩
  · rintro a b c e f s ⟨ha, hb, hc, he, hf, hF⟩
    refine bX11_told_105 (nI k) x2 a b c e f (nI D) s (vp_in_nI k8 (by decide)) (fun _ q => ⟨?_, hF⟩) (fun _ q => ⟨?_, hF⟩) (fun _ q => ⟨?_, hF⟩) (fun _ q => ?_) (fun _ q => ⟨?_, hF⟩) (fun _ q => ⟨?_, hF⟩) (fun _ q => ⟨?_, hF⟩) (fun _ q => ⟨?_, hF⟩) (fun _ q => ⟨?_, hF⟩) (fun q => absurd q (by rw [w90 s hF]; exact nI_nlt (Nat.le_refl _) (by omega)))
    · rw [w89 s hF, q]; rfl
    · rw [w90 s hF, q]; rfl
    · rw [ha, q]; rfl
    · refine (tX11_isWhole d k D n R k8 hok s (by have := w89 s hF; rw [kc] at this; exact this) (by have := w90 s hF; rw [kc] at this; exact this) (w91 s hF)).mono ?_
      rintro v2 s2 ⟨hv2, hF2⟩
      rw [hv2]
      refine bX11_told_325 _ s2 ⟨?_, hF.tr (hF2.mono (by decide) (by decide))⟩
      rw [q]
      show some (Value.int (bI (¬ bI (op n (lw R D) = 0) = 0))) = some (Value.int (bI (op n (lw R D) = 0)))
      exact congrArg (fun z => some (Value.int z)) (bI_iff bI1)
    · rw [hb, q]; rfl
    · rw [hc, q]; rfl
    · rw [he, q]; rfl
    · rw [hf, q]; rfl
    · have : ∀ z : Int32, 0 ≤ z.toInt → z.toInt ≤ 7 → x2 ≠ z := fun z z1 z2 e => by rw [e] at q; omega
      unfold rs
      rw [if_neg (this 0 (by decide) (by decide)), if_neg (this 1 (by decide) (by decide)), if_neg (this 2 (by decide) (by decide)), if_neg (this 3 (by decide) (by decide)), if_neg (this 4 (by decide) (by decide)), if_neg (this 5 (by decide) (by decide)), if_neg (this 6 (by decide) (by decide)), if_neg (this 7 (by decide) (by decide))]
  · rintro r a b c e f s hr ⟨ha, hb, hc, he, hf, hF⟩ ih
    have nge : ¬ nI D ≤ nI r := nI_ge hr (by omega)
    refine bX11_told_105 (nI k) x2 a b c e f (nI r) s (vp_in_nI k8 (by decide)) (fun q => absurd q (by rw [w90 s hF]; exact nge)) (fun q => absurd q (by rw [w90 s hF]; exact nge)) (fun q => absurd q (by rw [w90 s hF]; exact nge)) (fun q => absurd q (by rw [w90 s hF]; exact nge)) (fun q => absurd q (by rw [w90 s hF]; exact nge)) (fun q => absurd q (by rw [w90 s hF]; exact nge)) (fun q => absurd q (by rw [w90 s hF]; exact nge)) (fun q => absurd q (by rw [w90 s hF]; exact nge)) (fun q => absurd q (by rw [w90 s hF]; exact nge)) (fun _ => ?_)
    refine (tX11_findTakes d k D r n R k8 hok hr s (w91 s hF)).mono ?_
    rintro v2 s2 ⟨hv2, hT2, hL2, hF2⟩
    rw [hv2]
    have hF2' : Fr [93, 94, 96] [] σ s2 := hF.tr hF2
    have okr := (hrow r hr).2
    have okr32 := okR_32 n32 okr
    have l1 := fC_le R n32 (show r ≤ 32 by omega)
    have l2 := fL_le R n32 r
    have l3 := fW_le R n32 (show r ≤ 32 by omega)
    have l4 := fM_le R r
    have l5 := fG_le R n32 r
    refine bX11_told_123 _ _ _ _ _ _ _ _ s2 ?_
    refine loopI4 (fun x a b c f => Run MX11_told (d + 3) 126 [some (.ref 88), some (.int (nI k)), some (.int x2), some (.int a), some (.int b), some (.int c), some (.int e), some (.int f), some (.int (nI r)), some (.int x), none] [] s2 _) (fun i a b c f => a = nI (fC R n r + sm (b1 (R r)) i) ∧ b = nI (max (fL R n r) (gst (ld (R r) (lw R r) n) i)) ∧ c = nI (fW R n r + sm (wy (R r) (lw R r)) i) ∧ f = nI (max (fG R n r) (gst (wy (R r) (lw R r)) i))) n ?_ ?_ 0 a b c f (by omega) ⟨ha, by rw [hb]; show _ = nI (max _ 0); rw [Nat.max_zero], hc, by rw [hf]; show _ = nI (max _ 0); rw [Nat.max_zero]⟩
    · rintro a b c f ⟨ha, hb, hc, hf⟩
      have tr : ∀ (s : Int32), s = nI (gst (fun p => tcT (R r) (lw R r) (p + 1)) 31) → Run MX11_told (d + 3) 105 [some (.ref 88), some (.int (nI k)), some (.int x2), some (.int a), some (.int b), some (.int c), some (.int (mxI e s)), some (.int f), some (.int (nI r + 1)), none, none] [] s2 (fun v σ' => v = some (.int (rs R n D x2)) ∧ Fr [93, 94, 96] [] σ σ') := by
        intro s hs
        refine ih _ _ _ _ _ _ ⟨ha, hb, hc, ?_, hf, hF2'⟩
        have l6 : gst (fun p => tcT (R r) (lw R r) (p + 1)) 32 ≤ 32 := gst_le (fun c _ => tcT_le (R r) (lw R r) (c + 1))
        rw [hs, he, tr31, mx_nI (by omega) (by omega)]; rfl
      refine bX11_told_126 (nI k) x2 a b c e f (nI r) (nI n) s2 (vp_in_nI k8 (by decide)) (fun q => absurd q (by rw [w89 s2 hF2']; exact nI_nlt (Nat.le_refl _) (by omega))) (fun _ => ?_) (fun q => absurd q (by rw [w89 s2 hF2']; exact nI_nlt (Nat.le_refl _) (by omega)))
      refine (tX11_tracks (d + 2) (R r) (lw R r) (lw_le R r) okr32 s2 hT2).mono ?_
      rintro v3 s3 ⟨hv3, hs3⟩
      rw [hv3, hs3]
      refine bX11_told_235 _ _ _ _ _ _ _ _ _ s2 (fun q => ?_) (fun q => ?_)
      · have t := tr _ rfl
        rw [← mx_le', if_pos q] at t; exact t
      · refine (tX11_tracks (d + 2) (R r) (lw R r) (lw_le R r) okr32 s2 hT2).mono ?_
        rintro v4 s4 ⟨hv4, hs4⟩
        rw [hv4, hs4]
        have t := tr _ rfl
        rw [← mx_le', if_neg (Int32.not_le.mpr q)] at t
        exact bX11_told_244 _ _ _ _ _ _ _ _ s2 t
    · rintro i a b c f hi ⟨ha, hb, hc, hf⟩ ih2
      have bl := ld_le (R r) (lw R r) n i
      have bw := wy_le (R r) (lw R r) i
      have g1 : gst (ld (R r) (lw R r) n) i ≤ 32 := gst_le (fun c _ => by have := ld_le (R r) (lw R r) n c; omega)
      have g2 : gst (wy (R r) (lw R r)) i ≤ 33 := gst_le (fun c hc => by have := wy_le (R r) (lw R r) c; omega)
      have ew := tk_wy (lw_le R r) okr32 (show i < 32 by omega)
      have lod : ∀ s : Int32, s = nI (ld (R r) (lw R r) 32 i) → Run MX11_told (d + 3) 126 [some (.ref 88), some (.int (nI k)), some (.int x2), some (.int (a + bI ((0 : Int32) < nI (wy (R r) (lw R r) i)))), some (.int (mxI b s)), some (.int (c + nI (wy (R r) (lw R r) i))), some (.int e), some (.int (if nI (wy (R r) (lw R r) i) ≤ f then f else nI (wy (R r) (lw R r) i))), some (.int (nI r)), some (.int (nI i + 1)), none] [] s2 (fun v σ' => v = some (.int (rs R n D x2)) ∧ Fr [93, 94, 96] [] σ σ') := by
        intro s hs
        refine ih2 _ _ _ _ ⟨?_, ?_, ?_, ?_⟩
        · have : ((0 : Int32) < nI (wy (R r) (lw R r) i)) ↔ (R r).testBit i = true := by
            rw [show (0 : Int32) = nI 0 from rfl, nI_ltI (by decide) (by omega)]
            unfold wy
            have := lw_le R r i
            by_cases c : (R r).testBit i = true
            · have := (okr i c).2
              rw [if_pos c]; exact ⟨fun _ => c, fun _ => by omega⟩
            · rw [if_neg c]; exact ⟨fun q => absurd q (by omega), fun q => absurd q c⟩
          rw [bI_iff this, bI_nat, ha, nI_add, Nat.add_assoc]; rfl
        · rw [hs, hb, ld_32 n32 okr, mx_nI (by omega) (by omega), Nat.max_assoc]; rfl
        · rw [hc, nI_add, Nat.add_assoc]; rfl
        · rw [mx_le', hf, mx_nI (by omega) (by omega), Nat.max_assoc]; rfl
      refine bX11_told_126 (nI k) x2 a b c e f (nI r) (nI i) s2 (vp_in_nI k8 (by decide)) (fun _ => vp_in_nI (by omega) (by decide)) (fun q => absurd q (by rw [w89 s2 hF2']; exact nI_ge hi (by omega))) (fun _ => ?_)
      rw [nI_clamp (show i < 2 ^ 31 by omega), hT2 i (by omega), ew]
      refine (tX11_loadOf (d + 2) i (R r) (lw R r) (lw_le R r) okr32 (by omega) s2 hT2).mono ?_
      rintro v3 s3 ⟨hv3, hs3⟩
      rw [hv3, hs3]
      refine bX11_told_207 _ _ _ _ _ _ _ _ _ _ s2 (fun q => ?_) (fun q => ?_)
      · have t := lod _ rfl
        rw [← mx_le' b, if_pos q] at t; exact t
      · refine (tX11_loadOf (d + 2) i (R r) (lw R r) (lw_le R r) okr32 (by omega) s2 hT2).mono ?_
        rintro v4 s4 ⟨hv4, hs4⟩
        rw [hv4, hs4]
        have t := lod _ rfl
        rw [← mx_le' b, if_neg (Int32.not_le.mpr q)] at t
        exact bX11_told_218 _ _ _ _ _ _ _ _ _ s2 t
end TOLD

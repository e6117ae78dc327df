/-! TEXT: class and reference -/
section TEXTQ
def TF : List Nat := [0, 10, 11, 12, 13, 14, 15, 16]
theorem SN2 {N : Nat} (hN : N < 8) : ∀ i, i ∈ (2 :: FN N) → i ∈ 2 :: SN := fun i hi => by
  rcases List.mem_cons.mp hi with rfl | hi
  · simp
  · exact List.mem_cons_of_mem _ (FN_SN N hN i hi)
theorem pub_text (d : Nat) (σ : St) (hR : RN σ) (hT : RT σ) : PB yX10_text MX10_text (d + 5) yX11_text MX11_text (d + 3) [] σ (2 :: SN) TF (fun s => RN s ∧ RT s) := by
  have hR0 := hR
  have hT0 := hT
  obtain ⟨N, hN, e1, e2, hk⟩ := hR
  obtain ⟨B, T, hB⟩ := hT.bytes
  refine Ct.of mX10_text.1 (Nat.le_of_ble_eq_true rfl) (bX10_text_0 σ (fun q => ?_) (fun q => ?_))
  · rw [e1] at q
    have hN8 : N < 8 := (nI_ltI (b := 8) (by omega) (by decide)).mp q.2
    have nin : ∀ i, i < 89 → i ∉ [91, 93, 94] := fun i hi => by simp; omega
    rw [e1, nI_clamp (by omega), (nt_a N hN8).1]
    refine (tX9_tells d N T B hN8 σ hB).mono ?_
    rintro v s ⟨ks, hs⟩
    cases hx : textP B T with
    | inl x =>
      rw [hx] at hs
      obtain ⟨hv, s1, s5⟩ := hs
      rw [hv]
      refine bX10_text_20 0 s (fun _ => ?_) (fun t => absurd rfl t)
      generalize hu : sA s 2 (upd (s.1 2) 0 0) = u
      have ku : Fr (2 :: FN N) [] σ u := by rw [← hu]; exact ks.2.tA (by simp) (by decide)
      have u20 : u.1 2 0 = 0 := by rw [← hu, sA_at, upd_eq, if_pos rfl]
      have u21 : u.1 2 1 = nI x.1 := by rw [← hu, sA_at, upd_eq, if_neg (by decide)]; exact s1
      have u88 : u.1 88 0 = nI N := by rw [ku.2.1 0 (by simp)]; exact e2
      have mu : tM B T u := hB.m.keep (ku.2.1 10 (by simp)) (ku.1 95 (by simp [FN]; omega) (by decide))
      refine ⟨_, rfl, (tX11_text d N T B hN8 u mu u88).mono ?_⟩
      intro v2 t hp
      rw [hx] at hp
      obtain ⟨z, kz, z15, hv2, ht⟩ := hp
      have hF : Fr (2 :: SN) TF σ t := by
        rw [ht]
        exact ((ku.mono (SN2 hN8) (fun i hi => absurd hi (by simp))).tr (kz.1.mono (by decide) (by decide))).tF (by decide)
      refine ⟨?_, hF, ⟨N, hN, ?_, ?_, fun k hk1 => ?_⟩, ⟨0, by omega, ?_, ?_, fun i hi => absurd hi (Nat.not_lt_zero i), ?_⟩⟩
      · rw [hv2, upd_eq, if_neg (by decide), s5]
      · rw [ht, sA_ne (by decide), kz.1.1 0 (by decide) (by decide), ku.1 0 (by simp [FN]; omega) (by decide)]; exact e1
      · rw [ht, sU, if_neg (by decide), kz.1.2.1 0 (by decide)]; exact u88
      · obtain ⟨n', D', R', a, b, c⟩ := hk k hk1
        have D32 := a.2.2.1
        refine ⟨n', D', R', a, b.keep (by omega) (fun i i1 i2 => by rw [ht, sA_ne (by omega), kz.1.1 i (nin i (by omega)) (by omega), ku.1 i (by simp [FN]; omega) (by omega)]), c.keep ?_ ?_ (fun r hr => ?_)⟩
        · rw [ht, sA_ne (by decide), kz.1.1 89 (by decide) (by decide), ku.1 89 (by simp [FN]; omega) (by decide)]
        · rw [ht, sA_ne (by decide), kz.1.1 90 (by decide) (by decide), ku.1 90 (by simp [FN]; omega) (by decide)]
        · rw [ht, sA2, kz.2 _ (by omega), ku.2.2 91 (by simp [FN]; omega)]
      · rw [ht, sA_ne (by decide), kz.1.1 2 (by decide) (by decide)]; exact u20
      · rw [ht, sU, if_pos rfl]; rfl
      · rw [ht, sU, if_neg (by decide), z15, sA_ne (by decide), kz.1.1 2 (by decide) (by decide), u21]
    | inr y =>
      rw [hx] at hs
      obtain ⟨hv, sc, so, s1⟩ := hs
      rw [hv]
      refine bX10_text_20 1 s (fun t => absurd t (by decide)) (fun _ => ?_)
      have es1 : s.1 0 1 = nI N := by rw [ks.2.1 0 (by simp [FN]; omega) (by decide)]; exact e1
      have ek : sX10_keepNet (sA s 2 (upd (s.1 2) 0 0)) = sA (sA s 2 (upd (s.1 2) 0 0)) 0 (upd (s.1 0) 1 (nI (N + 1))) := by
        unfold sX10_keepNet
        rw [sA_ne (by decide), es1, nI_succ]
      rw [ek, es1]
      generalize hu : sA (sA s 2 (upd (s.1 2) 0 0)) 0 (upd (s.1 0) 1 (nI (N + 1))) = u
      have ku : Fr (0 :: 2 :: FN N) [] σ u := by rw [← hu]; exact ((ks.2.mono (fun i hi => List.mem_cons_of_mem _ hi) (fun i hi => hi)).tA (by simp) (by decide)).tA (by simp) (by decide)
      have u2 : u.1 2 = upd (s.1 2) 0 0 := by rw [← hu, sA_ne (by decide), sA_at]
      have u01 : u.1 0 1 = nI (N + 1) := by rw [← hu, sA_at, upd_eq, if_pos rfl]
      have u88 : u.1 88 0 = nI N := by rw [ku.2.1 0 (by simp)]; exact e2
      have mu : tM B T u := hB.m.keep (ku.2.1 10 (by simp)) (ku.1 95 (by simp [FN]; omega) (by decide))
      have uc : cN N y.1 y.2.1 y.2.2 u := sc.keep hN8 (fun i i1 i2 => by rw [← hu, sA_ne (by omega), sA_ne (by omega)])
      refine ⟨_, rfl, (tX11_text d N T B hN8 u mu u88).mono ?_⟩
      intro v2 t hp
      rw [hx] at hp
      obtain ⟨z, kz, z15, zr, hv2, ht⟩ := hp
      have k1 : ∀ i, i ≠ 88 → i ≠ 89 → i ≠ 90 → t.1 i = z.1 i := fun i a b c => by rw [ht, sA_ne a, sA_ne c, sA_ne b, sA_ne a]
      have k89 : t.1 89 = upd (z.1 89) N (nI y.1) := by rw [ht, sA_ne (by decide), sA_ne (by decide), sA_at]
      have k90 : t.1 90 = upd (z.1 90) N (nI y.2.1) := by rw [ht, sA_ne (by decide), sA_at]
      have k2 : t.2 = z.2 := by rw [ht]; rfl
      have k88 : ∀ j, t.1 88 j = if j = 0 then nI (N + 1) else if j = 10 then 0 else z.1 88 j := fun j => by rw [ht, sA_at, upd_eq, upd_eq]
      have nin2 : ∀ i, i ∉ 2 :: SN → i ≠ 89 ∧ i ≠ 90 ∧ i ∉ [91, 93, 94] ∧ i ∉ (0 :: 2 :: FN N) := by
        intro i hi
        refine ⟨fun e => hi (by rw [e]; decide), fun e => hi (by rw [e]; decide), fun q => hi ?_, fun q => hi ?_⟩
        · have : ∀ i, i ∈ [91, 93, 94] → i ∈ 2 :: SN := by decide
          exact this i q
        · rcases List.mem_cons.mp q with rfl | q
          · decide
          · exact SN2 hN8 i q
      have hF : Fr (2 :: SN) TF σ t := by
        refine ⟨fun i hi h8 => ?_, fun j hj => ?_, fun i hi => ?_⟩
        · obtain ⟨a, b, c, e⟩ := nin2 i hi
          rw [k1 i h8 a b, kz.1.1 i c h8, ku.1 i e h8]
        · have : ∀ j, j ∈ [11, 12, 13, 14, 15, 16] → j ∈ TF := by decide
          rw [k88, if_neg (fun e => hj (by rw [e]; decide)), if_neg (fun e => hj (by rw [e]; decide)), kz.1.2.1 j (fun q => hj (this j q)), ku.2.1 j (by simp)]
        · obtain ⟨a, b, c, e⟩ := nin2 i hi
          rw [k2, kz.1.2.2 i c, ku.2.2 i e]
      refine ⟨?_, hF, ⟨N + 1, by omega, ?_, ?_, fun k hk1 => ?_⟩, ⟨0, by omega, ?_, ?_, fun i hi => absurd hi (Nat.not_lt_zero i), ?_⟩⟩
      · rw [hv2, show nI N + 1 - 1 = nI N from by (simp only [nI_zI, zl0, zl1, zl2, zl3, zl4, zl5, zl6, zl7, zl8, zl9, zl10, zl11, zl12, zl13, zl14, zl15, zl16, zl24, zl30, zl31, zl32, zl48, zl56, zl57, zl60, zl63, zl99, zl100, zl130, zl199, zl200, zl240, zl999, zl1000, ← zI_add, ← zI_sub, ← zI_mul, ← zI_neg] <;> first | rfl | (congr 1; omega))]
      · rw [k1 0 (by decide) (by decide) (by decide), kz.1.1 0 (by decide) (by decide)]; exact u01
      · rw [k88]; rfl
      · by_cases e : k = N
        · subst e
          refine ⟨y.1, y.2.1, y.2.2, so, uc.keep hN8 (fun i i1 i2 => by rw [k1 i (by omega) (by omega) (by omega), kz.1.1 i (nin i (by omega)) (by omega)]), ?_, ?_, fun r hr => ?_⟩
          · rw [k89, upd_eq, if_pos rfl]
          · rw [k90, upd_eq, if_pos rfl]
          · rw [k2]; exact zr r hr
        · obtain ⟨n', D', R', a, b, c⟩ := hk k (by omega)
          have D32 := a.2.2.1
          refine ⟨n', D', R', a, b.keep (by omega) (fun i i1 i2 => by rw [k1 i (by omega) (by omega) (by omega), kz.1.1 i (nin i (by omega)) (by omega), ku.1 i (by simp [FN]; omega) (by omega)]), c.keep ?_ ?_ (fun r hr => ?_)⟩
          · rw [k89, upd_eq, if_neg e, kz.1.1 89 (by decide) (by decide), ku.1 89 (by simp [FN]; omega) (by decide)]
          · rw [k90, upd_eq, if_neg e, kz.1.1 90 (by decide) (by decide), ku.1 90 (by simp [FN]; omega) (by decide)]
          · rw [k2, kz.2 _ (by omega), ku.2.2 91 (by simp [FN]; omega)]
      · rw [k1 2 (by decide) (by decide) (by decide), kz.1.1 2 (by decide) (by decide), u2]; rfl
      · rw [k88]; rfl
      · rw [k88, k1 2 (by decide) (by decide) (by decide), kz.1.1 2 (by decide) (by decide), u2, upd_eq, if_neg (by decide), s1]
        exact z15
  · have hN8 : N = 8 := by
      rw [e1] at q
      have : ¬ N < 8 := fun h => q ⟨(nI_leI (a := 0) (by omega) (by omega)).mpr (Nat.zero_le _), (nI_ltI (b := 8) (by omega) (by decide)).mpr h⟩
      omega
    have h8 : σ.1 88 0 = 8 := by rw [e2, hN8]; rfl
    exact ⟨_, rfl, Ct.of mX11_text.1 (Nat.le_of_ble_eq_true rfl) (bX11_text_0 σ (fun t => absurd h8 t) (fun _ => ⟨rfl, Fr.rf, hR0, hT0⟩))⟩
end TEXTQ

/-! PURE: what is foretold of one mouse, one step, one rat; the team. -/
theorem oz : ((1 : Int32) = 0) = False := eq_false (by decide)
def prodN (f : Nat → Nat) : Nat → Nat
  | 0 => 1
  | n + 1 => prodN f n * f n
theorem prod_le {f : Nat → Nat} (h : ∀ i, f i ≤ 10) : ∀ n, prodN f n ≤ 10 ^ n
  | 0 => Nat.le_refl _
  | n + 1 => by
    rw [prodN, Nat.pow_succ]
    exact Nat.mul_le_mul (prod_le h n) (h n)
theorem ten_le {n : Nat} (h : n ≤ 5) : 10 ^ n ≤ 100000 := by
  rcases (show n = 0 ∨ n = 1 ∨ n = 2 ∨ n = 3 ∨ n = 4 ∨ n = 5 by omega) with rfl | rfl | rfl | rfl | rfl | rfl <;> decide
theorem ten_pos (n : Nat) : 0 < 10 ^ n := by
  induction n with
  | zero => decide
  | succ n ih => rw [Nat.pow_succ]; omega
/-- alone: above 10 to the power of the steps -/
def al (H : Nat → Nat → Nat) (m : Nat) : Nat := 10 ^ H 8 1 - prodN (fun i => 10 - dg H i m) (H 8 1)
def dr (H : Nat → Nat → Nat) (m : Nat) : Nat := H 2 m * al H m
theorem al_le {H : Nat → Nat → Nat} (hI : HI H) (m : Nat) : al H m ≤ 100000 := Nat.le_trans (Nat.sub_le _ _) (ten_le hI.2.1)
theorem dr_le {H : Nat → Nat → Nat} (hI : HI H) (m : Nat) : dr H m ≤ 9900000 := by
  have h1 := al_le hI m
  have h2 := (hI.2.2.2.2 m).2.2.1
  calc dr H m ≤ 99 * 100000 := Nat.mul_le_mul (by omega) h1
    _ ≤ 9900000 := by omega
theorem tl {H : Nat → Nat → Nat} (hI : HI H) (s m : Nat) : ((10 : Int32) - nI (dg H s m)).toInt64 = lN (10 - dg H s m) := by
  rw [e10s (dg_le hI s m), il (by omega)]
theorem al_c {N : Nat} (hN : 8000 ≤ N) {h : Mo} {H : Nat → Nat → Nat} (hI : HI H) (hh : RHc h H) {m : Nat} (hm : m < H 8 0) : f_X0_aloneAbove N (nI m) h = some (lN (al H m)) := by
  have h5 := hI.2.1
  unfold f_X0_aloneAbove
  rw [jw_F (s := ((1 : Int64), (1 : Int64), (0 : Int32))) (n := N) (fun j => (lN (10 ^ j), lN (prodN (fun i => 10 - dg H i m) j), nI j)) (H 8 1) (r := (lN (10 ^ H 8 1), lN (prodN (fun i => 10 - dg H i m) (H 8 1)))) (by omega) rfl]
  · show some (lN _ - lN _) = _
    rw [lN_sub (prod_le (fun i => Nat.sub_le _ _) _)]
    rfl
  · intro j hj
    unfold X0_aloneAbove_s8
    dsimp only
    rw [hh.1 1 (by omega), if_neg (nI_ge hj (by omega)), dAt_c hI hh hj hm]
    show some (Sum.inl (lN _ * lN 10, lN _ * _, nI j + 1)) = _
    rw [tl hI, lN_mul, lN_mul, ea1]
    rfl
  · unfold X0_aloneAbove_s8
    dsimp only
    rw [hh.1 1 (by omega), if_pos (nI_le (Nat.le_refl _) (by omega))]
theorem al_m {N : Nat} (hN : 8000 ≤ N) {M : Mo} {H : Nat → Nat → Nat} (hI : HI H) (hh : RHm M.1 0 H) {m : Nat} (hm : m < H 8 0) : f_X8_caughtAlone N (nI m) M = some (lN (al H m)) := by
  have h5 := hI.2.1
  have k1 : M.1 4 1 = nI (H 8 1) := hh.1 1 (by omega)
  unfold f_X8_caughtAlone
  rw [jw_F (s := ((1 : Int64), (0 : Int32))) (n := N) (fun j => (lN (prodN (fun i => 10 - dg H i m) j), nI j)) (H 8 1) (r := lN (prodN (fun i => 10 - dg H i m) (H 8 1))) (by omega) rfl]
  · simp only [Option.bind_some]
    rw [k1, ten_m hN (by omega)]
    show some (lN _ - lN _) = _
    rw [lN_sub (prod_le (fun i => Nat.sub_le _ _) _)]
    rfl
  · intro j hj
    unfold X8_caughtAlone_s5
    dsimp only
    rw [k1, if_neg (nI_ge hj (by omega)), dTo_m hI hh hj hm]
    show some (Sum.inl (lN _ * _, nI j + 1)) = _
    rw [tl hI, lN_mul, ea1]
    rfl
  · unfold X8_caughtAlone_s5
    dsimp only
    rw [k1, if_pos (nI_le (Nat.le_refl _) (by omega))]
theorem dr_c {N : Nat} (hN : 8000 ≤ N) {h : Mo} {H : Nat → Nat → Nat} (hI : HI H) (hh : RHc h H) {m : Nat} (hm : m < H 8 0) : f_X0_dreadAbove N (nI m) h = some (lN (dr H m)) := by
  have h6 := hI.1
  have h2 := (hI.2.2.2.2 m).2.2.1
  unfold f_X0_dreadAbove f_X0_fearOf
  simp only [hm_y hI hh hm, Option.bind_some, oz, ↓reduceIte, if_neg (njo (show m < 6 by omega) (by omega)), nI_clamp (show m < 2 ^ 31 by omega), hh.2.1 m hm 2 (by omega), al_c hN hI hh hm]
  rw [il (by omega), lN_mul]
  rfl
theorem dr_m {N : Nat} (hN : 8000 ≤ N) {M : Mo} {H : Nat → Nat → Nat} (hI : HI H) (hh : RHm M.1 0 H) {m : Nat} (hm : m < H 8 0) : f_X8_dreadOf N (nI m) M = some (lN (dr H m)) := by
  have h6 := hI.1
  have h2 := (hI.2.2.2.2 m).2.2.1
  have k2 : M.1 1 (4 * m + 2) = nI (H 2 m) := by have := hh.2.1 m hm 2 (by omega); simpa using this
  unfold f_X8_dreadOf
  simp only [e4, ea2, if_neg (njo (show 4 * m + 2 < 48 by omega) (by omega)), al_m hN hI hh hm, Option.bind_some, nI_clamp (show 4 * m + 2 < 2 ^ 31 by omega), k2]
  rw [il (by omega), lN_mul]
  rfl
theorem p_danger : ∀ (a1 a2 : Int32) (X : BX) (M : Mo), Rel X M → ∃ (r : Int32) (M1 : Mo), f_X7_danger a1 a2 X = some r ∧ f_X8_danger a1 a2 M = some (r, M1) ∧ Rel X M1 := by
  intro a1 a2 X M hR
  obtain ⟨H, t, hI, hh, hm, -⟩ := id hR
  have hm' : RHm (M.1, va_up M.2 0 (0 : Int32)).1 0 H := hm
  have h6 := hI.1
  have h5 := hI.2.1
  rcases ix_or a1 (n := H 8 1) (by omega) with h1 | ⟨s, hs1, rfl⟩
  · exact ⟨-2, _, by simp only [f_X7_danger, hs_n hh h1, Option.bind_some, ↓reduceIte], by simp only [f_X8_danger, is_n hI hm' h1, Option.bind_some, ↓reduceIte], Rel_th hR⟩
  · rcases ix_or a2 (n := H 8 0) (by omega) with h2 | ⟨m, hm2, rfl⟩
    · exact ⟨-2, _, by simp only [f_X7_danger, hs_y hI hh hs1, hm_n hh h2, Option.bind_some, oz, ↓reduceIte], by simp only [f_X8_danger, is_y hI hm' hs1, im_n hI hm' h2, Option.bind_some, oz, ↓reduceIte], Rel_th hR⟩
    · exact ⟨nI (dg H s m), _, by simp only [f_X7_danger, hs_y hI hh hs1, hm_y hI hh hm2, dAt_c hI hh hs1 hm2, Option.bind_some, oz, ↓reduceIte], by simp only [f_X8_danger, is_y hI hm' hs1, im_y hI hm' hm2, dTo_m hI hm' hs1 hm2, Option.bind_some, oz, ↓reduceIte], Rel_th hR⟩
theorem p_alone {N : Nat} (hN : 8000 ≤ N) : ∀ (a1 a2 : Int32) (X : BX) (M : Mo), Rel X M → ∃ (r : Int32) (M1 : Mo), f_X7_alone N a1 a2 X = some r ∧ f_X8_alone N a1 a2 M = some (r, M1) ∧ Rel X M1 := by
  intro a1 a2 X M hR
  obtain ⟨H, t, hI, hh, hm, -⟩ := id hR
  have hm' : RHm (M.1, va_up M.2 0 (0 : Int32)).1 0 H := hm
  have h6 := hI.1
  have h5 := hI.2.1
  have k1 : M.1 4 1 = nI (H 8 1) := hm.1 1 (by omega)
  rcases ix_or a1 (n := H 8 0) (by omega) with h1 | ⟨m, hm1, rfl⟩
  · exact ⟨-2, _, by simp only [f_X7_alone, hm_n hh h1, Option.bind_some, ↓reduceIte], by simp only [f_X8_alone, im_n hI hm' h1, Option.bind_some, ↓reduceIte], Rel_th hR⟩
  · rcases part_or a2 with ⟨p1, p2⟩ | ⟨p1, p2, -⟩
    · exact ⟨-3, _, by simp only [f_X7_alone, hm_y hI hh hm1, p1, Option.bind_some, oz, ↓reduceIte], by simp only [f_X8_alone, im_y hI hm' hm1, p2, Option.bind_some, oz, ↓reduceIte], Rel_th hR⟩
    · obtain ⟨r, r1, r2⟩ := part_eq hN (a := al H m) (b := 10 ^ H 8 1) (by have := al_le hI m; omega) (ten_pos _) (by have := ten_le h5; omega) a2
      exact ⟨r.toInt32, _, by simp only [f_X7_alone, hm_y hI hh hm1, p1, al_c hN hI hh hm1, hh.1 1 (show 1 < 4 by omega), ten_c hN (show H 8 1 < 100 by omega), r1, Option.bind_some, oz, ↓reduceIte], by simp only [f_X8_alone, im_y hI hm' hm1, p2, al_m hN hI hm' hm1, k1, ten_m hN (show H 8 1 < 100 by omega), r2, Option.bind_some, oz, ↓reduceIte], Rel_th hR⟩
theorem p_dread {N : Nat} (hN : 8000 ≤ N) : ∀ (a1 a2 : Int32) (X : BX) (M : Mo), Rel X M → ∃ (r : Int32) (M1 : Mo), f_X7_dread N a1 a2 X = some r ∧ f_X8_dread N a1 a2 M = some (r, M1) ∧ Rel X M1 := by
  intro a1 a2 X M hR
  obtain ⟨H, t, hI, hh, hm, -⟩ := id hR
  have hm' : RHm (M.1, va_up M.2 0 (0 : Int32)).1 0 H := hm
  have h6 := hI.1
  have h5 := hI.2.1
  have k1 : M.1 4 1 = nI (H 8 1) := hm.1 1 (by omega)
  rcases ix_or a1 (n := H 8 0) (by omega) with h1 | ⟨m, hm1, rfl⟩
  · exact ⟨-2, _, by simp only [f_X7_dread, hm_n hh h1, Option.bind_some, ↓reduceIte], by simp only [f_X8_dread, im_n hI hm' h1, Option.bind_some, ↓reduceIte], Rel_th hR⟩
  · rcases part_or a2 with ⟨p1, p2⟩ | ⟨p1, p2, -⟩
    · exact ⟨-3, _, by simp only [f_X7_dread, hm_y hI hh hm1, p1, Option.bind_some, oz, ↓reduceIte], by simp only [f_X8_dread, im_y hI hm' hm1, p2, Option.bind_some, oz, ↓reduceIte], Rel_th hR⟩
    · obtain ⟨r, r1, r2⟩ := part_eq hN (a := dr H m) (b := 10 ^ H 8 1) (by have := dr_le hI m; omega) (ten_pos _) (by have := ten_le h5; omega) a2
      exact ⟨r.toInt32, _, by simp only [f_X7_dread, hm_y hI hh hm1, p1, dr_c hN hI hh hm1, hh.1 1 (show 1 < 4 by omega), ten_c hN (show H 8 1 < 100 by omega), r1, Option.bind_some, oz, ↓reduceIte], by simp only [f_X8_dread, im_y hI hm' hm1, p2, dr_m hN hI hm' hm1, k1, ten_m hN (show H 8 1 < 100 by omega), r2, Option.bind_some, oz, ↓reduceIte], Rel_th hR⟩
/-- a value that is one of few -/
theorem few {a : Int32} {n : Nat} (hn : n < 2 ^ 31) (h : f_X7_within a (nI n) = some 1) : ∃ j : Nat, j ≤ n ∧ a = nI j := by
  rcases wi_or a (nI n) with ⟨h1, -⟩ | ⟨-, h0, h1⟩
  · rw [h1] at h; cases h
  · exact wi_nat hn h0 h1
theorem p_step : ∀ (a1 a2 : Int32) (X : BX) (M : Mo), Rel X M → ∃ (r : Int32) (M1 : Mo), f_X7_step a1 a2 X = some r ∧ f_X8_step a1 a2 M = some (r, M1) ∧ Rel X M1 := by
  intro a1 a2 X M hR
  obtain ⟨H, t, hI, hh, hm, hT, ht, hs, -⟩ := id hR
  have hm' : RHm (M.1, va_up M.2 0 (0 : Int32)).1 0 H := hm
  have h5 := hI.2.1
  rcases ix_or a1 (n := H 8 1) (by omega) with h1 | ⟨s, hs1, rfl⟩
  · exact ⟨-2, _, by simp only [f_X7_step, hs_n hh h1, Option.bind_some, ↓reduceIte], by simp only [f_X8_step, is_n hI hm' h1, Option.bind_some, ↓reduceIte], Rel_th hR⟩
  · have k2 : M.1 2 s = nI (H 4 s) := by have := hm.2.2.1 s hs1; simpa using this
    have kt : M.1 5 (3 + s) = nI (t (3 + s)) := by have := hs (3 + s) (by omega); simpa using this
    rcases wi_or a2 1 with ⟨w, hw⟩ | ⟨w, -⟩
    · have n0 : ¬ a2 = 0 := by rintro rfl; revert hw; decide
      have n1 : ¬ a2 = 1 := by rintro rfl; revert hw; decide
      exact ⟨-3, _, by simp only [f_X7_step, hs_y hI hh hs1, n0, n1, Option.bind_some, oz, ↓reduceIte], by simp only [f_X8_step, is_y hI hm' hs1, wi_in, w, Option.bind_some, oz, ↓reduceIte], Rel_th hR⟩
    · obtain ⟨j, hj, ha⟩ := few (n := 1) (by omega) w
      rcases (show j = 0 ∨ j = 1 by omega) with rfl | rfl
      · obtain rfl : a2 = 0 := ha
        exact ⟨nI (H 4 s), _, by simp only [f_X7_step, hs_y hI hh hs1, if_neg (njo (show s < 5 by omega) (by omega)), nI_clamp (show s < 2 ^ 31 by omega), hh.2.2.1 s hs1, Option.bind_some, oz, ↓reduceIte], by simp only [f_X8_step, is_y hI hm' hs1, wi_in, w, if_neg (njo (show s < 10 by omega) (by omega)), nI_clamp (show s < 2 ^ 31 by omega), k2, Option.bind_some, oz, ↓reduceIte], Rel_th hR⟩
      · obtain rfl : a2 = 1 := ha
        have d1 : f_X4_doerOf (nI s) (X.1 3) = some (nI (t (3 + s)) - 1) := by
          simp only [f_X4_doerOf, if_neg (nI_pos (show s < 2 ^ 31 by omega)), if_neg (lt_lit (k := 5) 5 rfl (show s < 5 by omega) (by omega)), if_neg (njo (show s < 5 by omega) (by omega)), nI_clamp (show s < 2 ^ 31 by omega), ht.2.2.2 s (by omega)]
        exact ⟨nI (t (3 + s)) - 1, _, by simp only [f_X7_step, hs_y hI hh hs1, d1, Option.bind_some, oz, ↓reduceIte], by simp only [f_X8_step, is_y hI hm' hs1, wi_in, w, e3a, if_neg (njo (show 3 + s < 8 by omega) (by omega)), nI_clamp (show 3 + s < 2 ^ 31 by omega), kt, Option.bind_some, oz, ↓reduceIte], Rel_th hR⟩

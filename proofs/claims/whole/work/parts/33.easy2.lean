theorem i21 : ((2 : Int32) = 0) = False := eq_false (by decide)
theorem p_rat : ∀ (a1 a2 : Int32) (X : BX) (M : Mo), Rel X M → ∃ (r : Int32) (M1 : Mo), f_X7_rat a1 a2 X = some r ∧ f_X8_rat a1 a2 M = some (r, M1) ∧ Rel X M1 := by
  intro a1 a2 X M hR
  obtain ⟨H, t, hI, hh, hm, -⟩ := id hR
  have h4 := hI.2.2.1
  have k2 : M.1 4 2 = nI (H 8 2) := hm.1 2 (by omega)
  rcases ix_or a1 (n := H 8 2) (by omega) with h1 | ⟨s, hs1, rfl⟩
  · exact ⟨-2, _, by simp only [f_X7_rat, hr_n hh h1, Option.bind_some, ↓reduceIte], by simp only [f_X8_rat, k2, in_n (show H 8 2 < 2 ^ 30 by omega) h1, Option.bind_some, ↓reduceIte], Rel_th hR⟩
  · have k : ∀ j, j < 3 → M.1 3 (3 * s + j) = nI (H (5 + j) s) := fun j hj => by have := hm.2.2.2 s hs1 j hj; simpa using this
    have k0 := k 0 (by omega)
    have k1 := k 1 (by omega)
    have k3 := k 2 (by omega)
    simp only [Nat.add_zero] at k0
    have c0 : (X.1 1).1 5 s = nI (H 5 s) := hh.2.2.2 s hs1 0 (by omega)
    have c1 : (X.1 1).1 6 s = nI (H 6 s) := hh.2.2.2 s hs1 1 (by omega)
    have c2 : (X.1 1).1 7 s = nI (H 7 s) := hh.2.2.2 s hs1 2 (by omega)
    have j4 := njo (show s < 4 by omega) (by omega : (4 : Nat) < 2 ^ 31)
    have cl := nI_clamp (show s < 2 ^ 31 by omega)
    rcases wi_or a2 2 with ⟨w, hw⟩ | ⟨w, -⟩
    · have n0 : ¬ a2 = 0 := by rintro rfl; revert hw; decide
      have n1 : ¬ a2 = 1 := by rintro rfl; revert hw; decide
      have n2 : ¬ a2 = 2 := by rintro rfl; revert hw; decide
      exact ⟨-3, _, by simp only [f_X7_rat, hr_y hI hh hs1, n0, n1, n2, Option.bind_some, oz, ↓reduceIte], by simp only [f_X8_rat, k2, in_y (show H 8 2 < 2 ^ 30 by omega) hs1, wi_in, w, Option.bind_some, oz, ↓reduceIte], Rel_th hR⟩
    · obtain ⟨j, hj, ha⟩ := few (n := 2) (by omega) w
      rcases (show j = 0 ∨ j = 1 ∨ j = 2 by omega) with rfl | rfl | rfl
      · obtain rfl : a2 = 0 := ha
        exact ⟨nI (H 5 s), _, by simp only [f_X7_rat, hr_y hI hh hs1, if_neg j4, cl, c0, Option.bind_some, oz, ↓reduceIte], by simp only [f_X8_rat, k2, in_y (show H 8 2 < 2 ^ 30 by omega) hs1, wi_in, w, e3, show ∀ x : Int32, x + 0 = x from Int32.add_zero, if_neg (njo (show 3 * s < 24 by omega) (by omega)), nI_clamp (show 3 * s < 2 ^ 31 by omega), k0, Option.bind_some, oz, ↓reduceIte], Rel_th hR⟩
      · obtain rfl : a2 = 1 := ha
        exact ⟨nI (H 6 s), _, by simp only [f_X7_rat, hr_y hI hh hs1, if_neg j4, cl, c1, Option.bind_some, oz, ↓reduceIte], by simp only [f_X8_rat, k2, in_y (show H 8 2 < 2 ^ 30 by omega) hs1, wi_in, w, e3, ea1, if_neg (njo (show 3 * s + 1 < 24 by omega) (by omega)), nI_clamp (show 3 * s + 1 < 2 ^ 31 by omega), k1, Option.bind_some, oz, ↓reduceIte], Rel_th hR⟩
      · obtain rfl : a2 = 2 := ha
        exact ⟨nI (H 7 s), _, by simp only [f_X7_rat, hr_y hI hh hs1, if_neg j4, cl, c2, i21, show ((2 : Int32) = 1) = False from eq_false (by decide), Option.bind_some, oz, ↓reduceIte], by simp only [f_X8_rat, k2, in_y (show H 8 2 < 2 ^ 30 by omega) hs1, wi_in, w, e3, ea2, if_neg (njo (show 3 * s + 2 < 24 by omega) (by omega)), nI_clamp (show 3 * s + 2 < 2 ^ 31 by omega), k3, Option.bind_some, oz, ↓reduceIte], Rel_th hR⟩
/-- taken as a kind: the class's test and the model's -/
theorem as_all : ∀ k, k < 4 → ∀ j, j < 5 → (f_X7_canBeTakenAs (nI k) (nI j) = some 0 ∧ ∀ (A B : Option (Int32 × Mo)), True) ∨ f_X7_canBeTakenAs (nI k) (nI j) = some 1 := by
  intro k hk j hj
  rcases (show k = 0 ∨ k = 1 ∨ k = 2 ∨ k = 3 by omega) with rfl | rfl | rfl | rfl <;> rcases (show j = 0 ∨ j = 1 ∨ j = 2 ∨ j = 3 ∨ j = 4 by omega) with rfl | rfl | rfl | rfl | rfl <;> first | exact Or.inr rfl | exact Or.inl ⟨rfl, fun _ _ => trivial⟩
theorem p_as : ∀ (a1 a2 : Int32) (X : BX) (M : Mo), Rel X M → ∃ (r : Int32) (M1 : Mo), f_X7_as a1 a2 X = some r ∧ f_X8_as a1 a2 M = some (r, M1) ∧ Rel X M1 := by
  intro a1 a2 X M hR
  obtain ⟨H, t, hI, hh, hm, -⟩ := id hR
  have hm' : RHm (M.1, va_up M.2 0 (0 : Int32)).1 0 H := hm
  have h6 := hI.1
  rcases ix_or a1 (n := H 8 0) (by omega) with h1 | ⟨m, hm1, rfl⟩
  · exact ⟨-2, _, by simp only [f_X7_as, hm_n hh h1, Option.bind_some, ↓reduceIte], by simp only [f_X8_as, im_n hI hm' h1, Option.bind_some, ↓reduceIte], Rel_th hR⟩
  · have k0 : M.1 1 (4 * m) = nI (H 0 m) := by have := hm.2.1 m hm1 0 (by omega); simpa using this
    have k1 : M.1 1 (4 * m + 1) = nI (H 1 m) := by have := hm.2.1 m hm1 1 (by omega); simpa using this
    have c0 : (X.1 1).1 0 m = nI (H 0 m) := hh.2.1 m hm1 0 (by omega)
    have c1 : (X.1 1).1 1 m = nI (H 1 m) := hh.2.1 m hm1 1 (by omega)
    have j6 := njo (show m < 6 by omega) (by omega : (6 : Nat) < 2 ^ 31)
    have cl := nI_clamp (show m < 2 ^ 31 by omega)
    have j48 := njo (show 4 * m < 48 by omega) (by omega : (48 : Nat) < 2 ^ 31)
    have j49 := njo (show 4 * m + 1 < 48 by omega) (by omega : (48 : Nat) < 2 ^ 31)
    have cl4 := nI_clamp (show 4 * m < 2 ^ 31 by omega)
    have cl5 := nI_clamp (show 4 * m + 1 < 2 ^ 31 by omega)
    have hk := (hI.2.2.2.2 m).1
    have hsp := (hI.2.2.2.2 m).2.1
    rcases wi_or a2 4 with ⟨w, hw⟩ | ⟨w, -⟩
    · exact ⟨-3, _, by simp only [f_X7_as, hm_y hI hh hm1, w, Option.bind_some, oz, ↓reduceIte], by simp only [f_X8_as, im_y hI hm' hm1, wi_in, w, Option.bind_some, oz, ↓reduceIte], Rel_th hR⟩
    · obtain ⟨j, hj, ha⟩ := few (n := 4) (by omega) w
      subst ha
      have w' : f_X7_within (nI j) 4 = some 1 := w
      have D1 : f_X7_dangerOf 6 (nI (H 0 m)) (nI (H 1 m)) = some (nI (dgN (H 0 m) (H 1 m) 6)) := dg_c _ hk _ hsp 6 (by omega)
      have D2 : f_X8_dangerBy (nI (H 0 m)) (nI (H 1 m)) 6 = some (nI (dgN (H 0 m) (H 1 m) 6)) := dg_m _ hk _ hsp 6 (by omega)
      unfold f_X7_as f_X8_as
      simp only [hm_y hI hh hm1, im_y hI hm' hm1, wi_in, w', e4, ea1, if_neg j6, if_neg j48, if_neg j49, cl, cl4, cl5, c0, c1, k0, k1, D1, D2, Option.bind_some, oz, ↓reduceIte]
      generalize nI (dgN (H 0 m) (H 1 m) 6) = v
      generalize H 0 m = k at hk
      rcases (show k = 0 ∨ k = 1 ∨ k = 2 ∨ k = 3 by omega) with rfl | rfl | rfl | rfl <;> rcases (show j = 0 ∨ j = 1 ∨ j = 2 ∨ j = 3 ∨ j = 4 by omega) with rfl | rfl | rfl | rfl | rfl <;> exact ⟨_, _, rfl, rfl, Rel_th hR⟩

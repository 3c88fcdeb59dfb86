theorem bl_0 {s : Nat} (hs : s < 2 ^ 40) : ((0 : Int64) ≤ lN s - lN 1) ↔ 0 < s := bl_le (x := 0) (by omega) hs
theorem st_le {H : Nat → Nat → Nat} (hI : HI H) (ok : Nat → Bool) : (fb ok (vlp (dg H) (H 8 0) (H 8 1)) 0 (H 8 0 ^ H 8 1) (0, 0)).1 ≤ 100001 := by
  have := fb_le (ok := ok) (val := vlp (dg H) (H 8 0) (H 8 1)) (lo := 0) (K := 10 ^ H 8 1) (fun w => vlp_10 _ w) (H 8 0 ^ H 8 1) (0, 0) (Nat.zero_le _)
  have := ten_le hI.2.1
  omega
theorem p_bestOf {N : Nat} (hN : 8000 ≤ N) : ∀ (a1 : Int32) (X : BX) (M : Mo), Rel X M → ∃ (r : Int32) (X1 : BX) (M1 : Mo), f_X7_bestOf N a1 X = some (r, X1) ∧ f_X8_bestOf N a1 M = some (r, M1) ∧ Rel X1 M1 := by
  intro a1 X M hR
  obtain ⟨H, t, hI, hh, hm, hT, ht, hs, hU, hK, hS, hX⟩ := id hR
  have hm' : RHm (M.1, va_up M.2 0 (0 : Int32)).1 0 H := hm
  have h6 := hI.1
  have h5 := hI.2.1
  rcases ix_or a1 (show H 8 1 < 2 ^ 31 by omega) with c | ⟨s0, hs0, c⟩
  · exact ⟨-2, X, _, by simp only [f_X7_bestOf, hs_n hh c, Option.bind_some, ↓reduceIte], by simp only [f_X8_bestOf, is_n hI hm' c, Option.bind_some, ↓reduceIte], Rel_th hR⟩
  subst c
  obtain ⟨ok, hok⟩ := exB (okQ (t 1) (H 8 1 ≤ pop (t 1)) (H 8 0) (H 8 1))
  have hst := st_le hI ok
  obtain ⟨S1, e1, i1⟩ := run_c hN (S := X.1 7) (bl := X.2.2.2) hI hh hT hok
  obtain ⟨C, e2, j1, j2⟩ := fbest_m hN (A := M.1) (B := va_up M.2 0 (0 : Int32)) hI hm hT hs hok
  refine ⟨S1.1 1 s0, (va_up X.1 7 S1, X.2.1, X.2.2.1, lN (fb ok (vlp (dg H) (H 8 0) (H 8 1)) 0 (H 8 0 ^ H 8 1) (0, 0)).1 - lN 1), (C, va_up M.2 0 (0 : Int32)), ?_, ?_, Rel_C (A := M.1) hR j1⟩
  · unfold f_X7_bestOf
    rw [hs_y hI hh hs0, ht.2.1, e1]
    simp only [Option.bind_some, oz, ↓reduceIte, if_neg (njo (show s0 < 5 by omega) (by omega)), nI_clamp (show s0 < 2 ^ 31 by omega)]
  · unfold f_X8_bestOf
    rw [is_y hI hm' hs0, e2]
    simp only [Option.bind_some, oz, ↓reduceIte, bl_0 (show (fb ok (vlp (dg H) (H 8 0) (H 8 1)) 0 (H 8 0 ^ H 8 1) (0, 0)).1 < 2 ^ 40 by omega), if_neg (njo (show s0 < 5 by omega) (by omega)), nI_clamp (show s0 < 2 ^ 31 by omega)]
    by_cases hc : 0 < (fb ok (vlp (dg H) (H 8 0) (H 8 1)) 0 (H 8 0 ^ H 8 1) (0, 0)).1
    · rw [if_pos hc, j2 hc s0 hs0, i1.2.2 hc s0 hs0]
    · rw [if_neg hc, i1.2.1 (by omega) s0 (by omega)]
theorem p_best {N : Nat} (hN : 8000 ≤ N) : ∀ (a1 : Int32) (X : BX) (M : Mo), Rel X M → ∃ (r : Int32) (X1 : BX) (M1 : Mo), f_X7_best N a1 X = some (r, X1) ∧ f_X8_best N a1 M = some (r, M1) ∧ Rel X1 M1 := by
  intro a1 X M hR
  obtain ⟨H, t, hI, hh, hm, hT, ht, hs, hU, hK, hS, hX⟩ := id hR
  have hm' : RHm (M.1, va_up M.2 0 (0 : Int32)).1 0 H := hm
  have h6 := hI.1
  have h5 := hI.2.1
  have c1 : (X.1 1).2 1 = nI (H 8 1) := hh.1 1 (by omega)
  have k1 : M.1 4 1 = nI (H 8 1) := hm.1 1 (by omega)
  rcases part_or a1 with ⟨p1, p2⟩ | ⟨p1, p2, p3⟩
  · exact ⟨-3, X, _, by simp only [f_X7_best, p1, Option.bind_some, ↓reduceIte], by simp only [f_X8_best, p2, Option.bind_some, ↓reduceIte], Rel_th hR⟩
  obtain ⟨ok, hok⟩ := exB (okQ (t 1) (H 8 1 ≤ pop (t 1)) (H 8 0) (H 8 1))
  have hst := st_le hI ok
  obtain ⟨S1, e1, i1⟩ := run_c hN (S := X.1 7) (bl := X.2.2.2) hI hh hT hok
  have hb0 := bl_0 (show (fb ok (vlp (dg H) (H 8 0) (H 8 1)) 0 (H 8 0 ^ H 8 1) (0, 0)).1 < 2 ^ 40 by omega)
  have hten := ten_le h5
  by_cases hz : H 8 1 = 0
  · have ho0 : ok 0 = true := (hok 0).mpr (by rw [hz]; trivial)
    have hfb : (fb ok (vlp (dg H) (H 8 0) (H 8 1)) 0 (H 8 0 ^ H 8 1) (0, 0)).1 = 2 := by
      rw [hz, Nat.pow_zero, fb, fb, Nat.add_zero, vlp, if_pos ⟨ho0, by show 0 < 2; omega⟩]
    rw [hfb] at e1
    have e3 : lN 2 - lN 1 = lN 1 := bl_of 1
    rw [e3] at e1
    have e4 : (0 : Int64) ≤ lN 1 := (pk_lLE (a := 0) (b := 1) (by omega) (by omega)).mpr (by omega)
    have e5 : (lN 1).toInt32 = (1 : Int32) := by decide
    refine ⟨1, (va_up X.1 7 S1, X.2.1, X.2.2.1, lN 1), (M.1, va_up M.2 0 (0 : Int32)), ?_, ?_, hR⟩
    · have hp : f_X7_partOf N (lN 1) (lN (10 ^ 0)) a1 = some (lN 1) := by
        unfold f_X7_partOf
        have q : (lN 1 = (0 : Int64)) = False := eq_false (fun h => by have := (pk_lEQ (a := 1) (b := 0) (by omega) (by omega)).mp h; omega)
        have q2 : lN 1 / lN 1 = lN 1 := pk_lDiv (a := 1) (b := 1) (by omega) (by omega) (by omega)
        rw [Nat.pow_zero, gcd_c hN (by omega) (by omega), Nat.gcd_self]
        simp only [Option.bind_some, q, ↓reduceIte, ite_self, q2]
      unfold f_X7_best
      rw [p1, ht.2.1, e1, c1, hz]
      simp only [Option.bind_some, oz, ↓reduceIte, if_pos e4, ten_c hN (show 0 < 100 by omega), hp]
      rw [e5]
    · unfold f_X8_best
      rw [p2, k1, hz]
      simp only [Option.bind_some, oz, ↓reduceIte, show (nI 0 = (0 : Int32)) = True by decide]
  obtain ⟨C, e2, j1, j2⟩ := fbest_m hN (A := M.1) (B := va_up M.2 0 (0 : Int32)) hI hm hT hs hok
  have kc : C 4 1 = nI (H 8 1) := by rw [j1 4 (by omega) (by omega)]; exact k1
  have hnz : (nI (H 8 1) = (0 : Int32)) = False := eq_false (nI_ne0 (by omega) (by omega))
  by_cases hc : 0 < (fb ok (vlp (dg H) (H 8 0) (H 8 1)) 0 (H 8 0 ^ H 8 1) (0, 0)).1
  · obtain ⟨s', hs'⟩ : ∃ s', (fb ok (vlp (dg H) (H 8 0) (H 8 1)) 0 (H 8 0 ^ H 8 1) (0, 0)).1 = s' + 1 := ⟨_, (Nat.succ_pred_eq_of_pos hc).symm⟩
    rw [hs'] at hst hb0
    obtain ⟨r, r1, r2⟩ := part_eq hN (a := s') (b := 10 ^ H 8 1) (by omega) (ten_pos _) (by omega) a1
    refine ⟨r.toInt32, (va_up X.1 7 S1, X.2.1, X.2.2.1, lN s'), (C, va_up M.2 0 (0 : Int32)), ?_, ?_, Rel_C (A := M.1) hR j1⟩
    · rw [hs', bl_of] at e1
      rw [bl_of] at hb0
      unfold f_X7_best
      rw [p1, ht.2.1, e1, c1]
      simp only [Option.bind_some, oz, ↓reduceIte, if_pos (hb0.mpr (by omega)), ten_c hN (show H 8 1 < 100 by omega), r1]
    · rw [hs', bl_of] at e2
      rw [bl_of] at hb0
      unfold f_X8_best
      rw [p2, k1, e2]
      simp only [Option.bind_some, oz, hnz, ↓reduceIte, if_pos (hb0.mpr (by omega)), kc, ten_m hN (show H 8 1 < 100 by omega), r2]
  · refine ⟨-4, (va_up X.1 7 S1, X.2.1, X.2.2.1, lN (fb ok (vlp (dg H) (H 8 0) (H 8 1)) 0 (H 8 0 ^ H 8 1) (0, 0)).1 - lN 1), (C, va_up M.2 0 (0 : Int32)), ?_, ?_, Rel_C (A := M.1) hR j1⟩
    · unfold f_X7_best
      rw [p1, ht.2.1, e1]
      simp only [Option.bind_some, oz, ↓reduceIte, if_neg (fun c => hc (hb0.mp c))]
    · unfold f_X8_best
      rw [p2, k1, e2]
      simp only [Option.bind_some, oz, hnz, ↓reduceIte, if_neg (fun c => hc (hb0.mp c))]

theorem ke_m {N : Nat} (hN : 8000 ≤ N) {A : Nat → Nat → Int32} {B : Nat → Int32} {k : Nat} (hk : k < 2) : jw (X8_keep_s19 (nI k)) N ((0 : Int32), (A, B)) = some (va_up A 7 (fillG (A 7) (8 * k) (A 5) 8), B) := by
  refine jw_F (fun j => (nI j, (va_up A 7 (fillG (A 7) (8 * k) (A 5) j), B))) 8 (by omega) ?_ ?_ ?_
  · show _ = (nI 0, (va_up A 7 (A 7), B))
    rw [va_id]
    rfl
  · intro j hj
    unfold X8_keep_s19
    dsimp only
    simp only [show (8 : Int32) * nI k = nI (8 * k) from pk_mul 8 k, nI_add, if_neg (lt_lit (k := 8) 8 rfl hj (by omega)), if_neg (njo hj (by omega)), if_neg (njo (show 8 * k + j < 16 by omega) (by omega)), nI_clamp (show j < 2 ^ 31 by omega), nI_clamp (show 8 * k + j < 2 ^ 31 by omega), bx_uu, ea1, fillG]
    rfl
  · rfl
theorem ba_m {N : Nat} (hN : 8000 ≤ N) {A : Nat → Nat → Int32} {B : Nat → Int32} {k : Nat} (hk : k < 2) : jw (X8_back_s31 (nI k)) N ((0 : Int32), (A, B)) = some (va_up A 5 (fillG (A 5) 0 (fun j => A 7 (8 * k + j)) 8), B) := by
  refine jw_F (fun j => (nI j, (va_up A 5 (fillG (A 5) 0 (fun j => A 7 (8 * k + j)) j), B))) 8 (by omega) ?_ ?_ ?_
  · show _ = (nI 0, (va_up A 5 (A 5), B))
    rw [va_id]
    rfl
  · intro j hj
    unfold X8_back_s31
    dsimp only
    simp only [show (8 : Int32) * nI k = nI (8 * k) from pk_mul 8 k, nI_add, if_neg (lt_lit (k := 8) 8 rfl hj (by omega)), if_neg (njo hj (by omega)), if_neg (njo (show 8 * k + j < 16 by omega) (by omega)), nI_clamp (show j < 2 ^ 31 by omega), nI_clamp (show 8 * k + j < 2 ^ 31 by omega), bx_uu, ea1, fillG, Nat.zero_add]
    rfl
  · rfl
theorem p_keep {N : Nat} (hN : 8000 ≤ N) : ∀ (a1 : Int32) (X : BX) (M : Mo), Rel X M → ∃ (r : Int32) (X1 : BX) (M1 : Mo), f_X7_keep N a1 X = some (r, X1) ∧ f_X8_keep N a1 M = some (r, M1) ∧ Rel X1 M1 := by
  intro a1 X M hR
  obtain ⟨H, t, hI, hh, hm, hT, ht, hs, hU, hK, hS, hX⟩ := id hR
  rcases wi_or a1 1 with ⟨w, -⟩ | ⟨w, -⟩
  · exact ⟨-2, X, _, by simp only [f_X7_keep, w, Option.bind_some, ↓reduceIte], by simp only [f_X8_keep, wi_in, w, Option.bind_some, ↓reduceIte], Rel_th hR⟩
  obtain ⟨k, hk, ha⟩ := few (n := 1) (by omega) w
  subst ha
  have w' : f_X7_within (nI k) 1 = some 1 := w
  obtain ⟨T1, e1, hT1⟩ := cp_c hN (T2 := X.2.2.1 k) hT.2.2.1 ht
  have m0 : M.1 5 0 = nI (t 0) := hs 0 (by omega)
  refine ⟨nI (t 0), (va_up X.1 5 (va_up (X.1 5).1 0 (upd ((X.1 5).1 0) k 1), (X.1 5).2), X.2.1, va_up X.2.2.1 k T1, X.2.2.2), (va_up (va_up M.1 7 (fillG (M.1 7) (8 * k) (M.1 5) 8)) 8 (upd (M.1 8) k 1), va_up M.2 0 (0 : Int32)), ?_, ?_, ?_⟩
  · unfold f_X7_keep
    rw [w', ht.1]
    rcases (show k = 0 ∨ k = 1 by omega) with rfl | rfl
    · simp only [Option.bind_some, oz, ↓reduceIte, if_neg (show ¬ jo (nI 0) 2 by decide), if_pos (show (nI 0).toNatClampNeg = 0 by decide), e1]
      rfl
    · simp only [Option.bind_some, oz, ↓reduceIte, if_neg (show ¬ jo (nI 1) 2 by decide), if_neg (show ¬ (nI 1).toNatClampNeg = 0 by decide), if_pos (show (nI 1).toNatClampNeg = 1 by decide), e1]
      rfl
  · unfold f_X8_keep
    rw [wi_in, w', ke_m hN (show k < 2 by omega)]
    simp only [Option.bind_some, oz, ↓reduceIte, if_neg (njo (show k < 2 by omega) (by omega)), nI_clamp (show k < 2 ^ 31 by omega)]
    rw [show va_up M.1 7 (fillG (M.1 7) (8 * k) (M.1 5) 8) 5 0 = nI (t 0) from m0]
    rfl
  · refine ⟨H, t, hI, hh, hm, hT, ht, hs, hU, fun i hi => ?_, hS, hX⟩
    show upd ((X.1 5).1 0) k 1 i = upd (M.1 8) k 1 i ∧ (upd (M.1 8) k 1 i = 0 ∨ upd (M.1 8) k 1 i = 1 ∧ ∃ a : Nat → Nat, TI H a ∧ RTc (va_up X.2.2.1 k T1 i) a ∧ RTm (fillG (M.1 7) (8 * k) (M.1 5) 8) (8 * i) a)
    by_cases hik : i = k
    · subst hik
      rw [pk_us, pk_us]
      refine ⟨rfl, Or.inr ⟨rfl, t, hT, by rw [va_up, if_pos rfl]; exact hT1, fun j hj => ?_⟩⟩
      rw [fill_in _ _ _ 8 j hj]
      have := hs j hj
      rwa [Nat.zero_add] at this
    · rw [pk_un hik, pk_un hik]
      obtain ⟨v1, v2⟩ := hK i hi
      refine ⟨v1, v2.imp id (fun ⟨g1, a, g2, g3, g4⟩ => ⟨g1, a, g2, by rw [va_up, if_neg hik]; exact g3, fun j hj => ?_⟩)⟩
      rw [fill_out _ _ _ 8 _ (by omega)]
      exact g4 j hj
theorem p_back {N : Nat} (hN : 8000 ≤ N) : ∀ (a1 : Int32) (X : BX) (M : Mo), Rel X M → ∃ (r : Int32) (X1 : BX) (M1 : Mo), f_X7_back N a1 X = some (r, X1) ∧ f_X8_back N a1 M = some (r, M1) ∧ Rel X1 M1 := by
  intro a1 X M hR
  obtain ⟨H, t, hI, hh, hm, hT, ht, hs, ⟨un, nx, ua, hun, hnx, u0, u1, ux, uu⟩, hK, hS, hX⟩ := id hR
  rcases wi_or a1 1 with ⟨w, -⟩ | ⟨w, -⟩
  · exact ⟨-2, X, _, by simp only [f_X7_back, w, Option.bind_some, ↓reduceIte], by simp only [f_X8_back, wi_in, w, Option.bind_some, ↓reduceIte], Rel_th hR⟩
  obtain ⟨k, hk, ha⟩ := few (n := 1) (by omega) w
  subst ha
  have w' : f_X7_within (nI k) 1 = some 1 := w
  obtain ⟨v1, v2⟩ := hK k (by omega)
  have j2 := njo (show k < 2 by omega) (by omega : (2 : Nat) < 2 ^ 31)
  have cl := nI_clamp (show k < 2 ^ 31 by omega)
  rcases v2 with g0 | ⟨g1, a, g2, g3, g4⟩
  · exact ⟨-4, X, _, by simp only [f_X7_back, w', if_neg j2, cl, v1, g0, Option.bind_some, oz, ↓reduceIte], by simp only [f_X8_back, wi_in, w', if_neg j2, cl, g0, Option.bind_some, oz, ↓reduceIte], Rel_th hR⟩
  · obtain ⟨T1, e1, hT1⟩ := cp_c hN (T2 := X.1 3) g2.2.2.1 g3
    refine ⟨nI (a 0), (va_up (va_up X.1 3 T1) 4 ((X.1 4).1, va_up (X.1 4).2 1 (0 : Int32)), X.2.1, X.2.2.1, X.2.2.2), (va_up M.1 5 (fillG (M.1 5) 0 (fun j => M.1 7 (8 * k + j)) 8), va_up (va_up M.2 0 (0 : Int32)) 9 (0 : Int32)), ?_, ?_, ?_⟩
    · unfold f_X7_back
      simp only [w', if_neg j2, cl, v1, g1, Option.bind_some, oz, ↓reduceIte]
      rcases (show k = 0 ∨ k = 1 by omega) with rfl | rfl
      · rw [if_pos rfl, e1]
        simp only [Option.bind_some, hT1.1]
      · rw [if_neg (by omega), if_pos rfl, e1]
        simp only [Option.bind_some, hT1.1]
    · unfold f_X8_back
      simp only [wi_in, w', if_neg j2, cl, g1, Option.bind_some, oz, ↓reduceIte, ba_m hN (show k < 2 by omega)]
      have e0 : va_up M.1 5 (fillG (M.1 5) 0 (fun j => M.1 7 (8 * k + j)) 8) 5 0 = nI (a 0) := by
        show fillG (M.1 5) 0 (fun j => M.1 7 (8 * k + j)) 8 (0 + 0) = _
        rw [fill_in _ _ _ 8 0 (by omega)]
        exact g4 0 (by omega)
      rw [e0]
    · refine ⟨H, a, hI, hh, hm, g2, hT1, fun j hj => ?_, ⟨0, nx, ua, by omega, hnx, u0, rfl, rfl, fun i hi => absurd hi (by omega)⟩, hK, hS, hX⟩
      show fillG (M.1 5) 0 _ 8 (0 + j) = _
      rw [fill_in _ _ _ 8 j hj]
      exact g4 j hj

theorem lb_m {N : Nat} (hN : 8000 ≤ N) {H : Nat → Nat → Nat} {t : Nat → Nat} {M : Mo} (hI : HI H) (hm : RHm M.1 0 H) (hT : TI H t) (hs : RTm (M.1 5) 0 t) {m : Nat} (hmm : m < H 8 0) (hl : (t 1).testBit m = true) : jw (X8_hires_s38 N M) N (nI m, M.1 4 0 - (1 : Int32)) = some (nI (lb H t (H 8 0) m (H 8 0))) := by
  have h6 := hI.1
  have hm' : RHm (M.1, va_up M.2 0 (0 : Int32)).1 0 H := hm
  have hs' : RTm ((M.1, va_up M.2 0 (0 : Int32)).1 5) 0 t := hs
  have k0 : M.1 4 0 = nI (H 8 0) := hm.1 0 (by omega)
  refine jw_F (fun j => (nI (lb H t (H 8 0) m j), nI (H 8 0 - j) - 1)) (H 8 0) (by omega) (by rw [k0]; rfl) ?_ ?_
  · intro j hj
    obtain ⟨h1, h2, -⟩ := lb_spec (H := H) hmm hl j (by omega)
    have e1 : nI (H 8 0 - j) - 1 = nI (H 8 0 - 1 - j) := by rw [es1 (by omega)]; congr 1; omega
    unfold X8_hires_s38
    dsimp only
    rw [e1, if_neg (nI_pos (by omega)), li_m hI hT hs' (show H 8 0 - 1 - j < H 8 0 by omega), lb]
    have e2 : nI (H 8 0 - 1 - j) + (-1 : Int32) = nI (H 8 0 - (j + 1)) - 1 := by
      rw [show H 8 0 - 1 - j = H 8 0 - (j + 1) by omega]
      rw [Int32.sub_eq_add_neg]
    by_cases hv : (t 1).testBit (H 8 0 - 1 - j) = true
    · have hd1 := dr_le hI (lb H t (H 8 0) m j)
      have hd2 := dr_le hI (H 8 0 - 1 - j)
      simp only [liv1 hv, if_pos hv, Option.bind_some, oz, ↓reduceIte, dr_m hN hI hm' (show H 8 0 - 1 - j < H 8 0 by omega), dr_m hN hI hm' h1]
      by_cases hd : dr H (lb H t (H 8 0) m j) < dr H (H 8 0 - 1 - j)
      · rw [if_pos ((pk_lLT (by omega) (by omega)).mpr hd), if_pos hd]
        simp only [Option.bind_some, e2]
      · rw [if_neg (fun c => hd ((pk_lLT (by omega) (by omega)).mp c)), if_neg hd]
        simp only [Option.bind_some, e2]
    · simp only [liv0 hv, if_neg hv, Option.bind_some, ↓reduceIte, e2]
  · unfold X8_hires_s38
    dsimp only
    rw [Nat.sub_self, if_pos (by decide)]
theorem p_hires {N : Nat} (hN : 8000 ≤ N) : ∀ (a1 : Int32) (X : BX) (M : Mo), Rel X M → ∃ (r : Int32) (M1 : Mo), f_X7_hires N a1 X = some r ∧ f_X8_hires N a1 M = some (r, M1) ∧ Rel X M1 := by
  intro a1 X M hR
  obtain ⟨H, t, hI, hh, hm, hT, ht, hs, -⟩ := id hR
  have hm' : RHm (M.1, va_up M.2 0 (0 : Int32)).1 0 H := hm
  have hs' : RTm ((M.1, va_up M.2 0 (0 : Int32)).1 5) 0 t := hs
  have h6 := hI.1
  rcases ix_or a1 (n := H 8 0) (by omega) with h1 | ⟨m, hm1, rfl⟩
  · exact ⟨-2, _, by simp only [f_X7_hires, hm_n hh h1, Option.bind_some, ↓reduceIte], by simp only [f_X8_hires, im_n hI hm' h1, Option.bind_some, ↓reduceIte], Rel_th hR⟩
  by_cases hl : (t 1).testBit m = true
  · obtain ⟨g1, g2, g3, g4, g5⟩ := lb_spec (H := H) hm1 hl (H 8 0) (Nat.le_refl _)
    have hla := (la_spec H t (H 8 0)).resolve_left (fun h => h.2 m hm1 hl)
    obtain ⟨q0, qa⟩ := hla
    have hb1 := dr_le hI (la H t (H 8 0) - 1)
    have hb2 := dr_le hI m
    have hb3 := dr_le hI (lb H t (H 8 0) m (H 8 0))
    have hmin := qa.2.2 m hm1 hl
    have hC : f_X7_hires N (nI m) X = if lN (dr H m) ≤ lN (dr H (la H t (H 8 0) - 1)) then some (nI m) else some (nI (la H t (H 8 0) - 1)) := by
      simp only [f_X7_hires, hm_y hI hh hm1, li_c hI hT ht hm1, liv1 hl, la_c hN hI hh hT ht, es1 q0, dr_c hN hI hh qa.1, dr_c hN hI hh hm1, Option.bind_some, oz, ↓reduceIte]
    have hM : f_X8_hires N (nI m) M = if lN (dr H m) ≤ lN (dr H (lb H t (H 8 0) m (H 8 0))) then some (nI m, (M.1, va_up M.2 0 (0 : Int32))) else some (nI (lb H t (H 8 0) m (H 8 0)), (M.1, va_up M.2 0 (0 : Int32))) := by
      simp only [f_X8_hires, im_y hI hm' hm1, li_m hI hT hs' hm1, liv1 hl, lb_m hN hI hm hT hs hm1 hl, dr_m hN hI hm' g1, dr_m hN hI hm' hm1, Option.bind_some, oz, ↓reduceIte]
    have e1 : dr H (la H t (H 8 0) - 1) = dr H (lb H t (H 8 0) m (H 8 0)) := Nat.le_antisymm (qa.2.2 _ g1 g2).1 (g3 _ (by omega) qa.1 qa.2.1).1
    by_cases hd : dr H m ≤ dr H (la H t (H 8 0) - 1)
    · refine ⟨nI m, _, ?_, ?_, Rel_th hR⟩
      · rw [hC, if_pos ((lN_le63 (by omega) (by omega)).mpr hd)]
      · rw [hM, if_pos ((lN_le63 (by omega) (by omega)).mpr (by omega))]
    · have hne : lb H t (H 8 0) m (H 8 0) ≠ m := fun e => by rw [e] at e1; omega
      have harg : isArg H t (H 8 0) (lb H t (H 8 0) m (H 8 0)) := ⟨g1, g2, fun i hi hli => ⟨(g3 i (by omega) hi hli).1, fun e => ((g3 i (by omega) hi hli).2 e).resolve_right hne⟩⟩
      have e2 := arg_one qa harg
      refine ⟨nI (la H t (H 8 0) - 1), _, ?_, ?_, Rel_th hR⟩
      · rw [hC, if_neg (fun c => hd ((lN_le63 (by omega) (by omega)).mp c))]
      · rw [hM, ← e2, if_neg (fun c => hd ((lN_le63 (by omega) (by omega)).mp c))]
  · exact ⟨-4, _, by simp only [f_X7_hires, hm_y hI hh hm1, li_c hI hT ht hm1, liv0 hl, Option.bind_some, oz, ↓reduceIte], by simp only [f_X8_hires, im_y hI hm' hm1, li_m hI hT hs' hm1, liv0 hl, Option.bind_some, oz, ↓reduceIte], Rel_th hR⟩

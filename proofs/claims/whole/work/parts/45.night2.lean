theorem d6 : ∀ d, d < 6 → (nI d = (-1 : Int32)) = False := by decide
theorem t1z : ((1 : Int32) = 0) = False := by decide
theorem p_night {N : Nat} (hN : 8000 ≤ N) : ∀ (a1 : Int32) (X : BX) (M : Mo), Rel X M → ∃ (r : Int32) (X1 : BX) (M1 : Mo), f_X7_night N a1 X = some (r, X1) ∧ f_X8_night N a1 M = some (r, M1) ∧ Rel X1 M1 := by
  intro a1 X M hR
  obtain ⟨H, t, hI, hh, hm, hT, ht, hs, hU, hK, hS, hX⟩ := id hR
  have hm' : RHm (M.1, va_up M.2 0 (0 : Int32)).1 0 H := hm
  have hs' : RTm ((M.1, va_up M.2 0 (0 : Int32)).1 5) 0 t := hs
  have hU' : RU H (X.1 4) X.2.1 ((M.1, va_up M.2 0 (0 : Int32)).1 6) ((M.1, va_up M.2 0 (0 : Int32)).2 9) := hU
  have h6 := hI.1
  have h5 := hI.2.1
  have c1 : (X.1 1).2 1 = nI (H 8 1) := hh.1 1 (by omega)
  have m0 : M.1 5 0 = nI (t 0) := hs 0 (by omega)
  have m2 : M.1 5 2 = nI (t 2) := hs 2 (by omega)
  rcases wi_or a1 9999 with ⟨w, -⟩ | ⟨w, -⟩
  · exact ⟨-3, X, _, by simp only [f_X7_night, w, Option.bind_some, ↓reduceIte], by simp only [f_X8_night, wi_in, w, Option.bind_some, ↓reduceIte], Rel_th hR⟩
  have c2 := ht.2.2.1
  have c0 := ht.1
  by_cases hw : whole H t
  case neg =>
    refine ⟨-4, X, _, ?_, by simp only [f_X8_night, wi_in, w, (wh_m hN hI hT hm' hs').2 hw, Option.bind_some, oz, ↓reduceIte], Rel_th hR⟩
    unfold f_X7_night
    simp only [w, c1, wh_c0 hN hI hT ht hw, Option.bind_some, oz, ↓reduceIte, ite_self]
  have ew := (wh_m hN hI hT hm' hs').1 hw
  have ec := wh_c1 hN hI hT ht hw
  rcases (show t 2 = 0 ∨ t 2 = 1 by have := hT.2.2.1; omega) with h2 | h2
  case inr =>
    rw [h2] at m2 c2
    refine ⟨-4, X, _, ?_, ?_, Rel_th hR⟩
    · unfold f_X7_night
      simp only [w, c2, show nI 1 = (1 : Int32) from rfl, Option.bind_some, oz, ↓reduceIte]
    · unfold f_X8_night
      simp only [wi_in, w, ew, m2, show nI 1 = (1 : Int32) from rfl, Option.bind_some, oz, ↓reduceIte]
  rw [h2] at m2 c2
  have q2 : (nI 0 = (1 : Int32)) = False := by decide
  by_cases hn : t 0 < 999
  case neg =>
    have h9 : t 0 = 999 := by have := hT.1; omega
    rw [h9] at m0 c0
    refine ⟨-5, X, _, ?_, ?_, Rel_th hR⟩
    · unfold f_X7_night
      simp only [w, c2, c1, c0, ec, show nI 0 = (0 : Int32) from rfl, show (nI 999 < (999 : Int32)) = False by decide, Option.bind_some, oz, ↓reduceIte]
    · unfold f_X8_night
      simp only [wi_in, w, ew, m2, m0, q2, show nI 999 = (999 : Int32) from rfl, Option.bind_some, oz, ↓reduceIte]
  have n9 : nI (t 0) < (999 : Int32) := nI_lt (b := 999) hn (by omega)
  have q9 : (nI (t 0) = (999 : Int32)) = False := eq_false (fun h => by have := (nI_eq (b := 999) (show t 0 < 2 ^ 31 by omega) (by omega)).mp h; omega)
  obtain ⟨u1, R1, f1, x1, er, en, hU1⟩ := RU_note hN hU' hT ht hs'
  have hmN : RHm (va_up M.1 6 f1) 0 H := hm
  have hsN : RTm ((va_up M.1 6 f1) 5) 0 t := hs
  have hhN : RHc ((va_up X.1 4 u1, R1, X.2.2.1, X.2.2.2).1 1) H := hh
  have htN : RTc ((va_up X.1 4 u1, R1, X.2.2.1, X.2.2.2).1 3) t := ht
  by_cases hc : ∃ k, k < H 8 1 ∧ cgt H t a1 k
  case neg =>
    have hno : ∀ j, j < H 8 1 → ¬ cgt H t a1 j := fun j hj c => hc ⟨j, hj, c⟩
    refine ⟨-1, (va_up (va_up (va_up X.1 3 ((X.1 3).1, va_up ((X.1 3).2) 2 (1 : Int32))) 4 u1) 3 ((X.1 3).1, va_up (va_up ((X.1 3).2) 2 (1 : Int32)) 0 (nI (t 0) + 1)), R1, X.2.2.1, X.2.2.2), (va_up (va_up M.1 6 f1) 5 (upd (upd (M.1 5) 0 (nI (t 0) + 1)) 2 1), va_up (va_up M.2 0 0) 9 x1), ?_, ?_, ?_⟩
    · unfold f_X7_night
      simp only [w, c2, c1, c0, ec, er, n9, show nI 0 = (0 : Int32) from rfl, Option.bind_some, oz, ↓reduceIte, cb_no hN hI hhN hT htN hw a1 hno]
      congr 5
      show va_up (va_up ((X.1 3).2) 2 (1 : Int32)) 0 ((X.1 3).2 0 + 1) = _
      rw [c0]
    · unfold f_X8_night
      simp only [wi_in, w, ew, m2, m0, q2, q9, en, Option.bind_some, oz, ↓reduceIte]
      rw [jw_F (s := (0 : Int32)) (n := N) (fun j => nI j) (H 8 1) (r := .inl ()) (by omega) rfl (fun j hj => (nm_step hN hI hmN hT hsN hw a1 hj).1 (hno j hj))]
      · show some ((-1 : Int32), (va_up (va_up M.1 6 f1) 5 (upd (upd (M.1 5) 0 (M.1 5 0 + 1)) 2 1), va_up (va_up M.2 0 0) 9 x1)) = _
        rw [m0]
      · unfold X8_night_s70
        rw [show (va_up M.1 6 f1, va_up (va_up M.2 0 0) 9 x1).1 4 1 = nI (H 8 1) from hm.1 1 (by omega), if_pos (nI_le (Nat.le_refl _) (by omega))]
    · refine ⟨H, rung t, hI, hh, hm, rung_TI hT hn, ⟨nI_1 (t 0), ht.2.1, rfl, fun k hk => ?_⟩, ?_, hU1, hK, hS, hX⟩
      · rw [show rung t (3 + k) = t (3 + k) by unfold rung; rw [if_neg (by omega), if_neg (by omega)]]
        exact ht.2.2.2 k hk
      · intro j hj
        show upd (upd (M.1 5) 0 (nI (t 0) + 1)) 2 1 (0 + j) = _
        rw [Nat.zero_add]
        by_cases j2 : j = 2
        · subst j2; rfl
        · rw [pk_un j2]
          by_cases j0 : j = 0
          · subst j0; exact nI_1 (t 0)
          · rw [pk_un j0, show rung t j = t j by unfold rung; rw [if_neg j0, if_neg j2]]
            have := hs j hj
            rwa [Nat.zero_add] at this
  obtain ⟨k, ⟨hk, hck⟩, hno⟩ := pk_least _ hc
  have hno' : ∀ j, j < k → ¬ cgt H t a1 j := fun j hj c => hno j hj ⟨by omega, c⟩
  have h0 := hw k hk
  have hle := (hT.2.2.2 k (by omega)).1
  have hd : t (3 + k) - 1 < H 8 0 := by omega
  have hlv : (t 1).testBit (t (3 + k) - 1) = true := (hT.2.2.2 k (by omega)).2.2 _ (by omega)
  obtain ⟨T1, el, l0, l1, l2, l3⟩ := lose_c hN hI hT ht hd hlv
  refine ⟨nI (t (3 + k) - 1), (va_up (va_up (va_up X.1 3 T1) 4 u1) 3 (T1.1, va_up T1.2 0 (nI (t 0) + 1)), R1, X.2.2.1, X.2.2.2), (va_up (va_up M.1 6 f1) 5 (lsG (upd (upd (M.1 5) 0 (nI (t 0 + 1))) 1 (nI (clr (t 1) (t (3 + k) - 1)))) (nI (t (3 + k))) 0 3 5), va_up (va_up M.2 0 0) 9 x1), ?_, ?_, ?_⟩
  · unfold f_X7_night
    simp only [w, c2, c1, c0, ec, er, n9, show nI 0 = (0 : Int32) from rfl, Option.bind_some, oz, ↓reduceIte, cb_yes hN hI hhN hT htN hw a1 hk hck hno', d6 _ (show t (3 + k) - 1 < 6 by omega), el]
    congr 5
    show va_up T1.2 0 (T1.2 0 + 1) = _
    rw [l0]
  · unfold f_X8_night
    simp only [wi_in, w, ew, m2, m0, q2, q9, en, Option.bind_some, oz, ↓reduceIte]
    rw [jw_F (s := (0 : Int32)) (n := N) (fun j => nI j) k (by omega) rfl (fun j hj => (nm_step hN hI hmN hT hsN hw a1 (show j < H 8 1 by omega)).1 (hno' j hj)) ((nm_step hN hI hmN hT hsN hw a1 hk).2 hck)]
    rfl
  · refine ⟨H, lost t (t (3 + k) - 1), hI, hh, hm, lost_TI hI hT hn hd, ⟨nI_1 (t 0), l1, l2, fun j hj => ?_⟩, ?_, hU1, hK, hS, hX⟩
    · rw [show lost t (t (3 + k) - 1) (3 + j) = if t (3 + j) = t (3 + k) - 1 + 1 then 0 else t (3 + j) by unfold lost; rw [if_neg (by omega), if_neg (by omega), if_neg (by omega)]]
      exact l3 j hj
    · intro j hj
      show lsG (upd (upd (M.1 5) 0 (nI (t 0 + 1))) 1 (nI (clr (t 1) (t (3 + k) - 1)))) (nI (t (3 + k))) 0 3 5 (0 + j) = _
      rw [Nat.zero_add]
      have hj5 := hs j hj
      rw [Nat.zero_add] at hj5
      unfold lsG lost
      by_cases j0 : j = 0
      · subst j0; rfl
      · by_cases j1 : j = 1
        · subst j1; rfl
        · rw [pk_un j1, pk_un j0, hj5, if_neg j0, if_neg j1]
          by_cases j2 : j = 2
          · subst j2; rfl
          · rw [if_neg j2]
            have hb := (hT.2.2.2 (j - 3) (by omega)).1
            rw [show 3 + (j - 3) = j by omega] at hb
            by_cases hv : t j = t (3 + k) - 1 + 1
            · rw [if_pos hv, if_pos ⟨by omega, by omega, by rw [hv]; congr 1; omega⟩]
              rfl
            · rw [if_neg hv, if_neg (fun c => hv (by have := (nI_eq (show t j < 2 ^ 31 by omega) (show t (3 + k) < 2 ^ 31 by omega)).mp c.2.2; omega))]

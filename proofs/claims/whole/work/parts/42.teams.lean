/-! PURE: put, clear, undo, keep, back. -/
theorem p_put {N : Nat} (hN : 8000 ≤ N) : ∀ (a1 a2 : Int32) (X : BX) (M : Mo), Rel X M → ∃ (r : Int32) (X1 : BX) (M1 : Mo), f_X7_put N a1 a2 X = some (r, X1) ∧ f_X8_put N a1 a2 M = some (r, M1) ∧ Rel X1 M1 := by
  intro a1 a2 X M hR
  obtain ⟨H, t, hI, hh, hm, hT, ht, hs, hU, hK, hS, hX⟩ := id hR
  have hm' : RHm (M.1, va_up M.2 0 (0 : Int32)).1 0 H := hm
  have hs' : RTm ((M.1, va_up M.2 0 (0 : Int32)).1 5) 0 t := hs
  have hU' : RU H (X.1 4) X.2.1 ((M.1, va_up M.2 0 (0 : Int32)).1 6) ((M.1, va_up M.2 0 (0 : Int32)).2 9) := hU
  have h6 := hI.1
  have h5 := hI.2.1
  rcases ix_or a1 (n := H 8 1) (by omega) with h1 | ⟨s, hs1, rfl⟩
  · exact ⟨-2, X, _, by simp only [f_X7_put, hs_n hh h1, Option.bind_some, ↓reduceIte], by simp only [f_X8_put, is_n hI hm' h1, Option.bind_some, ↓reduceIte], Rel_th hR⟩
  rcases ix_or a2 (n := H 8 0) (by omega) with h2 | ⟨m, hm2, rfl⟩
  · exact ⟨-2, X, _, by simp only [f_X7_put, hs_y hI hh hs1, hm_n hh h2, Option.bind_some, oz, ↓reduceIte], by simp only [f_X8_put, is_y hI hm' hs1, im_n hI hm' h2, Option.bind_some, oz, ↓reduceIte], Rel_th hR⟩
  by_cases hl : (t 1).testBit m = true
  · obtain ⟨u1, R1, f1, x1, e1, e2, hU1⟩ := RU_note hN hU' hT ht hs'
    -- the new team
    have hT1 : TI H (upN t (3 + s) (m + 1)) := by
      refine ⟨by show (if 0 = 3 + s then _ else t 0) ≤ _; rw [if_neg (by omega)]; exact hT.1, by show (if 1 = 3 + s then _ else t 1) < _; rw [if_neg (by omega)]; exact hT.2.1, by show (if 2 = 3 + s then _ else t 2) ≤ _; rw [if_neg (by omega)]; exact hT.2.2.1, fun k hk => ?_⟩
      have hb : upN t (3 + s) (m + 1) 1 = t 1 := if_neg (by omega)
      by_cases hks : k = s
      · have e : upN t (3 + s) (m + 1) (3 + k) = m + 1 := if_pos (by omega)
        rw [e, hb]
        exact ⟨by omega, fun h => by omega, fun d hd => by obtain rfl : d = m := by omega
                                                           exact hl⟩
      · have e : upN t (3 + s) (m + 1) (3 + k) = t (3 + k) := if_neg (by omega)
        rw [e, hb]
        exact hT.2.2.2 k hk
    have ht1 : RTc (va_up (X.1 3).1 0 (upd ((X.1 3).1 0) s (nI m)), (X.1 3).2) (upN t (3 + s) (m + 1)) := by
      refine ⟨ht.1.trans (by rw [upN, if_neg (by omega)]), ht.2.1.trans (by rw [upN, if_neg (by omega)]), ht.2.2.1.trans (by rw [upN, if_neg (by omega)]), fun k hk => ?_⟩
      show upd ((X.1 3).1 0) s (nI m) k = _
      by_cases hks : k = s
      · rw [hks, pk_us, upN, if_pos rfl, nI_pred]
      · rw [pk_un hks, upN, if_neg (by omega)]
        exact ht.2.2.2 k hk
    have hs1' : RTm (upd (M.1 5) (3 + s) (nI (m + 1))) 0 (upN t (3 + s) (m + 1)) := by
      intro j hj
      rw [Nat.zero_add]
      by_cases hjs : j = 3 + s
      · rw [hjs, pk_us, upN, if_pos rfl]
      · rw [pk_un hjs, upN, if_neg hjs]
        have := hs j hj
        rwa [Nat.zero_add] at this
    have hmn : RHm (va_up (va_up M.1 6 f1) 5 (upd (M.1 5) (3 + s) (nI (m + 1)))) 0 H := hm
    have d1 : f_X4_setDoer (nI s) (nI m) (X.1 3) = some (va_up (X.1 3).1 0 (upd ((X.1 3).1 0) s (nI m)), (X.1 3).2) := by
      simp only [f_X4_setDoer, if_neg (nI_pos (show s < 2 ^ 31 by omega)), if_neg (lt_lit (k := 5) 5 rfl (show s < 5 by omega) (by omega)), if_neg (njo (show s < 5 by omega) (by omega)), nI_clamp (show s < 2 ^ 31 by omega)]
    refine ⟨nI (cn (upN t (3 + s) (m + 1)) (H 8 1)), (va_up (va_up X.1 3 (va_up (X.1 3).1 0 (upd ((X.1 3).1 0) s (nI m)), (X.1 3).2)) 4 u1, R1, X.2.2.1, X.2.2.2), (va_up (va_up M.1 6 f1) 5 (upd (M.1 5) (3 + s) (nI (m + 1))), va_up (va_up M.2 0 (0 : Int32)) 9 x1), ?_, ?_, ?_⟩
    · simp only [f_X7_put, hs_y hI hh hs1, hm_y hI hh hm2, li_c hI hT ht hm2, liv1 hl, e1, d1, fi_c hN hI hT1 ht1, Option.bind_some, oz, ↓reduceIte]
    · simp only [f_X8_put, is_y hI hm' hs1, im_y hI hm' hm2, li_m hI hT hs' hm2, liv1 hl, e2, e3a, ea1, if_neg (njo (show 3 + s < 8 by omega) (by omega)), nI_clamp (show 3 + s < 2 ^ 31 by omega), Option.bind_some, oz, ↓reduceIte]
      rw [show va_up M.1 6 f1 5 = M.1 5 from rfl, dn_m (M := (va_up (va_up M.1 6 f1) 5 (upd (M.1 5) (3 + s) (nI (m + 1))), va_up (va_up M.2 0 (0 : Int32)) 9 x1)) hN hI hT1 hmn hs1']
      rfl
    · exact ⟨H, upN t (3 + s) (m + 1), hI, hh, hm, hT1, ht1, hs1', hU1, hK, hS, hX⟩
  · exact ⟨-4, X, _, by simp only [f_X7_put, hs_y hI hh hs1, hm_y hI hh hm2, li_c hI hT ht hm2, liv0 hl, Option.bind_some, oz, ↓reduceIte], by simp only [f_X8_put, is_y hI hm' hs1, im_y hI hm' hm2, li_m hI hT hs' hm2, liv0 hl, Option.bind_some, oz, ↓reduceIte], Rel_th hR⟩
/-- an array filled -/
theorem fil {N : Nat} (hN : 8000 ≤ N) (v : Int32) (f : Nat → Int32) : f_J7_fill_53178 N v 5 f = some (fillG f 0 (fun _ => v) 5) := by
  unfold f_J7_fill_53178
  rw [jw_F (s := ((0 : Int32), f)) (n := N) (fun j => (nI j, fillG f 0 (fun _ => v) j)) 5 (r := fillG f 0 (fun _ => v) 5) (by omega) rfl]
  · rfl
  · intro j hj
    unfold J7_fill_53178_s5
    dsimp only
    rw [if_neg (show ¬ Int32.ofNat 5 ≤ nI j from nI_ge hj (by omega)), if_neg (njo hj (by omega)), nI_clamp (by omega), ea1, fillG, Nat.zero_add]
  · rfl
def noTeam (t : Nat → Nat) : Nat → Nat := fun j => if j < 3 then t j else 0
theorem nt_TI {H : Nat → Nat → Nat} {t : Nat → Nat} (h : TI H t) : TI H (noTeam t) := ⟨h.1, h.2.1, h.2.2.1, fun k hk => by
  have e : noTeam t (3 + k) = 0 := if_neg (by omega)
  rw [e]
  exact ⟨by omega, fun _ => rfl, fun d hd => by omega⟩⟩
theorem di_c {N : Nat} (hN : 8000 ≤ N) {T : Mo} {t : Nat → Nat} (ht : RTc T t) : ∃ T1, f_X4_dismiss N T = some T1 ∧ RTc T1 (noTeam t) := by
  refine ⟨(va_up T.1 0 (fillG (T.1 0) 0 (fun _ => (-1 : Int32)) 5), T.2), ?_, ht.1, ht.2.1, ht.2.2.1, fun k hk => ?_⟩
  · unfold f_X4_dismiss
    rw [fil hN]
    rfl
  · show fillG (T.1 0) 0 (fun _ => (-1 : Int32)) 5 k = _
    have := fill_in (T.1 0) 0 (fun _ => (-1 : Int32)) 5 k hk
    rw [Nat.zero_add] at this
    rw [this, noTeam, if_neg (by omega)]
    rfl
theorem cl_m {N : Nat} (hN : 8000 ≤ N) {A : Nat → Nat → Int32} {B : Nat → Int32} : jw X8_clear_s16 N ((0 : Int32), (A, B)) = some (va_up A 5 (fillG (A 5) 3 (fun _ => 0) 5), B) := by
  refine jw_F (fun j => (nI j, (va_up A 5 (fillG (A 5) 3 (fun _ => 0) j), B))) 5 (by omega) ?_ ?_ ?_
  · show _ = (nI 0, (va_up A 5 (A 5), B))
    rw [va_id]
    rfl
  · intro j hj
    unfold X8_clear_s16
    dsimp only
    rw [e3a, if_neg (lt_lit (k := 5) 5 rfl hj (by omega)), if_neg (njo (show 3 + j < 8 by omega) (by omega)), nI_clamp (by omega), bx_uu, ea1, fillG]
    rfl
  · rfl
theorem p_clear {N : Nat} (hN : 8000 ≤ N) : ∀ (X : BX) (M : Mo), Rel X M → ∃ (r : Int32) (X1 : BX) (M1 : Mo), f_X7_clear N X = some (r, X1) ∧ f_X8_clear N M = some (r, M1) ∧ Rel X1 M1 := by
  intro X M hR
  obtain ⟨H, t, hI, hh, hm, hT, ht, hs, hU, hK, hS, hX⟩ := id hR
  have hm' : RHm (M.1, va_up M.2 0 (0 : Int32)).1 0 H := hm
  have hs' : RTm ((M.1, va_up M.2 0 (0 : Int32)).1 5) 0 t := hs
  have hU' : RU H (X.1 4) X.2.1 ((M.1, va_up M.2 0 (0 : Int32)).1 6) ((M.1, va_up M.2 0 (0 : Int32)).2 9) := hU
  obtain ⟨u1, R1, f1, x1, e1, e2, hU1⟩ := RU_note hN hU' hT ht hs'
  obtain ⟨T1, e3, hT1⟩ := di_c hN ht
  refine ⟨nI (cn t (H 8 1)), (va_up (va_up X.1 3 T1) 4 u1, R1, X.2.2.1, X.2.2.2), (va_up (va_up M.1 6 f1) 5 (fillG (M.1 5) 3 (fun _ => 0) 5), va_up (va_up M.2 0 (0 : Int32)) 9 x1), ?_, ?_, ?_⟩
  · simp only [f_X7_clear, e1, fi_c hN hI hT ht, e3, Option.bind_some]
  · simp only [f_X8_clear, dn_m hN hI hT hm' hs', e2, Option.bind_some, cl_m hN]
    rfl
  · refine ⟨H, noTeam t, hI, hh, hm, nt_TI hT, hT1, fun j hj => ?_, hU1, hK, hS, hX⟩
    show fillG (M.1 5) 3 (fun _ => 0) 5 (0 + j) = _
    rw [Nat.zero_add]
    rcases Nat.lt_or_ge j 3 with h | h
    · rw [fill_out _ _ _ 5 j (by omega), noTeam, if_pos h]
      have := hs j hj
      rwa [Nat.zero_add] at this
    · have := fill_in (M.1 5) 3 (fun _ => (0 : Int32)) 5 (j - 3) (by omega)
      rw [show 3 + (j - 3) = j by omega] at this
      rw [this, noTeam, if_neg (by omega)]
      rfl
theorem un_m {N : Nat} (hN : 8000 ≤ N) {A : Nat → Nat → Int32} {B : Nat → Int32} {k : Nat} (hk : k < 8) (hB : B 9 = nI k) : jw X8_undo_s27 N ((0 : Int32), (A, B)) = some (va_up A 5 (fillG (A 5) 0 (fun j => A 6 (8 * k + j)) 8), B) := by
  refine jw_F (fun j => (nI j, (va_up A 5 (fillG (A 5) 0 (fun j => A 6 (8 * k + j)) j), B))) 8 (by omega) ?_ ?_ ?_
  · show _ = (nI 0, (va_up A 5 (A 5), B))
    rw [va_id]
    rfl
  · intro j hj
    unfold X8_undo_s27
    dsimp only
    simp only [hB, show (8 : Int32) * nI k = nI (8 * k) from pk_mul 8 k, nI_add, if_neg (lt_lit (k := 8) 8 rfl hj (by omega)), if_neg (njo hj (by omega)), if_neg (njo (show 8 * k + j < 64 by omega) (by omega)), nI_clamp (show j < 2 ^ 31 by omega), nI_clamp (show 8 * k + j < 2 ^ 31 by omega), bx_uu, ea1, fillG, Nat.zero_add]
    rfl
  · rfl
theorem p_undo {N : Nat} (hN : 8000 ≤ N) : ∀ (X : BX) (M : Mo), Rel X M → ∃ (r : Int32) (X1 : BX) (M1 : Mo), f_X7_undo N X = some (r, X1) ∧ f_X8_undo N M = some (r, M1) ∧ Rel X1 M1 := by
  intro X M hR
  obtain ⟨H, t, hI, hh, hm, hT, ht, hs, ⟨un, nx, a, hun, hnx, u0, u1, ux, ua⟩, hK, hS, hX⟩ := id hR
  rcases Nat.eq_zero_or_pos un with h0 | h0
  · subst h0
    refine ⟨-4, X, _, ?_, by simp only [f_X8_undo, ux, nI_0, ↓reduceIte], Rel_th hR⟩
    simp only [f_X7_undo, f_X6_restore, u1, if_neg (show ¬ (0 : Int32) < nI 0 by decide), Option.bind_some, ↓reduceIte, va_id]
  · obtain ⟨b1, b2, b3⟩ := ua (un - 1) (by omega)
    rw [show (nx + 8 - un + (un - 1)) % 8 = (nx + 7) % 8 by omega] at b2
    obtain ⟨T1, e1, hT1⟩ := res_c hN (T := X.1 3) hun h0 hnx u0 u1 b1.2.2.1 b2
    refine ⟨nI (un - 1), (va_up (va_up X.1 3 T1) 4 ((X.1 4).1, va_up (va_up (X.1 4).2 0 (nI ((nx + 7) % 8))) 1 (nI (un - 1))), X.2.1, X.2.2.1, X.2.2.2), (va_up M.1 5 (fillG (M.1 5) 0 (fun j => M.1 6 (8 * (un - 1) + j)) 8), va_up (va_up M.2 0 (0 : Int32)) 9 (nI (un - 1))), ?_, ?_, ?_⟩
    · simp only [f_X7_undo, e1, Option.bind_some, oz, ↓reduceIte]
      rfl
    · simp only [f_X8_undo, ux, if_neg (nI_ne0 h0 (show un < 2 ^ 31 by omega)), es1 h0]
      rw [un_m hN (k := un - 1) (by omega) rfl]
      rfl
    · refine ⟨H, a (un - 1), hI, hh, hm, b1, hT1, fun j hj => ?_, ⟨un - 1, (nx + 7) % 8, a, by omega, by omega, rfl, rfl, rfl, fun i hi => ?_⟩, hK, hS, hX⟩
      · show fillG (M.1 5) 0 _ 8 (0 + j) = _
        rw [fill_in _ _ _ 8 j hj]
        exact b3 j hj
      · obtain ⟨c1, c2, c3⟩ := ua i (by omega)
        refine ⟨c1, ?_, c3⟩
        rw [show ((nx + 7) % 8 + 8 - (un - 1) + i) % 8 = (nx + 8 - un + i) % 8 by omega]
        exact c2

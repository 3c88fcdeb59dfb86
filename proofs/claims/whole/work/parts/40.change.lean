/-! PURE: calls that change: the text, what is seen, what is kept. -/
theorem va_id {α : Type} (f : Nat → α) (k : Nat) : va_up f k (f k) = f := by
  funext j
  unfold va_up
  split
  · rename_i h; rw [h]
  · rfl
def fillG (g0 : Nat → Int32) (o : Nat) (v : Nat → Int32) : Nat → Nat → Int32
  | 0 => g0
  | j + 1 => upd (fillG g0 o v j) (o + j) (v j)
theorem fill_in (g0 : Nat → Int32) (o : Nat) (v : Nat → Int32) : ∀ n k, k < n → fillG g0 o v n (o + k) = v k
  | 0, k, h => absurd h (by omega)
  | n + 1, k, h => by
    rw [fillG]
    rcases Nat.lt_or_ge k n with h1 | h1
    · rw [pk_un (by omega)]
      exact fill_in g0 o v n k h1
    · obtain rfl : k = n := by omega
      exact pk_us
theorem fill_out (g0 : Nat → Int32) (o : Nat) (v : Nat → Int32) : ∀ n p, (p < o ∨ o + n ≤ p) → fillG g0 o v n p = g0 p
  | 0, p, _ => rfl
  | n + 1, p, h => by
    rw [fillG, pk_un (by omega)]
    exact fill_out g0 o v n p (by omega)
def upN (f : Nat → Nat) (k v : Nat) : Nat → Nat := fun j => if j = k then v else f j
theorem p_write : ∀ (a1 : Int32) (X : BX) (M : Mo), Rel X M → ∃ (r : Int32) (X1 : BX) (M1 : Mo), f_X7_write a1 X = some (r, X1) ∧ f_X8_write a1 M = some (r, M1) ∧ Rel X1 M1 := by
  intro a1 X M hR
  obtain ⟨H, t, hI, hh, hm, hT, ht, hs, hU, hK, hS, ⟨n, hn, x1, x2, x3⟩⟩ := id hR
  rcases wi_or a1 255 with ⟨w, -⟩ | ⟨w, -⟩
  · exact ⟨-3, X, _, by simp only [f_X7_write, w, Option.bind_some, ↓reduceIte], by simp only [f_X8_write, wi_in, w, Option.bind_some, ↓reduceIte], Rel_th hR⟩
  · obtain ⟨c, hc, ha⟩ := few (n := 255) (by omega) w
    subst ha
    have w' : f_X7_within (nI c) 255 = some 1 := w
    rcases Nat.lt_or_ge n 160 with h | h
    · refine ⟨nI (n + 1), (va_up X.1 0 (va_up (X.1 0).1 0 (upd ((X.1 0).1 0) n (nI c)), va_up (X.1 0).2 0 (nI (n + 1))), X.2.1, X.2.2.1, X.2.2.2), (va_up M.1 0 (upd (M.1 0) n (nI c)), va_up (va_up M.2 0 (0 : Int32)) 1 (nI (n + 1))), ?_, ?_, ?_⟩
      · simp only [f_X7_write, f_X5_append, w', x1, if_neg (nI_pos (show n < 2 ^ 31 by omega)), if_pos (show nI n < (160 : Int32) from nI_lt (b := 160) h (by omega)), if_neg (njo h (by omega)), nI_clamp (show n < 2 ^ 31 by omega), Option.bind_some, oz, ↓reduceIte, ea1]
        rfl
      · simp only [f_X8_write, wi_in, w', x2, if_neg (show ¬ nI n = (160 : Int32) from fun e => absurd ((nI_eq (b := 160) (by omega) (by omega)).mp e) (by omega)), if_neg (njo h (by omega)), nI_clamp (show n < 2 ^ 31 by omega), Option.bind_some, oz, ↓reduceIte, ea1]
      · refine ⟨H, t, hI, hh, hm, hT, ht, hs, hU, hK, hS, ⟨n + 1, by omega, rfl, rfl, fun i hi => ?_⟩⟩
        rcases Nat.lt_or_ge i n with h1 | h1
        · obtain ⟨d, hd, e1, e2⟩ := x3 i h1
          exact ⟨d, hd, by show upd _ n _ i = _; rw [pk_un (by omega)]; exact e1, by show upd _ n _ i = _; rw [pk_un (by omega)]; exact e2⟩
        · obtain rfl : i = n := by omega
          exact ⟨c, by omega, pk_us, pk_us⟩
    · obtain rfl : n = 160 := by omega
      refine ⟨-5, X, _, ?_, by simp only [f_X8_write, wi_in, w', x2, Option.bind_some, oz, ↓reduceIte, show nI 160 = (160 : Int32) from rfl], Rel_th hR⟩
      simp only [f_X7_write, f_X5_append, w', x1, if_neg (nI_pos (show 160 < 2 ^ 31 by omega)), if_neg (show ¬ nI 160 < (160 : Int32) by decide), Option.bind_some, oz, ↓reduceIte, va_id]
theorem p_erase : ∀ (X : BX) (M : Mo), Rel X M → ∃ (r : Int32) (X1 : BX) (M1 : Mo), f_X7_erase X = some (r, X1) ∧ f_X8_erase M = some (r, M1) ∧ Rel X1 M1 := by
  intro X M hR
  obtain ⟨H, t, hI, hh, hm, hT, ht, hs, hU, hK, hS, ⟨n, hn, x1, x2, x3⟩⟩ := id hR
  refine ⟨nI n, _, _, by unfold f_X7_erase; rw [x1], by unfold f_X8_erase; rw [x2], ?_⟩
  exact ⟨H, t, hI, hh, hm, hT, ht, hs, hU, hK, hS, ⟨0, by omega, rfl, rfl, fun i hi => absurd hi (by omega)⟩⟩
theorem p_forget : ∀ (X : BX) (M : Mo), Rel X M → ∃ (r : Int32) (X1 : BX) (M1 : Mo), f_X7_forget X = some (r, X1) ∧ f_X8_forget M = some (r, M1) ∧ Rel X1 M1 := by
  intro X M hR
  obtain ⟨H, t, hI, hh, hm, hT, ht, hs, hU, hK, ⟨sn, ss, sv, hsn, s1, s2, s3⟩, hX⟩ := id hR
  refine ⟨nI sn, _, _, by unfold f_X7_forget; rw [s1], by unfold f_X8_forget; rw [s2], ?_⟩
  exact ⟨H, t, hI, hh, hm, hT, ht, hs, hU, hK, ⟨0, ss, sv, by omega, rfl, rfl, fun i hi => absurd hi (by omega)⟩, hX⟩
theorem p_seen : ∀ (a1 a2 : Int32) (X : BX) (M : Mo), Rel X M → ∃ (r : Int32) (X1 : BX) (M1 : Mo), f_X7_seen a1 a2 X = some (r, X1) ∧ f_X8_seen a1 a2 M = some (r, M1) ∧ Rel X1 M1 := by
  intro a1 a2 X M hR
  obtain ⟨H, t, hI, hh, hm, hT, ht, hs, hU, hK, ⟨sn, ss, sv, hsn, s1, s2, s3⟩, hX⟩ := id hR
  have hm' : RHm (M.1, va_up M.2 0 (0 : Int32)).1 0 H := hm
  have h6 := hI.1
  have h5 := hI.2.1
  rcases ix_or a1 (n := H 8 1) (by omega) with h1 | ⟨s, hs1, rfl⟩
  · exact ⟨-2, X, _, by simp only [f_X7_seen, hs_n hh h1, Option.bind_some, ↓reduceIte], by simp only [f_X8_seen, is_n hI hm' h1, Option.bind_some, ↓reduceIte], Rel_th hR⟩
  rcases ix_or a2 (n := H 8 0) (by omega) with h2 | ⟨m, hm2, rfl⟩
  · exact ⟨-2, X, _, by simp only [f_X7_seen, hs_y hI hh hs1, hm_n hh h2, Option.bind_some, oz, ↓reduceIte], by simp only [f_X8_seen, is_y hI hm' hs1, im_n hI hm' h2, Option.bind_some, oz, ↓reduceIte], Rel_th hR⟩
  rcases Nat.lt_or_ge sn 6 with h | h
  · refine ⟨nI (sn + 1), (va_up X.1 6 (va_up (va_up (X.1 6).1 0 (upd ((X.1 6).1 0) sn (nI s))) 1 (upd ((X.1 6).1 1) sn (nI m)), va_up (X.1 6).2 0 (nI (sn + 1))), X.2.1, X.2.2.1, X.2.2.2), (va_up (va_up M.1 9 (upd (M.1 9) sn (nI s))) 10 (upd (M.1 10) sn (nI m)), va_up (va_up M.2 0 (0 : Int32)) 10 (nI (sn + 1))), ?_, ?_, ?_⟩
    · simp only [f_X7_seen, f_X3_add, hs_y hI hh hs1, hm_y hI hh hm2, s1, if_neg (nI_pos (show sn < 2 ^ 31 by omega)), if_pos (show nI sn < (6 : Int32) from nI_lt (b := 6) h (by omega)), if_neg (njo h (by omega)), nI_clamp (show sn < 2 ^ 31 by omega), Option.bind_some, oz, ↓reduceIte, ea1]
      rfl
    · simp only [f_X8_seen, is_y hI hm' hs1, im_y hI hm' hm2, s2, if_neg (show ¬ nI sn = (6 : Int32) from fun e => absurd ((nI_eq (b := 6) (by omega) (by omega)).mp e) (by omega)), if_neg (njo h (by omega)), nI_clamp (show sn < 2 ^ 31 by omega), Option.bind_some, oz, ↓reduceIte, ea1]
    · refine ⟨H, t, hI, hh, hm, hT, ht, hs, hU, hK, ⟨sn + 1, upN ss sn s, upN sv sn m, by omega, rfl, rfl, fun i hi => ?_⟩, hX⟩
      rcases Nat.lt_or_ge i sn with h1 | h1
      · obtain ⟨e1, e2, e3, e4, e5, e6⟩ := s3 i h1
        have n1 : i ≠ sn := by omega
        exact ⟨by rw [upN, if_neg n1]; exact e1, by rw [upN, if_neg n1]; exact e2, by rw [upN, if_neg n1]; exact (pk_un n1).trans e3, by rw [upN, if_neg n1]; exact (pk_un n1).trans e4, by rw [upN, if_neg n1]; exact (pk_un n1).trans e5, by rw [upN, if_neg n1]; exact (pk_un n1).trans e6⟩
      · obtain rfl : i = sn := by omega
        exact ⟨by rw [upN, if_pos rfl]; exact hs1, by rw [upN, if_pos rfl]; exact hm2, by rw [upN, if_pos rfl]; exact pk_us, by rw [upN, if_pos rfl]; exact pk_us, by rw [upN, if_pos rfl]; exact pk_us, by rw [upN, if_pos rfl]; exact pk_us⟩
  · obtain rfl : sn = 6 := by omega
    refine ⟨-5, X, _, ?_, by simp only [f_X8_seen, is_y hI hm' hs1, im_y hI hm' hm2, s2, Option.bind_some, oz, ↓reduceIte, show nI 6 = (6 : Int32) from rfl], Rel_th hR⟩
    simp only [f_X7_seen, f_X3_add, hs_y hI hh hs1, hm_y hI hh hm2, s1, if_neg (nI_pos (show 6 < 2 ^ 31 by omega)), if_neg (show ¬ nI 6 < (6 : Int32) by decide), Option.bind_some, oz, ↓reduceIte, va_id]
/-- a team copied -/
theorem cp_c {N : Nat} (hN : 8000 ≤ N) {T T2 : Mo} {a : Nat → Nat} (ha : a 2 ≤ 1) (h : RTc T a) : ∃ T1, f_X7_copyTeam N T T2 = some T1 ∧ RTc T1 a := by
  have e : jw (X7_copyTeam_s11 T) N ((0 : Int32), T2) = some (va_up T2.1 0 (fillG (T2.1 0) 0 (T.1 0) 5), T2.2) := by
    refine jw_F (fun j => (nI j, (va_up T2.1 0 (fillG (T2.1 0) 0 (T.1 0) j), T2.2))) 5 (by omega) ?_ ?_ ?_
    · show _ = (nI 0, (va_up T2.1 0 (T2.1 0), T2.2))
      rw [va_id]
      rfl
    · intro j hj
      unfold X7_copyTeam_s11
      dsimp only
      rw [if_neg (lt_lit (k := 5) 5 rfl hj (by omega)), if_neg (njo hj (by omega)), if_neg (njo hj (by omega)), nI_clamp (by omega), bx_uu, ea1, fillG, Nat.zero_add]
      rfl
    · rfl
  have hz : ¬ jz (nI (a 2)) := by
    rcases (show a 2 = 0 ∨ a 2 = 1 by omega) with h | h <;> rw [h] <;> decide
  refine ⟨(va_up T2.1 0 (fillG (T2.1 0) 0 (T.1 0) 5), va_up (va_up (va_up T2.2 0 (nI (a 0))) 1 (nI (a 1))) 2 (nI (a 2))), ?_, rfl, rfl, rfl, fun k hk => ?_⟩
  · unfold f_X7_copyTeam
    rw [e, h.1, h.2.1, h.2.2.1]
    simp only [Option.bind_some, if_neg hz]
  · show fillG (T2.1 0) 0 (T.1 0) 5 k = _
    have := fill_in (T2.1 0) 0 (T.1 0) 5 k hk
    rw [Nat.zero_add] at this
    rw [this]
    exact h.2.2.2 k hk

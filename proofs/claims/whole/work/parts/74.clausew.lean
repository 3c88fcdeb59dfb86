theorem cl_gain {N : Nat} (hN : 8000 ≤ N) {n : Nat} {c : Nat → Nat} {x h : Mo} {A A0 : Nat → Nat → Int32} {B : Nat → Int32} {s e k w' : Nat} {H : Nat → Nat → Nat} (hAt : At n c x A B s e k w') (h8 : B 8 = -1) (hI : HI H) (hh : RHc h H) (hm : RHm A 1 H) (hF : FM A A0) : Out n c h A0 B (RCc N 6 x h) (f_X8_clause N (nI 6) (A, B)) := by
  obtain ⟨u, Bc, i0, fr, o⟩ := nums1 (h := h) (w := 6) hN (A := A) hAt h8 rfl (M := 99) rfl (m := 99) rfl (by omega)
  have mc : f_X8_clause N (nI 6) (A, B) = some (setA A 4 7 u, Bc) := by
    unfold f_X8_clause
    rw [if_pos (show (4 : Int32) ≤ nI 6 by decide), if_neg (show ¬ nI 6 = (4 : Int32) by decide), if_neg (show ¬ nI 6 = (5 : Int32) by decide), if_pos (show nI 6 = (6 : Int32) by decide)]
    simp only [i0, Option.bind_some]
  have hF1 : FM (setA A 4 7 u) A0 := FM_set hF (by omega)
  rcases o with ⟨x1, s1, o1, o2, o3, o4, o5⟩ | ⟨v0, x1, s1, e1, k1, w1, l0, rfl, o2, q0, o3, fr6⟩
  · exact Or.inl ⟨x1, s1, _, Bc, o1, by rw [RCc, o2]; rfl, mc, o3, o4, o5, hF1, fr⟩
  · refine Or.inr ⟨x1, (h.1, va_up h.2 3 (nI v0)), _, Bc, va_up H 8 (upN (H 8) 3 v0), s1, e1, k1, w1, ?_, mc, At_A o3 rfl, ?_, ?_, ?_, hF1, fr6⟩
    · rw [RCc, o2]
      simp only [Option.bind_some, Sum.elim_inl, ap_gain, q0]
    · exact ⟨hI.1, hI.2.1, hI.2.2.1, show v0 ≤ 99 by omega, hI.2.2.2.2⟩
    · refine ⟨fun k hk => ?_, fun j hj k hk => ?_, fun j hj => hh.2.2.1 j hj, fun j hj k hk => ?_⟩
      · rcases (show k = 0 ∨ k = 1 ∨ k = 2 ∨ k = 3 by omega) with rfl | rfl | rfl | rfl
        · exact hh.1 0 (by omega)
        · exact hh.1 1 (by omega)
        · exact hh.1 2 (by omega)
        · rfl
      · rcases (show k = 0 ∨ k = 1 ∨ k = 2 ∨ k = 3 by omega) with rfl | rfl | rfl | rfl
        · exact hh.2.1 j hj 0 (by omega)
        · exact hh.2.1 j hj 1 (by omega)
        · exact hh.2.1 j hj 2 (by omega)
        · exact hh.2.1 j hj 3 (by omega)
      · rcases (show k = 0 ∨ k = 1 ∨ k = 2 by omega) with rfl | rfl | rfl
        · exact hh.2.2.2 j hj 0 (by omega)
        · exact hh.2.2.2 j hj 1 (by omega)
        · exact hh.2.2.2 j hj 2 (by omega)
    · refine ⟨fun k hk => ?_, fun j hj k hk => ?_, fun j hj => hm.2.2.1 j hj, fun j hj k hk => ?_⟩
      · rcases (show k = 0 ∨ k = 1 ∨ k = 2 ∨ k = 3 by omega) with rfl | rfl | rfl | rfl
        · exact hm.1 0 (by omega)
        · exact hm.1 1 (by omega)
        · exact hm.1 2 (by omega)
        · rfl
      · rcases (show k = 0 ∨ k = 1 ∨ k = 2 ∨ k = 3 by omega) with rfl | rfl | rfl | rfl
        · exact hm.2.1 j hj 0 (by omega)
        · exact hm.2.1 j hj 1 (by omega)
        · exact hm.2.1 j hj 2 (by omega)
        · exact hm.2.1 j hj 3 (by omega)
      · rcases (show k = 0 ∨ k = 1 ∨ k = 2 by omega) with rfl | rfl | rfl
        · exact hm.2.2.2 j hj 0 (by omega)
        · exact hm.2.2.2 j hj 1 (by omega)
        · exact hm.2.2.2 j hj 2 (by omega)
/-- a clause without numbers -/
theorem rc_0 {N : Nat} (hN : 8000 ≤ N) {x h : Mo} {w : Nat} (hb : f_X5_numbersBehind (nI w) = some (nI 0)) : jw (X5_readClause_s29 N h (nI w)) N ((0 : Int32), x) = some (.inl x) := jw_mono (n := 1) (jw_inr (n := 0) (rcs_e (i := 0) hb (by omega) (by omega))) (by omega)
theorem cl_house {N : Nat} (hN : 8000 ≤ N) {n : Nat} {c : Nat → Nat} {x h : Mo} {A A0 : Nat → Nat → Int32} {B : Nat → Int32} {s e k w' : Nat} {H : Nat → Nat → Nat} (hAt : At n c x A B s e k w') (hI : HI H) (hF : FM A A0) : Out n c h A0 B (RCc N 7 x h) (f_X8_clause N (nI 7) (A, B)) := by
  have mc : f_X8_clause N (nI 7) (A, B) = some (setA (setA (setA (setA A 4 5 0) 4 4 0) 4 6 0) 4 7 20, B) := by
    unfold f_X8_clause
    rw [if_pos (show (4 : Int32) ≤ nI 7 by decide), if_neg (show ¬ nI 7 = (4 : Int32) by decide), if_neg (show ¬ nI 7 = (5 : Int32) by decide), if_neg (show ¬ nI 7 = (6 : Int32) by decide)]
    simp only [if_pos (show nI 7 = (7 : Int32) by decide), Option.bind_some]
    congr 2
    funext q
    by_cases hq : q = 4
    · subst hq
      simp only [va_up_self]
    · simp only [va_up_ne _ _ hq]
  have hF1 : FM (setA (setA (setA (setA A 4 5 0) 4 4 0) 4 6 0) 4 7 20) A0 := FM_set (FM_set (FM_set (FM_set hF (by omega)) (by omega)) (by omega)) (by omega)
  refine Or.inr ⟨x, (h.1, va_up (va_up (va_up (va_up h.2 0 (0 : Int32)) 1 (0 : Int32)) 2 (0 : Int32)) 3 (20 : Int32)), _, B, va_up H 8 (upN (fun _ => 0) 3 20), s, e, k, w', ?_, mc, At_A hAt rfl, ?_, ?_, ?_, hF1, fun _ _ => rfl⟩
  · rw [RCc, rc_0 hN rfl]
    simp only [Option.bind_some, Sum.elim_inl, ap_house]
  · exact ⟨Nat.zero_le _, Nat.zero_le _, Nat.zero_le _, show 20 ≤ 99 by omega, hI.2.2.2.2⟩
  · refine ⟨fun k hk => ?_, fun j hj => absurd hj (Nat.not_lt_zero j), fun j hj => absurd hj (Nat.not_lt_zero j), fun j hj => absurd hj (Nat.not_lt_zero j)⟩
    rcases (show k = 0 ∨ k = 1 ∨ k = 2 ∨ k = 3 by omega) with rfl | rfl | rfl | rfl <;> rfl
  · refine ⟨fun k hk => ?_, fun j hj => absurd hj (Nat.not_lt_zero j), fun j hj => absurd hj (Nat.not_lt_zero j), fun j hj => absurd hj (Nat.not_lt_zero j)⟩
    rcases (show k = 0 ∨ k = 1 ∨ k = 2 ∨ k = 3 by omega) with rfl | rfl | rfl | rfl <;> rfl
theorem cl_quiet {N : Nat} (hN : 8000 ≤ N) {n : Nat} {c : Nat → Nat} {x h : Mo} {A A0 : Nat → Nat → Int32} {B : Nat → Int32} {s e k w' : Nat} {H : Nat → Nat → Nat} (hAt : At n c x A B s e k w') (hI : HI H) (hh : RHc h H) (hm : RHm A 1 H) (hF : FM A A0) : Out n c h A0 B (RCc N 8 x h) (f_X8_clause N (nI 8) (A, B)) := by
  have mc : f_X8_clause N (nI 8) (A, B) = some (setA (setA (setA (setA A 4 5 0) 4 4 (A 4 4)) 4 6 (A 4 6)) 4 7 (A 4 7), B) := by
    unfold f_X8_clause
    rw [if_pos (show (4 : Int32) ≤ nI 8 by decide), if_neg (show ¬ nI 8 = (4 : Int32) by decide), if_neg (show ¬ nI 8 = (5 : Int32) by decide), if_neg (show ¬ nI 8 = (6 : Int32) by decide)]
    simp only [if_neg (show ¬ nI 8 = (7 : Int32) by decide), Option.bind_some]
    congr 2
    funext q
    by_cases hq : q = 4
    · subst hq
      simp only [va_up_self]
      rfl
    · simp only [va_up_ne _ _ hq]
  have hF1 : FM (setA (setA (setA (setA A 4 5 0) 4 4 (A 4 4)) 4 6 (A 4 6)) 4 7 (A 4 7)) A0 := FM_set (FM_set (FM_set (FM_set hF (by omega)) (by omega)) (by omega)) (by omega)
  refine Or.inr ⟨x, (h.1, va_up h.2 1 (0 : Int32)), _, B, va_up H 8 (upN (H 8) 1 0), s, e, k, w', ?_, mc, At_A hAt rfl, ?_, ?_, ?_, hF1, fun _ _ => rfl⟩
  · rw [RCc, rc_0 hN rfl]
    simp only [Option.bind_some, Sum.elim_inl, ap_quiet]
  · exact ⟨hI.1, Nat.zero_le _, hI.2.2.1, hI.2.2.2.1, hI.2.2.2.2⟩
  · refine ⟨fun k hk => ?_, fun j hj k hk => ?_, fun j hj => absurd hj (Nat.not_lt_zero j), fun j hj k hk => ?_⟩
    · rcases (show k = 0 ∨ k = 1 ∨ k = 2 ∨ k = 3 by omega) with rfl | rfl | rfl | rfl
      · exact hh.1 0 (by omega)
      · rfl
      · exact hh.1 2 (by omega)
      · exact hh.1 3 (by omega)
    · rcases (show k = 0 ∨ k = 1 ∨ k = 2 ∨ k = 3 by omega) with rfl | rfl | rfl | rfl
      · exact hh.2.1 j hj 0 (by omega)
      · exact hh.2.1 j hj 1 (by omega)
      · exact hh.2.1 j hj 2 (by omega)
      · exact hh.2.1 j hj 3 (by omega)
    · rcases (show k = 0 ∨ k = 1 ∨ k = 2 by omega) with rfl | rfl | rfl
      · exact hh.2.2.2 j hj 0 (by omega)
      · exact hh.2.2.2 j hj 1 (by omega)
      · exact hh.2.2.2 j hj 2 (by omega)
  · refine ⟨fun k hk => ?_, fun j hj k hk => ?_, fun j hj => absurd hj (Nat.not_lt_zero j), fun j hj k hk => ?_⟩
    · rcases (show k = 0 ∨ k = 1 ∨ k = 2 ∨ k = 3 by omega) with rfl | rfl | rfl | rfl
      · exact hm.1 0 (by omega)
      · rfl
      · exact hm.1 2 (by omega)
      · exact hm.1 3 (by omega)
    · rcases (show k = 0 ∨ k = 1 ∨ k = 2 ∨ k = 3 by omega) with rfl | rfl | rfl | rfl
      · exact hm.2.1 j hj 0 (by omega)
      · exact hm.2.1 j hj 1 (by omega)
      · exact hm.2.1 j hj 2 (by omega)
      · exact hm.2.1 j hj 3 (by omega)
    · rcases (show k = 0 ∨ k = 1 ∨ k = 2 by omega) with rfl | rfl | rfl
      · exact hm.2.2.2 j hj 0 (by omega)
      · exact hm.2.2.2 j hj 1 (by omega)
      · exact hm.2.2.2 j hj 2 (by omega)

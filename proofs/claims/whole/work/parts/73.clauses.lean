theorem ap_rat {h : Mo} {m : Nat} (hm : m < 4) (h0 : h.2 2 = nI m) (a b d : Int32) : f_X0_apply (nI 5) a b d h = some (va_up (va_up (va_up h.1 5 (upd (h.1 5) m a)) 6 (upd (h.1 6) m b)) 7 (upd (h.1 7) m d), va_up h.2 2 (nI (m + 1))) := by
  unfold f_X0_apply
  rw [takes_5, h0, if_neg (lt_lit (k := 4) 4 rfl hm (by omega))]
  simp only [Option.bind_some, oz, ↓reduceIte, if_neg (show ¬ nI 5 = (4 : Int32) by decide), if_pos (show nI 5 = (5 : Int32) by decide), f_X0_addRat, h0, if_pos (show nI m < (4 : Int32) from nI_lt (b := 4) hm (by omega)), if_neg (njo hm (by omega)), nI_clamp (show m < 2 ^ 31 by omega), ea1]
theorem ap_step {h : Mo} {m : Nat} (hm : m < 5) (h0 : h.2 1 = nI m) (a b d : Int32) : f_X0_apply (nI 4) a b d h = some (va_up h.1 4 (upd (h.1 4) m a), va_up h.2 1 (nI (m + 1))) := by
  unfold f_X0_apply
  rw [takes_4, h0, if_neg (lt_lit (k := 5) 5 rfl hm (by omega))]
  simp only [Option.bind_some, oz, ↓reduceIte, if_pos (show nI 4 = (4 : Int32) by decide), h0, if_neg (njo hm (by omega)), nI_clamp (show m < 2 ^ 31 by omega), ea1]
theorem ap_gain (h : Mo) (a b d : Int32) : f_X0_apply (nI 6) a b d h = some (h.1, va_up h.2 3 a) := rfl
theorem ap_house (h : Mo) (a b d : Int32) : f_X0_apply (nI 7) a b d h = some (h.1, va_up (va_up (va_up (va_up h.2 0 (0 : Int32)) 1 (0 : Int32)) 2 (0 : Int32)) 3 (20 : Int32)) := rfl
theorem ap_quiet (h : Mo) (a b d : Int32) : f_X0_apply (nI 8) a b d h = some (h.1, va_up h.2 1 (0 : Int32)) := rfl
theorem cl_rat {N : Nat} (hN : 8000 ≤ N) {n : Nat} {c : Nat → Nat} {x h : Mo} {A A0 : Nat → Nat → Int32} {B : Nat → Int32} {s e k w' : Nat} {H : Nat → Nat → Nat} (hAt : At n c x A B s e k w') (h8 : B 8 = -1) (hI : HI H) (hh : RHc h H) (hm : RHm A 1 H) (hF : FM A A0) (h6 : H 8 2 < 4) : Out n c h A0 B (RCc N 5 x h) (f_X8_clause N (nI 5) (A, B)) := by
  have a4 : A 4 6 = nI (H 8 2) := hm.1 2 (by omega)
  have hc : (12 : Int32) + (3 : Int32) * A 4 6 = nI (12 + 3 * H 8 2) := by rw [a4, e3]; exact nI_add 12 _
  obtain ⟨u0, u1, u2, Ba, Bb, Bc, i0, i1, i2, fr, o⟩ := nums3 (h := h) (w := 5) hN (A := A) (q := 3) (p0 := 12 + 3 * H 8 2) (p1 := 12 + 3 * H 8 2 + 1) hAt h8 (by decide) rfl (M0 := 99) (M1 := 10) (M2 := 10) rfl rfl rfl (m0 := 99) (m1 := 10) (m2 := 10) rfl rfl rfl (by omega) (by omega) (by omega)
  have mc : f_X8_clause N (nI 5) (A, B) = some (setA (setA (setA (setA A 3 (12 + 3 * H 8 2) u0) 3 (12 + 3 * H 8 2 + 1) u1) 3 (12 + 3 * H 8 2 + 2) u2) 4 6 (A 4 6 + 1), Bc) := by
    unfold f_X8_clause
    rw [if_pos (show (4 : Int32) ≤ nI 5 by decide), if_neg (show ¬ nI 5 = (4 : Int32) by decide), if_pos (show nI 5 = (5 : Int32) by decide)]
    simp only [hc, ea1, ea2, if_neg (njo (show 12 + 3 * H 8 2 < 24 by omega) (by omega)), if_neg (njo (show 12 + 3 * H 8 2 + 1 < 24 by omega) (by omega)), if_neg (njo (show 12 + 3 * H 8 2 + 2 < 24 by omega) (by omega)), nI_clamp (show 12 + 3 * H 8 2 < 2 ^ 31 by omega), nI_clamp (show 12 + 3 * H 8 2 + 1 < 2 ^ 31 by omega), nI_clamp (show 12 + 3 * H 8 2 + 2 < 2 ^ 31 by omega), i0, i1, i2, Option.bind_some]
    rfl
  have hF1 : FM (setA (setA (setA (setA A 3 (12 + 3 * H 8 2) u0) 3 (12 + 3 * H 8 2 + 1) u1) 3 (12 + 3 * H 8 2 + 2) u2) 4 6 (A 4 6 + 1)) A0 := FM_set (FM_set (FM_set (FM_set hF (by omega)) (by omega)) (by omega)) (by omega)
  rcases o with ⟨x1, s1, o1, o2, o3, o4, o5⟩ | ⟨v0, v1, v2, x1, s1, e1, k1, w1, l0, l1, l2, rfl, rfl, rfl, o2, q0, q1, q2, o3, fr6⟩
  · exact Or.inl ⟨x1, s1, _, Bc, o1, by rw [RCc, o2]; rfl, mc, o3, o4, o5, hF1, fr⟩
  · refine Or.inr ⟨x1, (va_up (va_up (va_up h.1 5 (upd (h.1 5) (H 8 2) (nI v0))) 6 (upd (h.1 6) (H 8 2) (nI v1))) 7 (upd (h.1 7) (H 8 2) (nI v2)), va_up h.2 2 (nI (H 8 2 + 1))), _, Bc, va_up (va_up (va_up (va_up H 5 (upN (H 5) (H 8 2) v0)) 6 (upN (H 6) (H 8 2) v1)) 7 (upN (H 7) (H 8 2) v2)) 8 (upN (H 8) 2 (H 8 2 + 1)), s1, e1, k1, w1, ?_, mc, At_A o3 rfl, ?_, ?_, ?_, hF1, fr6⟩
    · rw [RCc, o2]
      show (f_X0_apply (nI 5) (x1.1 1 0) (x1.1 1 1) (x1.1 1 2) h).bind _ = _
      rw [q0, q1, q2, ap_rat h6 (hh.1 2 (by omega))]
      rfl
    · refine ⟨hI.1, hI.2.1, show H 8 2 + 1 ≤ 4 by omega, hI.2.2.2.1, fun j => ⟨(hI.2.2.2.2 j).1, (hI.2.2.2.2 j).2.1, (hI.2.2.2.2 j).2.2.1, (hI.2.2.2.2 j).2.2.2.1, (hI.2.2.2.2 j).2.2.2.2.1, up_b (fun j => (hI.2.2.2.2 j).2.2.2.2.2.1) (show v0 < 100 by omega) j, up_b (fun j => (hI.2.2.2.2 j).2.2.2.2.2.2.1) (show v1 < 11 by omega) j, up_b (fun j => (hI.2.2.2.2 j).2.2.2.2.2.2.2) (show v2 < 11 by omega) j⟩⟩
    · refine ⟨fun k hk => ?_, fun j hj k hk => ?_, fun j hj => hh.2.2.1 j hj, fun j hj k hk => ?_⟩
      · rcases (show k = 0 ∨ k = 1 ∨ k = 2 ∨ k = 3 by omega) with rfl | rfl | rfl | rfl
        · exact hh.1 0 (by omega)
        · exact hh.1 1 (by omega)
        · rfl
        · exact hh.1 3 (by omega)
      · rcases (show k = 0 ∨ k = 1 ∨ k = 2 ∨ k = 3 by omega) with rfl | rfl | rfl | rfl
        · exact hh.2.1 j hj 0 (by omega)
        · exact hh.2.1 j hj 1 (by omega)
        · exact hh.2.1 j hj 2 (by omega)
        · exact hh.2.1 j hj 3 (by omega)
      · have hj' : j < H 8 2 + 1 := hj
        rcases (show k = 0 ∨ k = 1 ∨ k = 2 by omega) with rfl | rfl | rfl
        · exact up_e (fun j hj => hh.2.2.2 j hj 0 (by omega)) j hj'
        · exact up_e (fun j hj => hh.2.2.2 j hj 1 (by omega)) j hj'
        · exact up_e (fun j hj => hh.2.2.2 j hj 2 (by omega)) j hj'
    · refine ⟨fun k hk => ?_, fun j hj k hk => ?_, fun j hj => hm.2.2.1 j hj, fun j hj k hk => ?_⟩
      · rcases (show k = 0 ∨ k = 1 ∨ k = 2 ∨ k = 3 by omega) with rfl | rfl | rfl | rfl
        · exact hm.1 0 (by omega)
        · exact hm.1 1 (by omega)
        · show A 4 6 + 1 = nI (H 8 2 + 1)
          rw [a4, ea1]
        · exact hm.1 3 (by omega)
      · rcases (show k = 0 ∨ k = 1 ∨ k = 2 ∨ k = 3 by omega) with rfl | rfl | rfl | rfl
        · exact hm.2.1 j hj 0 (by omega)
        · exact hm.2.1 j hj 1 (by omega)
        · exact hm.2.1 j hj 2 (by omega)
        · exact hm.2.1 j hj 3 (by omega)
      · have hj' : j < H 8 2 + 1 := hj
        show (if 12 * 1 + (3 * j + k) = 12 + 3 * H 8 2 + 2 then nI v2 else if 12 * 1 + (3 * j + k) = 12 + 3 * H 8 2 + 1 then nI v1 else if 12 * 1 + (3 * j + k) = 12 + 3 * H 8 2 then nI v0 else A 3 (12 * 1 + (3 * j + k))) = _
        rcases Nat.lt_or_ge j (H 8 2) with h1 | h1
        · rw [if_neg (show ¬ 12 * 1 + (3 * j + k) = 12 + 3 * H 8 2 + 2 by omega), if_neg (show ¬ 12 * 1 + (3 * j + k) = 12 + 3 * H 8 2 + 1 by omega), if_neg (show ¬ 12 * 1 + (3 * j + k) = 12 + 3 * H 8 2 by omega), hm.2.2.2 j h1 k hk]
          rcases (show k = 0 ∨ k = 1 ∨ k = 2 by omega) with rfl | rfl | rfl
          · show _ = nI (upN (H 5) (H 8 2) v0 j)
            rw [upN_n (by omega)]
          · show _ = nI (upN (H 6) (H 8 2) v1 j)
            rw [upN_n (by omega)]
          · show _ = nI (upN (H 7) (H 8 2) v2 j)
            rw [upN_n (by omega)]
        · obtain rfl : j = H 8 2 := by omega
          rcases (show k = 0 ∨ k = 1 ∨ k = 2 by omega) with rfl | rfl | rfl
          · show _ = nI (upN (H 5) (H 8 2) v0 (H 8 2))
            rw [upN_y, if_neg (by omega), if_neg (by omega), if_pos (by omega)]
          · show _ = nI (upN (H 6) (H 8 2) v1 (H 8 2))
            rw [upN_y, if_neg (by omega), if_pos (by omega)]
          · show _ = nI (upN (H 7) (H 8 2) v2 (H 8 2))
            rw [upN_y, if_pos (by omega)]
theorem cl_step {N : Nat} (hN : 8000 ≤ N) {n : Nat} {c : Nat → Nat} {x h : Mo} {A A0 : Nat → Nat → Int32} {B : Nat → Int32} {s e k w' : Nat} {H : Nat → Nat → Nat} (hAt : At n c x A B s e k w') (h8 : B 8 = -1) (hI : HI H) (hh : RHc h H) (hm : RHm A 1 H) (hF : FM A A0) (h6 : H 8 1 < 5) : Out n c h A0 B (RCc N 4 x h) (f_X8_clause N (nI 4) (A, B)) := by
  have a4 : A 4 5 = nI (H 8 1) := hm.1 1 (by omega)
  have hc : (5 : Int32) + A 4 5 = nI (5 + H 8 1) := by rw [a4]; exact nI_add 5 _
  obtain ⟨u, Bc, i0, fr, o⟩ := nums1 (h := h) (w := 4) hN (A := A) hAt h8 rfl (M := 15) rfl (m := 15) rfl (by omega)
  have mc : f_X8_clause N (nI 4) (A, B) = some (setA (setA A 2 (5 + H 8 1) u) 4 5 (A 4 5 + 1), Bc) := by
    unfold f_X8_clause
    rw [if_pos (show (4 : Int32) ≤ nI 4 by decide), if_pos (show nI 4 = (4 : Int32) by decide)]
    simp only [hc, if_neg (njo (show 5 + H 8 1 < 10 by omega) (by omega)), nI_clamp (show 5 + H 8 1 < 2 ^ 31 by omega), i0, Option.bind_some]
    rfl
  have hF1 : FM (setA (setA A 2 (5 + H 8 1) u) 4 5 (A 4 5 + 1)) A0 := FM_set (FM_set hF (by omega)) (by omega)
  rcases o with ⟨x1, s1, o1, o2, o3, o4, o5⟩ | ⟨v0, x1, s1, e1, k1, w1, l0, rfl, o2, q0, o3, fr6⟩
  · exact Or.inl ⟨x1, s1, _, Bc, o1, by rw [RCc, o2]; rfl, mc, o3, o4, o5, hF1, fr⟩
  · refine Or.inr ⟨x1, (va_up h.1 4 (upd (h.1 4) (H 8 1) (nI v0)), va_up h.2 1 (nI (H 8 1 + 1))), _, Bc, va_up (va_up H 4 (upN (H 4) (H 8 1) v0)) 8 (upN (H 8) 1 (H 8 1 + 1)), s1, e1, k1, w1, ?_, mc, At_A o3 rfl, ?_, ?_, ?_, hF1, fr6⟩
    · rw [RCc, o2]
      show (f_X0_apply (nI 4) (x1.1 1 0) (x1.1 1 1) (x1.1 1 2) h).bind _ = _
      rw [q0, ap_step h6 (hh.1 1 (by omega))]
      rfl
    · refine ⟨hI.1, show H 8 1 + 1 ≤ 5 by omega, hI.2.2.1, hI.2.2.2.1, fun j => ⟨(hI.2.2.2.2 j).1, (hI.2.2.2.2 j).2.1, (hI.2.2.2.2 j).2.2.1, (hI.2.2.2.2 j).2.2.2.1, up_b (fun j => (hI.2.2.2.2 j).2.2.2.2.1) (show v0 < 16 by omega) j, (hI.2.2.2.2 j).2.2.2.2.2⟩⟩
    · refine ⟨fun k hk => ?_, fun j hj k hk => ?_, fun j hj => ?_, fun j hj k hk => ?_⟩
      · rcases (show k = 0 ∨ k = 1 ∨ k = 2 ∨ k = 3 by omega) with rfl | rfl | rfl | rfl
        · exact hh.1 0 (by omega)
        · rfl
        · exact hh.1 2 (by omega)
        · exact hh.1 3 (by omega)
      · rcases (show k = 0 ∨ k = 1 ∨ k = 2 ∨ k = 3 by omega) with rfl | rfl | rfl | rfl
        · exact hh.2.1 j hj 0 (by omega)
        · exact hh.2.1 j hj 1 (by omega)
        · exact hh.2.1 j hj 2 (by omega)
        · exact hh.2.1 j hj 3 (by omega)
      · have hj' : j < H 8 1 + 1 := hj
        exact up_e (fun j hj => hh.2.2.1 j hj) j hj'
      · rcases (show k = 0 ∨ k = 1 ∨ k = 2 by omega) with rfl | rfl | rfl
        · exact hh.2.2.2 j hj 0 (by omega)
        · exact hh.2.2.2 j hj 1 (by omega)
        · exact hh.2.2.2 j hj 2 (by omega)
    · refine ⟨fun k hk => ?_, fun j hj k hk => ?_, fun j hj => ?_, fun j hj k hk => ?_⟩
      · rcases (show k = 0 ∨ k = 1 ∨ k = 2 ∨ k = 3 by omega) with rfl | rfl | rfl | rfl
        · exact hm.1 0 (by omega)
        · show A 4 5 + 1 = nI (H 8 1 + 1)
          rw [a4, ea1]
        · exact hm.1 2 (by omega)
        · exact hm.1 3 (by omega)
      · rcases (show k = 0 ∨ k = 1 ∨ k = 2 ∨ k = 3 by omega) with rfl | rfl | rfl | rfl
        · exact hm.2.1 j hj 0 (by omega)
        · exact hm.2.1 j hj 1 (by omega)
        · exact hm.2.1 j hj 2 (by omega)
        · exact hm.2.1 j hj 3 (by omega)
      · have hj' : j < H 8 1 + 1 := hj
        show (if 5 * 1 + j = 5 + H 8 1 then nI v0 else A 2 (5 * 1 + j)) = nI (upN (H 4) (H 8 1) v0 j)
        rcases Nat.lt_or_ge j (H 8 1) with h1 | h1
        · rw [if_neg (show ¬ 5 * 1 + j = 5 + H 8 1 by omega), hm.2.2.1 j h1, upN_n (by omega)]
        · obtain rfl : j = H 8 1 := by omega
          rw [upN_y, if_pos (by omega)]
      · rcases (show k = 0 ∨ k = 1 ∨ k = 2 by omega) with rfl | rfl | rfl
        · exact hm.2.2.2 j hj 0 (by omega)
        · exact hm.2.2.2 j hj 1 (by omega)
        · exact hm.2.2.2 j hj 2 (by omega)

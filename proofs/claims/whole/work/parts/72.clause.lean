/-! PURE: one clause, its numbers read, done on both drafts. -/
def RCc (N w : Nat) (x h : Mo) : Option (Int32 × Mo × Mo) := (jw (X5_readClause_s29 N h (nI w)) N ((0 : Int32), x)).bind (Sum.elim (fun e6 => ((f_X0_apply (nI w) (e6.1 1 0) (e6.1 1 1) (e6.1 1 2) h).bind (fun z16 => some ((1 : Int32), e6, z16)))) (fun o6 => some o6))
/-- what became of it: a fault at s1, told alike; or both drafts are the house H1 -/
def Out (n : Nat) (c : Nat → Nat) (h : Mo) (A0 : Nat → Nat → Int32) (B : Nat → Int32) (rc : Option (Int32 × Mo × Mo)) (mc : Option Mo) : Prop :=
  (∃ (x1 : Mo) (s1 : Nat) (A1 : Nat → Nat → Int32) (B1 : Nat → Int32), s1 ≤ 160 ∧ rc = some (0, x1, h) ∧ mc = some (A1, B1) ∧ TX x1 n c ∧ x1.2 2 = nI s1 ∧ B1 8 = nI s1 ∧ FM A1 A0 ∧ ∀ q, (q < 2 ∨ 8 < q) → B1 q = B q) ∨
  (∃ (x1 h1 : Mo) (A1 : Nat → Nat → Int32) (B1 : Nat → Int32) (H1 : Nat → Nat → Nat) (s1 e1 k1 w1 : Nat), rc = some (1, x1, h1) ∧ mc = some (A1, B1) ∧ At n c x1 A1 B1 s1 e1 k1 w1 ∧ HI H1 ∧ RHc h1 H1 ∧ RHm A1 1 H1 ∧ FM A1 A0 ∧ ∀ q, (q < 2 ∨ 6 < q) → B1 q = B q)
theorem upN_y (f : Nat → Nat) (k v : Nat) : upN f k v k = v := if_pos rfl
theorem upN_n {f : Nat → Nat} {k v j : Nat} (h : j ≠ k) : upN f k v j = f j := if_neg h
theorem up_e {f : Nat → Int32} {g : Nat → Nat} {m v : Nat} (h : ∀ j, j < m → f j = nI (g j)) : ∀ j, j < m + 1 → upd f m (nI v) j = nI (upN g m v j) := by
  intro j hj
  rcases Nat.lt_or_ge j m with h1 | h1
  · rw [pk_un (by omega), upN_n (by omega)]
    exact h j h1
  · obtain rfl : j = m := by omega
    rw [pk_us, upN_y]
theorem up_b {g : Nat → Nat} {m v b : Nat} (h : ∀ j, g j < b) (hv : v < b) : ∀ j, upN g m v j < b := by
  intro j
  by_cases h1 : j = m
  · subst h1
    rw [upN_y]; exact hv
  · rw [upN_n h1]; exact h j
theorem takes_m : ∀ w, w < 4 → ∀ h : Mo, f_X0_takes (nI w) h = if (6 : Int32) ≤ h.2 0 then some 0 else some 1 := by
  intro w hw h
  rcases (show w = 0 ∨ w = 1 ∨ w = 2 ∨ w = 3 by omega) with rfl | rfl | rfl | rfl <;> rfl
theorem takes_4 (h : Mo) : f_X0_takes (nI 4) h = if (5 : Int32) ≤ h.2 1 then some 0 else some 1 := rfl
theorem takes_5 (h : Mo) : f_X0_takes (nI 5) h = if (4 : Int32) ≤ h.2 2 then some 0 else some 1 := rfl
theorem takes_9 (h : Mo) : f_X0_takes (nI 6) h = some 1 ∧ f_X0_takes (nI 7) h = some 1 ∧ f_X0_takes (nI 8) h = some 1 ∧ f_X0_takes (-1) h = some 0 := ⟨rfl, rfl, rfl, rfl⟩
theorem nb_m : ∀ w, w < 4 → f_X5_numbersBehind (nI w) = some (nI 3) ∧ f_X5_mostOf (nI w) (nI 0) = some 9 ∧ f_X5_mostOf (nI w) (nI 1) = some 99 ∧ f_X5_mostOf (nI w) (nI 2) = some 9 := by decide
theorem ap_mouse {w : Nat} (hw : w < 4) {h : Mo} {m : Nat} (hm : m < 6) (h0 : h.2 0 = nI m) (a b d : Int32) : f_X0_apply (nI w) a b d h = some (va_up (va_up (va_up (va_up h.1 0 (upd (h.1 0) m (nI w))) 1 (upd (h.1 1) m a)) 2 (upd (h.1 2) m b)) 3 (upd (h.1 3) m d), va_up h.2 0 (nI (m + 1))) := by
  have n4 : ∀ w, w < 4 → ¬ nI w = (4 : Int32) ∧ ¬ nI w = (5 : Int32) ∧ ¬ nI w = (6 : Int32) ∧ ¬ nI w = (7 : Int32) ∧ ¬ nI w = (8 : Int32) := by decide
  obtain ⟨n1, n2, n3, n5, n6⟩ := n4 w hw
  unfold f_X0_apply
  rw [takes_m w hw, h0, if_neg (lt_lit (k := 6) 6 rfl hm (by omega))]
  simp only [Option.bind_some, oz, ↓reduceIte, if_neg n1, if_neg n2, if_neg n3, if_neg n5, if_neg n6, f_X0_addMouse, h0, if_pos (show nI m < (6 : Int32) from nI_lt (b := 6) hm (by omega)), if_neg (njo hm (by omega)), nI_clamp (show m < 2 ^ 31 by omega), ea1]
theorem cl_mouse {N : Nat} (hN : 8000 ≤ N) {n : Nat} {c : Nat → Nat} {x h : Mo} {A A0 : Nat → Nat → Int32} {B : Nat → Int32} {s e k w' w : Nat} {H : Nat → Nat → Nat} (hw : w < 4) (hAt : At n c x A B s e k w') (h8 : B 8 = -1) (hI : HI H) (hh : RHc h H) (hm : RHm A 1 H) (hF : FM A A0) (h6 : H 8 0 < 6) : Out n c h A0 B (RCc N w x h) (f_X8_clause N (nI w) (A, B)) := by
  obtain ⟨b0, b1, b2, b3⟩ := nb_m w hw
  have a4 : A 4 4 = nI (H 8 0) := hm.1 0 (by omega)
  have hc : (24 : Int32) + (4 : Int32) * A 4 4 = nI (24 + 4 * H 8 0) := by rw [a4, e4]; exact nI_add 24 _
  obtain ⟨u0, u1, u2, Ba, Bb, Bc, i0, i1, i2, fr, o⟩ := nums3 (h := h) hN (A := setA A 1 (24 + 4 * H 8 0) (nI w)) (q := 1) (p0 := 24 + 4 * H 8 0 + 1) (p1 := 24 + 4 * H 8 0 + 2) (At_A hAt (va_up_ne _ _ (by decide))) h8 (by decide) b0 b1 b2 b3 (m0 := 9) (m1 := 99) (m2 := 9) rfl rfl rfl (by omega) (by omega) (by omega)
  have mc : f_X8_clause N (nI w) (A, B) = some (setA (setA (setA (setA (setA A 1 (24 + 4 * H 8 0) (nI w)) 1 (24 + 4 * H 8 0 + 1) u0) 1 (24 + 4 * H 8 0 + 2) u1) 1 (24 + 4 * H 8 0 + 3) u2) 4 4 (A 4 4 + 1), Bc) := by
    unfold f_X8_clause
    rw [if_neg (show ¬ (4 : Int32) ≤ nI w from nI_ge (b := 4) hw (by omega))]
    simp only [hc, ea1, ea2, ea3, if_neg (njo (show 24 + 4 * H 8 0 < 48 by omega) (by omega)), if_neg (njo (show 24 + 4 * H 8 0 + 1 < 48 by omega) (by omega)), if_neg (njo (show 24 + 4 * H 8 0 + 2 < 48 by omega) (by omega)), if_neg (njo (show 24 + 4 * H 8 0 + 3 < 48 by omega) (by omega)), nI_clamp (show 24 + 4 * H 8 0 < 2 ^ 31 by omega), nI_clamp (show 24 + 4 * H 8 0 + 1 < 2 ^ 31 by omega), nI_clamp (show 24 + 4 * H 8 0 + 2 < 2 ^ 31 by omega), nI_clamp (show 24 + 4 * H 8 0 + 3 < 2 ^ 31 by omega), i0, i1, i2, Option.bind_some]
    rfl
  have hF1 : FM (setA (setA (setA (setA (setA A 1 (24 + 4 * H 8 0) (nI w)) 1 (24 + 4 * H 8 0 + 1) u0) 1 (24 + 4 * H 8 0 + 2) u1) 1 (24 + 4 * H 8 0 + 3) u2) 4 4 (A 4 4 + 1)) A0 := FM_set (FM_set (FM_set (FM_set (FM_set hF (by omega)) (by omega)) (by omega)) (by omega)) (by omega)
  rcases o with ⟨x1, s1, o1, o2, o3, o4, o5⟩ | ⟨v0, v1, v2, x1, s1, e1, k1, w1, l0, l1, l2, rfl, rfl, rfl, o2, q0, q1, q2, o3, fr6⟩
  · exact Or.inl ⟨x1, s1, _, Bc, o1, by rw [RCc, o2]; rfl, mc, o3, o4, o5, hF1, fr⟩
  · refine Or.inr ⟨x1, (va_up (va_up (va_up (va_up h.1 0 (upd (h.1 0) (H 8 0) (nI w))) 1 (upd (h.1 1) (H 8 0) (nI v0))) 2 (upd (h.1 2) (H 8 0) (nI v1))) 3 (upd (h.1 3) (H 8 0) (nI v2)), va_up h.2 0 (nI (H 8 0 + 1))), _, Bc, va_up (va_up (va_up (va_up (va_up H 0 (upN (H 0) (H 8 0) w)) 1 (upN (H 1) (H 8 0) v0)) 2 (upN (H 2) (H 8 0) v1)) 3 (upN (H 3) (H 8 0) v2)) 8 (upN (H 8) 0 (H 8 0 + 1)), s1, e1, k1, w1, ?_, mc, At_A o3 rfl, ?_, ?_, ?_, hF1, fr6⟩
    · rw [RCc, o2]
      show (f_X0_apply (nI w) (x1.1 1 0) (x1.1 1 1) (x1.1 1 2) h).bind _ = _
      rw [q0, q1, q2, ap_mouse hw h6 (hh.1 0 (by omega))]
      rfl
    · refine ⟨show H 8 0 + 1 ≤ 6 by omega, hI.2.1, hI.2.2.1, hI.2.2.2.1, fun j => ⟨up_b (fun j => (hI.2.2.2.2 j).1) hw j, up_b (fun j => (hI.2.2.2.2 j).2.1) (show v0 < 10 by omega) j, up_b (fun j => (hI.2.2.2.2 j).2.2.1) (show v1 < 100 by omega) j, up_b (fun j => (hI.2.2.2.2 j).2.2.2.1) (show v2 < 10 by omega) j, (hI.2.2.2.2 j).2.2.2.2⟩⟩
    · refine ⟨fun k hk => ?_, fun j hj k hk => ?_, fun j hj => hh.2.2.1 j hj, fun j hj k hk => ?_⟩
      · rcases (show k = 0 ∨ k = 1 ∨ k = 2 ∨ k = 3 by omega) with rfl | rfl | rfl | rfl
        · rfl
        · exact hh.1 1 (by omega)
        · exact hh.1 2 (by omega)
        · exact hh.1 3 (by omega)
      · have hj' : j < H 8 0 + 1 := hj
        rcases (show k = 0 ∨ k = 1 ∨ k = 2 ∨ k = 3 by omega) with rfl | rfl | rfl | rfl
        · exact up_e (fun j hj => hh.2.1 j hj 0 (by omega)) j hj'
        · exact up_e (fun j hj => hh.2.1 j hj 1 (by omega)) j hj'
        · exact up_e (fun j hj => hh.2.1 j hj 2 (by omega)) j hj'
        · exact up_e (fun j hj => hh.2.1 j hj 3 (by omega)) j hj'
      · rcases (show k = 0 ∨ k = 1 ∨ k = 2 by omega) with rfl | rfl | rfl
        · exact hh.2.2.2 j hj 0 (by omega)
        · exact hh.2.2.2 j hj 1 (by omega)
        · exact hh.2.2.2 j hj 2 (by omega)
    · refine ⟨fun k hk => ?_, fun j hj k hk => ?_, fun j hj => hm.2.2.1 j hj, fun j hj k hk => ?_⟩
      · rcases (show k = 0 ∨ k = 1 ∨ k = 2 ∨ k = 3 by omega) with rfl | rfl | rfl | rfl
        · show A 4 4 + 1 = nI (H 8 0 + 1)
          rw [a4, ea1]
        · exact hm.1 1 (by omega)
        · exact hm.1 2 (by omega)
        · exact hm.1 3 (by omega)
      · have hj' : j < H 8 0 + 1 := hj
        show (if 24 * 1 + (4 * j + k) = 24 + 4 * H 8 0 + 3 then nI v2 else if 24 * 1 + (4 * j + k) = 24 + 4 * H 8 0 + 2 then nI v1 else if 24 * 1 + (4 * j + k) = 24 + 4 * H 8 0 + 1 then nI v0 else if 24 * 1 + (4 * j + k) = 24 + 4 * H 8 0 then nI w else A 1 (24 * 1 + (4 * j + k))) = _
        rcases Nat.lt_or_ge j (H 8 0) with h1 | h1
        · rw [if_neg (show ¬ 24 * 1 + (4 * j + k) = 24 + 4 * H 8 0 + 3 by omega), if_neg (show ¬ 24 * 1 + (4 * j + k) = 24 + 4 * H 8 0 + 2 by omega), if_neg (show ¬ 24 * 1 + (4 * j + k) = 24 + 4 * H 8 0 + 1 by omega), if_neg (show ¬ 24 * 1 + (4 * j + k) = 24 + 4 * H 8 0 by omega), hm.2.1 j h1 k hk]
          rcases (show k = 0 ∨ k = 1 ∨ k = 2 ∨ k = 3 by omega) with rfl | rfl | rfl | rfl
          · show _ = nI (upN (H 0) (H 8 0) w j)
            rw [upN_n (by omega)]
          · show _ = nI (upN (H 1) (H 8 0) v0 j)
            rw [upN_n (by omega)]
          · show _ = nI (upN (H 2) (H 8 0) v1 j)
            rw [upN_n (by omega)]
          · show _ = nI (upN (H 3) (H 8 0) v2 j)
            rw [upN_n (by omega)]
        · obtain rfl : j = H 8 0 := by omega
          rcases (show k = 0 ∨ k = 1 ∨ k = 2 ∨ k = 3 by omega) with rfl | rfl | rfl | rfl
          · show _ = nI (upN (H 0) (H 8 0) w (H 8 0))
            rw [upN_y, if_neg (by omega), if_neg (by omega), if_neg (by omega), if_pos (by omega)]
          · show _ = nI (upN (H 1) (H 8 0) v0 (H 8 0))
            rw [upN_y, if_neg (by omega), if_neg (by omega), if_pos (by omega)]
          · show _ = nI (upN (H 2) (H 8 0) v1 (H 8 0))
            rw [upN_y, if_neg (by omega), if_pos (by omega)]
          · show _ = nI (upN (H 3) (H 8 0) v2 (H 8 0))
            rw [upN_y, if_pos (by omega)]
      · rcases (show k = 0 ∨ k = 1 ∨ k = 2 by omega) with rfl | rfl | rfl
        · exact hm.2.2.2 j hj 0 (by omega)
        · exact hm.2.2.2 j hj 1 (by omega)
        · exact hm.2.2.2 j hj 2 (by omega)

theorem p_fails {N : Nat} (hN : 8000 ≤ N) : ∀ (a1 a2 : Int32) (X : BX) (M : Mo), Rel X M → ∃ (r : Int32) (M1 : Mo), f_X7_fails N a1 a2 X = some r ∧ f_X8_fails_ N a1 a2 M = some (r, M1) ∧ Rel X M1 := by
  intro a1 a2 X M hR
  obtain ⟨H, t, hI, hh, hm, hT, ht, hs, -⟩ := id hR
  have hm' : RHm (M.1, va_up M.2 0 (0 : Int32)).1 0 H := hm
  have hs' : RTm ((M.1, va_up M.2 0 (0 : Int32)).1 5) 0 t := hs
  have h5 := hI.2.1
  have h6 := hI.1
  have c1 : (X.1 1).2 1 = nI (H 8 1) := hh.1 1 (by omega)
  rcases ix_or a1 (n := H 8 1) (by omega) with h1 | ⟨s, hs1, rfl⟩
  · exact ⟨-2, _, by simp only [f_X7_fails, hs_n hh h1, Option.bind_some, ↓reduceIte], by simp only [f_X8_fails_, is_n hI hm' h1, Option.bind_some, ↓reduceIte], Rel_th hR⟩
  · rcases part_or a2 with ⟨p1, p2⟩ | ⟨p1, p2, -⟩
    · exact ⟨-3, _, by simp only [f_X7_fails, hs_y hI hh hs1, p1, Option.bind_some, oz, ↓reduceIte], by simp only [f_X8_fails_, is_y hI hm' hs1, p2, Option.bind_some, oz, ↓reduceIte], Rel_th hR⟩
    · by_cases hw : whole H t
      · have h0 := hw s hs1
        have hle := (hT.2.2.2 s (by omega)).1
        have hd := dg_le hI s (t (3 + s) - 1)
        have hu := up_le H t s
        have ht5 := ten_le (show s ≤ 5 by omega)
        have hb : up H t s * dg H s (t (3 + s) - 1) < 2 ^ 63 := Nat.lt_of_le_of_lt (Nat.mul_le_mul hu hd) (by omega)
        have hb2 : 10 ^ (s + 1) < 2 ^ 63 := by have := ten_le (show s + 1 ≤ 5 by omega); omega
        have lm : lN (up H t s) * (nI (dg H s (t (3 + s) - 1))).toInt64 = lN (up H t s * dg H s (t (3 + s) - 1)) := by rw [il (by omega), lN_mul]
        obtain ⟨r, r1, r2⟩ := part_eq hN (a := up H t s * dg H s (t (3 + s) - 1)) (b := 10 ^ (s + 1)) hb (ten_pos _) hb2 a2
        have ca : f_X7_caughtAt N (nI s) X = some (lN (up H t s * dg H s (t (3 + s) - 1))) := by
          unfold f_X7_caughtAt
          rw [cu_c hN hI hh hT ht hw (show s ≤ H 8 1 by omega), do_c ht (show s < 5 by omega), dp h0]
          simp only [Option.bind_some]
          rw [dAt_c hI hh hs1 (by omega)]
          simp only [Option.bind_some, lm]
        exact ⟨r.toInt32, _, by simp only [f_X7_fails, hs_y hI hh hs1, p1, c1, wh_c1 hN hI hT ht hw, ca, ea1, ten_c hN (show s + 1 < 100 by omega), r1, Option.bind_some, oz, ↓reduceIte], by simp only [f_X8_fails_, is_y hI hm' hs1, p2, (wh_m hN hI hT hm' hs').1 hw, cu_m hN hI hm' hT hs' hw (show s ≤ H 8 1 by omega), e3a, if_neg (njo (show 3 + s < 8 by omega) (by omega)), nI_clamp (show 3 + s < 2 ^ 31 by omega), sm_ hs (show s < 5 by omega), dp h0, dTo_m hI hm' hs1 (show t (3 + s) - 1 < H 8 0 by omega), lm, ea1, ten_m hN (show s + 1 < 100 by omega), r2, Option.bind_some, oz, ↓reduceIte], Rel_th hR⟩
      · exact ⟨-4, _, by simp only [f_X7_fails, hs_y hI hh hs1, p1, c1, wh_c0 hN hI hT ht hw, Option.bind_some, oz, ↓reduceIte], by simp only [f_X8_fails_, is_y hI hm' hs1, p2, (wh_m hN hI hT hm' hs').2 hw, Option.bind_some, oz, ↓reduceIte], Rel_th hR⟩
/-- the loss: what one step adds, the two ways to sum it up -/
def lc (H : Nat → Nat → Nat) (t : Nat → Nat) (j : Nat) : Nat := up H t j * dg H j (t (3 + j) - 1) * H 2 (t (3 + j) - 1)
def hor (H : Nat → Nat → Nat) (t : Nat → Nat) : Nat → Nat
  | 0 => 0
  | n + 1 => 10 * hor H t n + lc H t n
def lsm (H : Nat → Nat → Nat) (t : Nat → Nat) : Nat → Nat
  | 0 => 0
  | n + 1 => lsm H t n + lc H t n * 10 ^ (H 8 1 - n - 1)
theorem lsm_hor (H : Nat → Nat → Nat) (t : Nat → Nat) : ∀ j, j ≤ H 8 1 → lsm H t j = hor H t j * 10 ^ (H 8 1 - j)
  | 0, _ => by rw [lsm, hor, Nat.zero_mul]
  | n + 1, h => by
    rw [lsm, hor, lsm_hor H t n (by omega)]
    obtain ⟨d, hd⟩ : ∃ d, H 8 1 - n = d + 1 := ⟨H 8 1 - n - 1, by omega⟩
    rw [show H 8 1 - (n + 1) = d by omega, show H 8 1 - n - 1 = d by omega, hd, Nat.pow_succ, Nat.add_mul, show hor H t n * (10 ^ d * 10) = 10 * hor H t n * 10 ^ d by
      rw [Nat.mul_comm (10 ^ d) 10, ← Nat.mul_assoc, Nat.mul_comm (hor H t n) 10]]
theorem lc_le {H : Nat → Nat → Nat} (hI : HI H) (t : Nat → Nat) (j : Nat) : lc H t j ≤ 990 * 10 ^ j := by
  have h1 := up_le H t j
  have h2 := dg_le hI j (t (3 + j) - 1)
  have h3 := (hI.2.2.2.2 (t (3 + j) - 1)).2.2.1
  calc lc H t j ≤ 10 ^ j * 10 * 99 := Nat.mul_le_mul (Nat.mul_le_mul h1 h2) (by omega)
    _ = 990 * 10 ^ j := by rw [Nat.mul_assoc, Nat.mul_comm]
theorem hor_le {H : Nat → Nat → Nat} (hI : HI H) (t : Nat → Nat) : ∀ j, hor H t j ≤ 99 * j * 10 ^ j
  | 0 => by rw [hor]; omega
  | n + 1 => by
    have h1 := hor_le hI t n
    have h2 := lc_le hI t n
    rw [hor, Nat.pow_succ]
    have e : 99 * (n + 1) * (10 ^ n * 10) = 10 * (99 * n * 10 ^ n) + 990 * 10 ^ n := by
      generalize 10 ^ n = x
      rw [Nat.mul_add, Nat.add_mul, show 99 * n * (x * 10) = 10 * (99 * n * x) by rw [← Nat.mul_assoc, Nat.mul_comm]]
      omega
    omega
theorem ls_c {N : Nat} (hN : 8000 ≤ N) {H : Nat → Nat → Nat} {t : Nat → Nat} {X : BX} (hI : HI H) (hh : RHc (X.1 1) H) (hT : TI H t) (ht : RTc (X.1 3) t) (hw : whole H t) : jw (X7_loss_s35 N X) N ((0 : Int64), (0 : Int32)) = some (lN (hor H t (H 8 1))) := by
  have h5 := hI.2.1
  have h6 := hI.1
  have c1 : (X.1 1).2 1 = nI (H 8 1) := hh.1 1 (by omega)
  refine jw_F (fun j => (lN (hor H t j), nI j)) (H 8 1) (by omega) rfl ?_ ?_
  · intro j hj
    have h0 := hw j hj
    have hle := (hT.2.2.2 j (by omega)).1
    have hmm : t (3 + j) - 1 < H 8 0 := by omega
    have hd := dg_le hI j (t (3 + j) - 1)
    have hf := (hI.2.2.2.2 (t (3 + j) - 1)).2.2.1
    unfold X7_loss_s35 f_X7_caughtAt f_X0_fearOf
    dsimp only
    rw [c1, if_neg (nI_ge hj (by omega)), do_c ht (by omega), dp h0]
    simp only [Option.bind_some, hm_y hI hh hmm, oz, ↓reduceIte, if_neg (njo (show t (3 + j) - 1 < 6 by omega) (by omega)), nI_clamp (show t (3 + j) - 1 < 2 ^ 31 by omega), hh.2.1 _ hmm 2 (show 2 < 4 by omega), cu_c hN hI hh hT ht hw (show j ≤ H 8 1 by omega), dAt_c hI hh hj hmm]
    rw [il (by omega), il (by omega), lN_mul, lN_mul, show (10 : Int64) = lN 10 from rfl, lN_mul, lN_add, ea1, hor, lc, Nat.mul_comm (H 2 _)]
  · unfold X7_loss_s35
    dsimp only
    rw [c1, if_pos (nI_le (Nat.le_refl _) (by omega))]
theorem ls_m {N : Nat} (hN : 8000 ≤ N) {H : Nat → Nat → Nat} {t : Nat → Nat} {M : Mo} (hI : HI H) (hm : RHm M.1 0 H) (hT : TI H t) (hs : RTm (M.1 5) 0 t) (hw : whole H t) : jw (X8_loss_s30 N M) N ((0 : Int64), (0 : Int32)) = some (lN (lsm H t (H 8 1))) := by
  have h5 := hI.2.1
  have h6 := hI.1
  have hm' : RHm (M.1, va_up M.2 0 (0 : Int32)).1 0 H := hm
  have hs' : RTm ((M.1, va_up M.2 0 (0 : Int32)).1 5) 0 t := hs
  have k1 : M.1 4 1 = nI (H 8 1) := hm.1 1 (by omega)
  refine jw_F (fun j => (lN (lsm H t j), nI j)) (H 8 1) (by omega) rfl ?_ ?_
  · intro j hj
    have h0 := hw j hj
    have hle := (hT.2.2.2 j (by omega)).1
    have hmm : t (3 + j) - 1 < H 8 0 := by omega
    have hd := dg_le hI j (t (3 + j) - 1)
    have hf := (hI.2.2.2.2 (t (3 + j) - 1)).2.2.1
    have k2 : M.1 1 (4 * (t (3 + j) - 1) + 2) = nI (H 2 (t (3 + j) - 1)) := by have := hm.2.1 _ hmm 2 (by omega); simpa using this
    unfold X8_loss_s30
    dsimp only
    simp only [k1, if_neg (nI_ge hj (show H 8 1 < 2 ^ 31 by omega)), e3a, if_neg (njo (show 3 + j < 8 by omega) (by omega)), nI_clamp (show 3 + j < 2 ^ 31 by omega), sm_ hs (show j < 5 by omega), dp h0, cu_m hN hI hm' hT hs' hw (show j ≤ H 8 1 by omega), dTo_m hI hm' hj hmm, e4, ea2, if_neg (njo (show 4 * (t (3 + j) - 1) + 2 < 48 by omega) (by omega)), nI_clamp (show 4 * (t (3 + j) - 1) + 2 < 2 ^ 31 by omega), k2, pk_sub (show j ≤ H 8 1 by omega), es1 (show 0 < H 8 1 - j by omega), ten_m hN (show H 8 1 - j - 1 < 100 by omega), Option.bind_some]
    rw [il (by omega), il (by omega), lN_mul, lN_mul, lN_mul, lN_add, ea1]
    rfl
  · unfold X8_loss_s30
    dsimp only
    rw [k1, if_pos (nI_le (Nat.le_refl _) (by omega))]
theorem p_loss {N : Nat} (hN : 8000 ≤ N) : ∀ (a1 : Int32) (X : BX) (M : Mo), Rel X M → ∃ (r : Int32) (M1 : Mo), f_X7_loss N a1 X = some r ∧ f_X8_loss N a1 M = some (r, M1) ∧ Rel X M1 := by
  intro a1 X M hR
  obtain ⟨H, t, hI, hh, hm, hT, ht, hs, -⟩ := id hR
  have hm' : RHm (M.1, va_up M.2 0 (0 : Int32)).1 0 H := hm
  have hs' : RTm ((M.1, va_up M.2 0 (0 : Int32)).1 5) 0 t := hs
  have h5 := hI.2.1
  have k1 : M.1 4 1 = nI (H 8 1) := hm.1 1 (by omega)
  have c1 : (X.1 1).2 1 = nI (H 8 1) := hh.1 1 (by omega)
  rcases part_or a1 with ⟨p1, p2⟩ | ⟨p1, p2, -⟩
  · exact ⟨-3, _, by simp only [f_X7_loss, p1, Option.bind_some, ↓reduceIte], by simp only [f_X8_loss, p2, Option.bind_some, ↓reduceIte], Rel_th hR⟩
  · by_cases hw : whole H t
    · have hb : hor H t (H 8 1) < 2 ^ 63 := by
        have h1 := hor_le hI t (H 8 1)
        have h2 : 99 * H 8 1 * 10 ^ H 8 1 ≤ 495 * 100000 := Nat.mul_le_mul (by omega) (ten_le h5)
        omega
      obtain ⟨r, r1, r2⟩ := part_eq hN (a := hor H t (H 8 1)) (b := 10 ^ H 8 1) hb (ten_pos _) (by have := ten_le h5; omega) a1
      have e : lsm H t (H 8 1) = hor H t (H 8 1) := by rw [lsm_hor H t _ (Nat.le_refl _), Nat.sub_self, Nat.pow_zero, Nat.mul_one]
      exact ⟨r.toInt32, _, by simp only [f_X7_loss, p1, c1, wh_c1 hN hI hT ht hw, ls_c hN hI hh hT ht hw, ten_c hN (show H 8 1 < 100 by omega), r1, Option.bind_some, oz, ↓reduceIte], by simp only [f_X8_loss, p2, k1, (wh_m hN hI hT hm' hs').1 hw, ls_m hN hI hm hT hs hw, e, ten_m hN (show H 8 1 < 100 by omega), r2, Option.bind_some, oz, ↓reduceIte], Rel_th hR⟩
    · exact ⟨-4, _, by simp only [f_X7_loss, p1, c1, wh_c0 hN hI hT ht hw, Option.bind_some, oz, ↓reduceIte], by simp only [f_X8_loss, p2, (wh_m hN hI hT hm' hs').2 hw, Option.bind_some, oz, ↓reduceIte], Rel_th hR⟩

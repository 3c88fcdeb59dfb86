theorem jw_mono {S R : Type} {step : S → Option (S ⊕ R)} {r : R} : ∀ {n : Nat} {s : S}, jw step n s = some r → ∀ {m : Nat}, n ≤ m → jw step m s = some r := by
  intro n
  induction n with
  | zero => intro s h; cases h
  | succ n ih =>
    intro s h m hm
    obtain ⟨k, rfl⟩ : ∃ k, m = k + 1 := ⟨m - 1, by omega⟩
    unfold jw at h ⊢
    cases hx : step s with
    | none => rw [hx] at h; cases h
    | some x =>
      rw [hx] at h
      cases x with
      | inl s' => exact ih h (by omega)
      | inr r' => exact h
/-- callOff: what one has by the best -/
theorem max0 (g : Int64) : (if g < 0 then (0 : Int64) else g) = (if g ≤ 0 then 0 else g) := by
  by_cases h : g < 0
  · rw [if_pos h, if_pos (Int64.le_of_lt h)]
  · rw [if_neg h]
    by_cases h2 : g ≤ 0
    · rw [if_pos h2]
      exact Int64.le_antisymm h2 (Int64.not_lt.mp h)
    · rw [if_neg h2]
def cog (q g l : Int32) (has ten : Int64) : Int64 := (q * g).toInt64 * ten + ((10 : Int32) - q).toInt64 * (has - l.toInt64 * ten)
def coh (q g l : Int32) : Nat → Int64
  | 0 => 0
  | n + 1 => if cog q g l (coh q g l n) (lN (10 ^ n)) < 0 then 0 else cog q g l (coh q g l n) (lN (10 ^ n))
theorem coh_pos (q g l : Int32) : ∀ n, ¬ coh q g l n < 0
  | 0 => by rw [coh]; decide
  | n + 1 => by
    rw [coh]
    split
    · decide
    · assumption
theorem co_c {N n : Nat} (hN : 8000 ≤ N) (hn : n ≤ 6) (q g l : Int32) : jw (X7_callOff_s60 (nI n) q g l) N ((0 : Int64), (1 : Int64), (1 : Int32)) = some (coh q g l n, lN (10 ^ n)) := by
  refine jw_F (fun j => (coh q g l j, lN (10 ^ j), nI (j + 1))) n (by omega) rfl ?_ ?_
  · intro j hj
    unfold X7_callOff_s60
    dsimp only
    rw [if_neg (nI_nlt (show j + 1 ≤ n by omega) (by omega)), show (10 : Int64) = lN 10 from rfl, lN_mul, ea1, coh, Nat.pow_succ]
    rfl
  · unfold X7_callOff_s60
    dsimp only
    rw [if_pos (nI_lt (by omega) (by omega))]
theorem co_m {N n : Nat} (hN : 8000 ≤ N) (hn : n ≤ 6) (q g l : Int32) : jw (X8_callOff_s67 (nI n) q g l) N ((0 : Int64), (1 : Int64), (0 : Int32)) = some (coh q g l n, lN (10 ^ n)) := by
  refine jw_F (fun j => (coh q g l j, lN (10 ^ j), nI j)) n (by omega) rfl ?_ ?_
  · intro j hj
    unfold X8_callOff_s67
    dsimp only
    rw [if_neg (nI_ge hj (by omega)), show (10 : Int64) = lN 10 from rfl, lN_mul, ea1, coh, Nat.pow_succ, max0]
    show (if cog q g l (coh q g l j) (lN (10 ^ j)) ≤ 0 then some (0 : Int64) else some (cog q g l (coh q g l j) (lN (10 ^ j)))).bind _ = _
    split <;> rfl
  · unfold X8_callOff_s67
    dsimp only
    rw [if_pos (nI_le (Nat.le_refl _) (by omega))]
theorem p_callOff {N : Nat} (hN : 8000 ≤ N) : ∀ (a1 a2 a3 a4 a5 : Int32) (X : BX) (M : Mo), Rel X M → ∃ (r : Int64) (M1 : Mo), f_X7_callOff N a1 a2 a3 a4 a5 X = some r ∧ f_X8_callOff N a1 a2 a3 a4 a5 M = some (r, M1) ∧ Rel X M1 := by
  intro a1 a2 a3 a4 a5 X M hR
  by_cases c1 : a1 < 1
  · exact ⟨-3, _, by simp only [f_X7_callOff, if_pos c1], by simp only [f_X8_callOff, f_X8_in, if_pos c1, Option.bind_some, ↓reduceIte], Rel_th hR⟩
  · by_cases c2 : 6 < a1
    · exact ⟨-3, _, by simp only [f_X7_callOff, if_neg c1, if_pos c2], by simp only [f_X8_callOff, show f_X8_in a1 1 6 = some 0 from by unfold f_X8_in; rw [if_neg c1, if_pos c2], Option.bind_some, ↓reduceIte], Rel_th hR⟩
    · have i1 : f_X8_in a1 1 6 = some 1 := by unfold f_X8_in; rw [if_neg c1, if_neg c2]
      have h0 : ¬ a1 < 0 := fun h => c1 (Int32.lt_of_lt_of_le h (by decide))
      obtain ⟨n, hn, rfl⟩ := wi_nat (n := 6) (by omega) h0 c2
      rcases wi_or a2 10 with ⟨w2, -⟩ | ⟨w2, -⟩
      · exact ⟨-3, _, by simp only [f_X7_callOff, if_neg c1, if_neg c2, w2, Option.bind_some, ↓reduceIte], by simp only [f_X8_callOff, i1, wi_in, w2, Option.bind_some, oz, ↓reduceIte], Rel_th hR⟩
      rcases wi_or a3 99 with ⟨w3, -⟩ | ⟨w3, -⟩
      · exact ⟨-3, _, by simp only [f_X7_callOff, if_neg c1, if_neg c2, w2, w3, Option.bind_some, oz, ↓reduceIte], by simp only [f_X8_callOff, i1, wi_in, w2, w3, Option.bind_some, oz, ↓reduceIte], Rel_th hR⟩
      rcases wi_or a4 99 with ⟨w4, -⟩ | ⟨w4, -⟩
      · exact ⟨-3, _, by simp only [f_X7_callOff, if_neg c1, if_neg c2, w2, w3, w4, Option.bind_some, oz, ↓reduceIte], by simp only [f_X8_callOff, i1, wi_in, w2, w3, w4, Option.bind_some, oz, ↓reduceIte], Rel_th hR⟩
      rcases part_or a5 with ⟨p1, p2⟩ | ⟨p1, p2, -⟩
      · exact ⟨-3, _, by simp only [f_X7_callOff, if_neg c1, if_neg c2, w2, w3, w4, p1, Option.bind_some, oz, ↓reduceIte], by simp only [f_X8_callOff, i1, wi_in, w2, w3, w4, p2, Option.bind_some, oz, ↓reduceIte], Rel_th hR⟩
      obtain ⟨k, hk, e⟩ := pk_lOf (coh_pos a2 a3 a4 n)
      have h10 : 10 ^ n < 2 ^ 63 := Nat.lt_of_le_of_lt (Nat.pow_le_pow_right (by omega) hn) (by omega)
      obtain ⟨r, r1, r2⟩ := part_eq hN (a := k) (b := 10 ^ n) hk (ten_pos _) h10 a5
      exact ⟨r, _, by simp only [f_X7_callOff, if_neg c1, if_neg c2, w2, w3, w4, p1, co_c hN hn, e, r1, Option.bind_some, oz, ↓reduceIte], by simp only [f_X8_callOff, i1, wi_in, w2, w3, w4, p2, co_m hN hn, e, r2, Option.bind_some, oz, ↓reduceIte], Rel_th hR⟩
/-- ways to choose -/
def ch : Nat → Nat → Nat
  | _, 0 => 1
  | 0, _ + 1 => 0
  | n + 1, k + 1 => ch n k + ch n (k + 1)
theorem ch_c0 : ∀ n, n < 9 → ∀ k, k < n + 1 → jw (X7_waysToChoose_s5 (nI n) (nI k)) 10 ((1 : Int64), (1 : Int32)) = some (lN (ch n k)) := by decide +kernel
theorem ch_m0 : ∀ n, n < 9 → ∀ k, k < n + 1 → jw (X8_choose_s5 (nI n) (nI k)) 10 ((1 : Int64), (0 : Int32)) = some (lN (ch n k)) := by decide +kernel
theorem ch_le : ∀ n, n < 9 → ∀ k, k < n + 1 → ch n k ≤ 70 := by decide +kernel
theorem ch_c {N n k : Nat} (hN : 8000 ≤ N) (hn : n ≤ 8) (hk : k ≤ n) : f_X7_waysToChoose N (nI n) (nI k) = some (lN (ch n k)) := by
  unfold f_X7_waysToChoose
  rw [jw_mono (ch_c0 n (by omega) k (by omega)) (by omega)]
  rfl
theorem ch_m {N n k : Nat} (hN : 8000 ≤ N) (hn : n ≤ 8) (hk : k ≤ n) : f_X8_choose N (nI n) (nI k) = some (lN (ch n k)) := by
  unfold f_X8_choose
  rw [jw_mono (ch_m0 n (by omega) k (by omega)) (by omega)]
  rfl
def shv (kd sp no n p : Nat) (j : Nat) : Nat := if dgN kd (min 9 (sp + j)) no = 0 then ch n j * p ^ j * (10 - p) ^ (n - j) else 0
def shs (kd sp no n p : Nat) : Nat → Nat
  | 0 => 0
  | j + 1 => shs kd sp no n p j + shv kd sp no n p j
theorem shv_le {kd sp no n p j : Nat} (hn : n ≤ 8) (hp : p ≤ 10) (hj : j ≤ n) : shv kd sp no n p j ≤ 70 * 10 ^ 8 := by
  unfold shv
  split
  · have h1 := ch_le n (by omega) j (by omega)
    have h2 : p ^ j * (10 - p) ^ (n - j) ≤ 10 ^ j * 10 ^ (n - j) := Nat.mul_le_mul (Nat.pow_le_pow_left hp j) (Nat.pow_le_pow_left (by omega) _)
    rw [← Nat.pow_add, show j + (n - j) = n by omega] at h2
    have h3 : 10 ^ n ≤ 10 ^ 8 := Nat.pow_le_pow_right (by omega) hn
    rw [Nat.mul_assoc]
    exact Nat.mul_le_mul h1 (Nat.le_trans h2 h3)
  · exact Nat.zero_le _
theorem shs_le {kd sp no n p : Nat} (hn : n ≤ 8) (hp : p ≤ 10) : ∀ j, j ≤ n + 1 → shs kd sp no n p j ≤ j * (70 * 10 ^ 8)
  | 0, _ => by rw [shs]; omega
  | j + 1, h => by
    have h1 := shs_le (kd := kd) (sp := sp) (no := no) hn hp j (by omega)
    have h2 := shv_le (kd := kd) (sp := sp) (no := no) hn hp (show j ≤ n by omega)
    rw [shs, Nat.add_mul]
    omega
theorem min_c (a : Nat) (ha : a < 100) : (if nI a < (9 : Int32) then nI a else 9) = nI (min 9 a) := by
  rcases Nat.lt_or_ge a 9 with h | h
  · rw [if_pos (show nI a < (9 : Int32) from nI_lt (b := 9) h (by omega)), Nat.min_eq_right (by omega)]
  · rw [if_neg (show ¬ nI a < (9 : Int32) from nI_nlt (b := 9) h (by omega)), Nat.min_eq_left h]
    rfl
theorem z_or (d : Nat) (hd : d ≤ 10) : (d = 0 ∧ nI d = (0 : Int32)) ∨ (¬ d = 0 ∧ ¬ nI d = (0 : Int32)) := by
  rcases Nat.eq_zero_or_pos d with rfl | h
  · exact Or.inl ⟨rfl, rfl⟩
  · exact Or.inr ⟨by omega, nI_ne0 h (by omega)⟩
theorem sh_c {N : Nat} (hN : 8000 ≤ N) {H : Nat → Nat → Nat} {X : BX} (hI : HI H) (hh : RHc (X.1 1) H) {m s n p : Nat} (hm : m < H 8 0) (hs : s < H 8 1) (hn : n ≤ 8) (hp : p ≤ 10) : jw (X7_shoe_s63 N (nI m) (nI s) (nI n) (nI p) X) N ((0 : Int64), (0 : Int32)) = some (lN (shs (H 0 m) (H 1 m) (H 4 s) n p (n + 1))) := by
  have h5 := hI.2.1
  have h6 := hI.1
  have b := hI.2.2.2.2
  refine jw_F (fun j => (lN (shs (H 0 m) (H 1 m) (H 4 s) n p j), nI j)) (n + 1) (by omega) rfl ?_ ?_
  · intro j hj
    have hsp := (b m).2.1
    unfold X7_shoe_s63
    dsimp only
    simp only [if_neg (nI_nlt (show j ≤ n by omega) (show n < 2 ^ 31 by omega)), if_neg (njo (show m < 6 by omega) (by omega)), if_neg (njo (show s < 5 by omega) (by omega)), nI_clamp (show m < 2 ^ 31 by omega), nI_clamp (show s < 2 ^ 31 by omega), hh.2.1 m hm 0 (show 0 < 4 by omega), hh.2.1 m hm 1 (show 1 < 4 by omega), hh.2.2.1 s hs, nI_add, min_c (H 1 m + j) (by omega), dg_c _ (b m).1 _ (show min 9 (H 1 m + j) < 10 by omega) _ (b s).2.2.2.2.1, Option.bind_some]
    have hd := dg_10 _ (b m).1 _ (show min 9 (H 1 m + j) < 10 by omega) _ (b s).2.2.2.2.1
    rw [shs, shv]
    rcases z_or _ hd with ⟨z1, z2⟩ | ⟨z1, z2⟩
    · rw [if_pos z2, if_pos z1, ch_c hN hn (show j ≤ n by omega), pw_c hN (by omega) (by omega), e10s hp, pk_sub (show j ≤ n by omega), pw_c hN (by omega) (by omega)]
      simp only [Option.bind_some]
      rw [lN_mul, lN_mul, lN_add, ea1]
    · rw [if_neg z2, if_neg z1, ea1]
      rfl
  · unfold X7_shoe_s63
    dsimp only
    rw [if_pos (nI_lt (by omega) (by omega))]
theorem min_m (a : Nat) (ha : a < 100) : (if nI a ≤ (9 : Int32) then some (nI a) else some 9) = some (nI (min 9 a)) := by
  rcases Nat.lt_or_ge 9 a with h | h
  · rw [if_neg (show ¬ nI a ≤ (9 : Int32) from nI_ge (a := 9) h (by omega)), Nat.min_eq_left (by omega)]
    rfl
  · rw [if_pos (show nI a ≤ (9 : Int32) from nI_le (b := 9) h (by omega)), Nat.min_eq_right h]
theorem sh_m {N : Nat} (hN : 8000 ≤ N) {H : Nat → Nat → Nat} {M : Mo} (hI : HI H) (hh : RHm M.1 0 H) {m s n p : Nat} (hm : m < H 8 0) (hs : s < H 8 1) (hn : n ≤ 8) (hp : p ≤ 10) : jw (X8_shoe_s64 N (nI m) (nI s) (nI n) (nI p) M) N ((0 : Int64), (0 : Int32)) = some (lN (shs (H 0 m) (H 1 m) (H 4 s) n p (n + 1))) := by
  have h5 := hI.2.1
  have h6 := hI.1
  have b := hI.2.2.2.2
  have k0 : M.1 1 (4 * m) = nI (H 0 m) := by have := hh.2.1 m hm 0 (by omega); simpa using this
  have k1 : M.1 1 (4 * m + 1) = nI (H 1 m) := by have := hh.2.1 m hm 1 (by omega); simpa using this
  have k2 : M.1 2 s = nI (H 4 s) := by have := hh.2.2.1 s hs; simpa using this
  refine jw_F (fun j => (lN (shs (H 0 m) (H 1 m) (H 4 s) n p j), nI j)) (n + 1) (by omega) rfl ?_ ?_
  · intro j hj
    have hsp := (b m).2.1
    unfold X8_shoe_s64
    dsimp only
    simp only [if_neg (nI_nlt (show j ≤ n by omega) (show n < 2 ^ 31 by omega)), e4, ea1, if_neg (njo (show 4 * m < 48 by omega) (by omega)), if_neg (njo (show 4 * m + 1 < 48 by omega) (by omega)), if_neg (njo (show s < 10 by omega) (by omega)), nI_clamp (show 4 * m < 2 ^ 31 by omega), nI_clamp (show 4 * m + 1 < 2 ^ 31 by omega), nI_clamp (show s < 2 ^ 31 by omega), k0, k1, k2, nI_add, min_m (H 1 m + j) (by omega), dg_m _ (b m).1 _ (show min 9 (H 1 m + j) < 10 by omega) _ (b s).2.2.2.2.1, Option.bind_some]
    have hd := dg_10 _ (b m).1 _ (show min 9 (H 1 m + j) < 10 by omega) _ (b s).2.2.2.2.1
    rw [shs, shv]
    rcases z_or _ hd with ⟨z1, z2⟩ | ⟨z1, z2⟩
    · rw [if_pos z2, if_pos z1, ch_m hN hn (show j ≤ n by omega), il (by omega), pw_m hN (by omega), e10s hp, il (by omega), pk_sub (show j ≤ n by omega), pw_m hN (by omega)]
      simp only [Option.bind_some, oz, ↓reduceIte]
      rw [lN_mul, lN_mul, lN_add]
    · rw [if_neg z2, if_neg z1]
      simp only [Option.bind_some, ↓reduceIte]
      rw [show (0 : Int64) = lN 0 from rfl, lN_add]
  · unfold X8_shoe_s64
    dsimp only
    rw [if_pos (nI_lt (by omega) (by omega))]
theorem p_shoe {N : Nat} (hN : 8000 ≤ N) : ∀ (a1 a2 a3 a4 a5 : Int32) (X : BX) (M : Mo), Rel X M → ∃ (r : Int64) (M1 : Mo), f_X7_shoe N a1 a2 a3 a4 a5 X = some r ∧ f_X8_shoe N a1 a2 a3 a4 a5 M = some (r, M1) ∧ Rel X M1 := by
  intro a1 a2 a3 a4 a5 X M hR
  obtain ⟨H, t, hI, hh, hm, -⟩ := id hR
  have hm' : RHm (M.1, va_up M.2 0 (0 : Int32)).1 0 H := hm
  have h6 := hI.1
  have h5 := hI.2.1
  rcases ix_or a1 (n := H 8 0) (by omega) with h1 | ⟨m, hm1, rfl⟩
  · exact ⟨-2, _, by simp only [f_X7_shoe, hm_n hh h1, Option.bind_some, ↓reduceIte], by simp only [f_X8_shoe, im_n hI hm' h1, Option.bind_some, ↓reduceIte], Rel_th hR⟩
  rcases ix_or a2 (n := H 8 1) (by omega) with h2 | ⟨s, hs1, rfl⟩
  · exact ⟨-2, _, by simp only [f_X7_shoe, hm_y hI hh hm1, hs_n hh h2, Option.bind_some, oz, ↓reduceIte], by simp only [f_X8_shoe, im_y hI hm' hm1, is_n hI hm' h2, Option.bind_some, oz, ↓reduceIte], Rel_th hR⟩
  rcases wi_or a3 8 with ⟨w3, -⟩ | ⟨w3, -⟩
  · exact ⟨-3, _, by simp only [f_X7_shoe, hm_y hI hh hm1, hs_y hI hh hs1, w3, Option.bind_some, oz, ↓reduceIte], by simp only [f_X8_shoe, im_y hI hm' hm1, is_y hI hm' hs1, wi_in, w3, Option.bind_some, oz, ↓reduceIte], Rel_th hR⟩
  rcases wi_or a4 10 with ⟨w4, -⟩ | ⟨w4, -⟩
  · exact ⟨-3, _, by simp only [f_X7_shoe, hm_y hI hh hm1, hs_y hI hh hs1, w3, w4, Option.bind_some, oz, ↓reduceIte], by simp only [f_X8_shoe, im_y hI hm' hm1, is_y hI hm' hs1, wi_in, w3, w4, Option.bind_some, oz, ↓reduceIte], Rel_th hR⟩
  rcases part_or a5 with ⟨p1, p2⟩ | ⟨p1, p2, -⟩
  · exact ⟨-3, _, by simp only [f_X7_shoe, hm_y hI hh hm1, hs_y hI hh hs1, w3, w4, p1, Option.bind_some, oz, ↓reduceIte], by simp only [f_X8_shoe, im_y hI hm' hm1, is_y hI hm' hs1, wi_in, w3, w4, p2, Option.bind_some, oz, ↓reduceIte], Rel_th hR⟩
  obtain ⟨n, hn, ha⟩ := few (n := 8) (by omega) w3
  obtain ⟨p, hp, hb⟩ := few (n := 10) (by omega) w4
  subst ha
  subst hb
  have w3' : f_X7_within (nI n) 8 = some 1 := w3
  have w4' : f_X7_within (nI p) 10 = some 1 := w4
  have h10 : 10 ^ n < 2 ^ 63 := Nat.lt_of_le_of_lt (Nat.pow_le_pow_right (by omega) hn) (by omega)
  have hsum := shs_le (kd := H 0 m) (sp := H 1 m) (no := H 4 s) hn hp (n + 1) (Nat.le_refl _)
  have hsb : shs (H 0 m) (H 1 m) (H 4 s) n p (n + 1) < 2 ^ 63 := by
    have : (n + 1) * (70 * 10 ^ 8) ≤ 9 * (70 * 10 ^ 8) := Nat.mul_le_mul_right _ (by omega)
    omega
  obtain ⟨r, r1, r2⟩ := part_eq hN (a := shs (H 0 m) (H 1 m) (H 4 s) n p (n + 1)) (b := 10 ^ n) hsb (ten_pos _) h10 a5
  exact ⟨r, _, by simp only [f_X7_shoe, hm_y hI hh hm1, hs_y hI hh hs1, w3', w4', p1, sh_c hN hI hh hm1 hs1 hn hp, ten_c hN (show n < 100 by omega), r1, Option.bind_some, oz, ↓reduceIte], by simp only [f_X8_shoe, im_y hI hm' hm1, is_y hI hm' hs1, wi_in, w3', w4', p2, sh_m hN hI hm hm1 hs1 hn hp, ten_m hN (show n < 100 by omega), r2, Option.bind_some, oz, ↓reduceIte], Rel_th hR⟩

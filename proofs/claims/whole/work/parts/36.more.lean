/-- bits by steps -/
def bitsI (p : Nat → Bool) : Nat → Int32
  | 0 => 0
  | n + 1 => bitsI p n ||| (if p n then (1 : Int32) <<< (nI n &&& 31) else 0)
theorem or_z (x : Int32) : x ||| 0 = x := by
  apply Int32.toBitVec_inj.mp
  simp
theorem bits_ext {p : Nat → Bool} {n : Nat} (h : ∀ k, n ≤ k → k < 5 → p k = false) (hn : n ≤ 5) : bitsI p 5 = bitsI p n := by
  have key : ∀ d, n + d ≤ 5 → bitsI p (n + d) = bitsI p n := by
    intro d
    induction d with
    | zero => intro _; rfl
    | succ d ih =>
      intro hd
      rw [← Nat.add_assoc, bitsI, ih (by omega), h (n + d) (by omega) (by omega)]
      exact or_z _
  have := key (5 - n) (by omega)
  rwa [show n + (5 - n) = 5 by omega] at this
theorem pred_eq {a m : Nat} (ha : a ≤ 6) (hm : m < 6) : (nI a - 1 = nI m) ↔ a = m + 1 := by
  rcases Nat.eq_zero_or_pos a with rfl | h0
  · constructor
    · intro e
      have : ∀ m, m < 6 → ¬ nI 0 - 1 = nI m := by decide +kernel
      exact absurd e (this m hm)
    · intro e; omega
  · rw [es1 h0, nI_eq (by omega) (by omega)]
    omega
def stB (t : Nat → Nat) (m : Nat) (k : Nat) : Bool := decide (t (3 + k) = m + 1)
theorem so_c {N : Nat} (hN : 8000 ≤ N) {H : Nat → Nat → Nat} {t : Nat → Nat} {T : Mo} (hI : HI H) (hT : TI H t) (ht : RTc T t) {m : Nat} (hm : m < H 8 0) : f_X4_stepsOf N (nI m) T = some (bitsI (stB t m) (H 8 1)) := by
  have h5 := hI.2.1
  have h6 := hI.1
  rw [← bits_ext (p := stB t m) (fun k hk hk5 => by have := (hT.2.2.2 k hk5).2.1 hk; unfold stB; rw [this]; exact decide_eq_false (by omega)) h5]
  unfold f_X4_stepsOf
  rw [jw_F (s := ((0 : Int32), (0 : Int32))) (n := N) (fun j => (bitsI (stB t m) j, nI j)) 5 (r := bitsI (stB t m) 5) (by omega) rfl]
  · rfl
  · intro j hj
    have hle := (hT.2.2.2 j hj).1
    unfold X4_stepsOf_s4
    dsimp only
    rw [if_neg (lt_lit (k := 5) 5 rfl hj (by omega)), if_neg (njo hj (by omega)), nI_clamp (by omega), ht.2.2.2 j hj, bitsI]
    by_cases h0 : t (3 + j) = m + 1
    · rw [if_pos ((pred_eq (by omega) (by omega)).mpr h0), show stB t m j = true from decide_eq_true h0]
      simp only [Option.bind_some, ea1, ↓reduceIte]
    · rw [if_neg (fun c => h0 ((pred_eq (by omega) (by omega)).mp c)), show stB t m j = false from decide_eq_false h0]
      simp only [Option.bind_some, ea1, Bool.false_eq_true, ↓reduceIte]
  · rfl
theorem so_m {N : Nat} (hN : 8000 ≤ N) {H : Nat → Nat → Nat} {t : Nat → Nat} {M : Mo} (hI : HI H) (hm : RHm M.1 0 H) (hT : TI H t) (hs : RTm (M.1 5) 0 t) {m : Nat} (hmm : m < H 8 0) : f_X8_stepsOf N (nI m) M = some (bitsI (stB t m) (H 8 1)) := by
  have h5 := hI.2.1
  have h6 := hI.1
  have k1 : M.1 4 1 = nI (H 8 1) := hm.1 1 (by omega)
  unfold f_X8_stepsOf
  rw [jw_F (s := ((0 : Int32), (0 : Int32))) (n := N) (fun j => (bitsI (stB t m) j, nI j)) (H 8 1) (r := bitsI (stB t m) (H 8 1)) (by omega) rfl]
  · rfl
  · intro j hj
    have hle := (hT.2.2.2 j (by omega)).1
    unfold X8_stepsOf_s4
    dsimp only
    rw [k1, if_neg (nI_ge hj (by omega)), e3a, if_neg (njo (show 3 + j < 8 by omega) (by omega)), nI_clamp (by omega), sm_ hs (by omega), ea1, bitsI]
    by_cases h0 : t (3 + j) = m + 1
    · rw [h0, if_pos rfl, show stB t m j = true from decide_eq_true h0]
      simp only [Option.bind_some, ea1, ↓reduceIte]
    · rw [if_neg (fun c => h0 ((nI_eq (by omega) (by omega)).mp c)), show stB t m j = false from decide_eq_false h0]
      simp only [Option.bind_some, ea1, Bool.false_eq_true, ↓reduceIte]
  · unfold X8_stepsOf_s4
    dsimp only
    rw [k1, if_pos (nI_le (Nat.le_refl _) (by omega))]
theorem liv_or (t : Nat → Nat) (d : Nat) : livB t d = 0 ∨ livB t d = 1 := by
  unfold livB
  split
  · exact Or.inr rfl
  · exact Or.inl rfl
theorem p_mouse {N : Nat} (hN : 8000 ≤ N) : ∀ (a1 a2 : Int32) (X : BX) (M : Mo), Rel X M → ∃ (r : Int32) (M1 : Mo), f_X7_mouse N a1 a2 X = some r ∧ f_X8_mouse N a1 a2 M = some (r, M1) ∧ Rel X M1 := by
  intro a1 a2 X M hR
  obtain ⟨H, t, hI, hh, hm, hT, ht, hs, -⟩ := id hR
  have hm' : RHm (M.1, va_up M.2 0 (0 : Int32)).1 0 H := hm
  have hs' : RTm ((M.1, va_up M.2 0 (0 : Int32)).1 5) 0 t := hs
  have h6 := hI.1
  rcases ix_or a1 (n := H 8 0) (by omega) with h1 | ⟨m, hm1, rfl⟩
  · exact ⟨-2, _, by simp only [f_X7_mouse, hm_n hh h1, Option.bind_some, ↓reduceIte], by simp only [f_X8_mouse, im_n hI hm' h1, Option.bind_some, ↓reduceIte], Rel_th hR⟩
  · have k : ∀ j, j < 4 → M.1 1 (4 * m + j) = nI (H j m) := fun j hj => by have := hm.2.1 m hm1 j hj; simpa using this
    have c : ∀ j, j < 4 → (X.1 1).1 j m = nI (H j m) := fun j hj => hh.2.1 m hm1 j hj
    have j6 := njo (show m < 6 by omega) (by omega : (6 : Nat) < 2 ^ 31)
    have cl := nI_clamp (show m < 2 ^ 31 by omega)
    rcases wi_or a2 5 with ⟨w, hw⟩ | ⟨w, -⟩
    · have nn : ∀ j : Int32, j ≤ 5 → ¬ j < 0 → ¬ a2 = j := by
        rintro j hj h0 rfl
        rcases hw with h | h
        · exact h0 h
        · exact absurd hj (Int32.not_le.mpr h)
      exact ⟨-3, _, by simp only [f_X7_mouse, hm_y hI hh hm1, if_neg (nn 0 (by decide) (by decide)), if_neg (nn 1 (by decide) (by decide)), if_neg (nn 2 (by decide) (by decide)), if_neg (nn 3 (by decide) (by decide)), if_neg (nn 4 (by decide) (by decide)), if_neg (nn 5 (by decide) (by decide)), Option.bind_some, oz, ↓reduceIte], by simp only [f_X8_mouse, im_y hI hm' hm1, wi_in, w, Option.bind_some, oz, ↓reduceIte], Rel_th hR⟩
    · obtain ⟨j, hj, ha⟩ := few (n := 5) (by omega) w
      subst ha
      have w' : f_X7_within (nI j) 5 = some 1 := w
      unfold f_X7_mouse f_X8_mouse
      simp only [hm_y hI hh hm1, im_y hI hm' hm1, wi_in, w', li_c hI hT ht hm1, li_m hI hT hs' hm1, so_c hN hI hT ht hm1, so_m hN hI hm' hT hs' hm1, e4, nI_add, if_neg j6, cl, c 0 (by omega), c 1 (by omega), c 2 (by omega), c 3 (by omega), Option.bind_some, oz, ↓reduceIte]
      rcases Nat.lt_or_ge j 4 with hj4 | hj4
      · simp only [if_neg (njo (show 4 * m + j < 48 by omega) (by omega)), nI_clamp (show 4 * m + j < 2 ^ 31 by omega), k j hj4]
        rcases (show j = 0 ∨ j = 1 ∨ j = 2 ∨ j = 3 by omega) with rfl | rfl | rfl | rfl <;> exact ⟨_, _, rfl, rfl, Rel_th hR⟩
      · rcases (show j = 4 ∨ j = 5 by omega) with rfl | rfl
        · rcases liv_or t m with h | h <;> rw [h] <;> exact ⟨_, _, rfl, rfl, Rel_th hR⟩
        · exact ⟨_, _, rfl, rfl, Rel_th hR⟩
theorem p_count {N : Nat} (hN : 8000 ≤ N) : ∀ (a1 : Int32) (X : BX) (M : Mo), Rel X M → ∃ (r : Int32) (M1 : Mo), f_X7_count N a1 X = some r ∧ f_X8_count N a1 M = some (r, M1) ∧ Rel X M1 := by
  intro a1 X M hR
  obtain ⟨H, t, hI, hh, hm, hT, ht, hs, ⟨un, nx, ua, -, -, -, u1, u2, -⟩, -, ⟨sn, ss, sv, -, s1, s2, -⟩, ⟨n, -, x1, x2, -⟩⟩ := id hR
  have hm' : RHm (M.1, va_up M.2 0 (0 : Int32)).1 0 H := hm
  have hs' : RTm ((M.1, va_up M.2 0 (0 : Int32)).1 5) 0 t := hs
  rcases wi_or a1 10 with ⟨w, hw⟩ | ⟨w, -⟩
  · have nn : ∀ j : Int32, j ≤ 10 → ¬ j < 0 → ¬ a1 = j := by
      rintro j hj h0 rfl
      rcases hw with h | h
      · exact h0 h
      · exact absurd hj (Int32.not_le.mpr h)
    exact ⟨-3, _, by simp only [f_X7_count, if_neg (nn 0 (by decide) (by decide)), if_neg (nn 1 (by decide) (by decide)), if_neg (nn 2 (by decide) (by decide)), if_neg (nn 3 (by decide) (by decide)), if_neg (nn 4 (by decide) (by decide)), if_neg (nn 5 (by decide) (by decide)), if_neg (nn 6 (by decide) (by decide)), if_neg (nn 7 (by decide) (by decide)), if_neg (nn 8 (by decide) (by decide)), if_neg (nn 9 (by decide) (by decide)), if_neg (nn 10 (by decide) (by decide))], by simp only [f_X8_count, wi_in, w, Option.bind_some, ↓reduceIte], Rel_th hR⟩
  · obtain ⟨j, hj, ha⟩ := few (n := 10) (by omega) w
    subst ha
    have w' : f_X7_within (nI j) 10 = some 1 := w
    have c : ∀ j, j < 4 → (X.1 1).2 j = nI (H 8 j) := hh.1
    have k : ∀ j, j < 4 → M.1 4 j = nI (H 8 j) := fun j hj => by have := hm.1 j hj; simpa using this
    have b : ∀ j, j < 8 → M.1 5 j = nI (t j) := fun j hj => by have := hs j hj; simpa using this
    have hb := hT.2.2.1
    unfold f_X7_count f_X8_count
    simp only [wi_in, w', fi_c hN hI hT ht, dn_m hN hI hT hm' hs', c 0 (by omega), c 1 (by omega), c 2 (by omega), c 3 (by omega), ht.1, ht.2.1, ht.2.2.1, u1, u2, s1, s2, x1, x2, Option.bind_some, oz, ↓reduceIte]
    rcases (show j = 0 ∨ j = 1 ∨ j = 2 ∨ j = 3 ∨ j = 4 ∨ j = 5 ∨ j = 6 ∨ j = 7 ∨ j = 8 ∨ j = 9 ∨ j = 10 by omega) with rfl | rfl | rfl | rfl | rfl | rfl | rfl | rfl | rfl | rfl | rfl
    · exact ⟨_, _, rfl, by rw [← k 0 (by omega)]; rfl, Rel_th hR⟩
    · exact ⟨_, _, rfl, by rw [← k 1 (by omega)]; rfl, Rel_th hR⟩
    · exact ⟨_, _, rfl, by rw [← k 2 (by omega)]; rfl, Rel_th hR⟩
    · exact ⟨_, _, rfl, by rw [← k 3 (by omega)]; rfl, Rel_th hR⟩
    · exact ⟨_, _, rfl, by rw [← b 0 (by omega)]; rfl, Rel_th hR⟩
    · exact ⟨_, _, rfl, by rw [← b 1 (by omega)]; rfl, Rel_th hR⟩
    · rcases (show t 2 = 0 ∨ t 2 = 1 by omega) with h | h
      · exact ⟨nI (t 2), _, by rw [h]; rfl, by rw [← b 2 (by omega)]; rfl, Rel_th hR⟩
      · exact ⟨nI (t 2), _, by rw [h]; rfl, by rw [← b 2 (by omega)]; rfl, Rel_th hR⟩
    · exact ⟨_, _, rfl, rfl, Rel_th hR⟩
    · exact ⟨_, _, rfl, rfl, Rel_th hR⟩
    · exact ⟨_, _, rfl, rfl, Rel_th hR⟩
    · exact ⟨_, _, rfl, rfl, Rel_th hR⟩

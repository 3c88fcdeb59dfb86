def cnr (p : Nat → Bool) : Nat → Nat
  | 0 => 0
  | n + 1 => cnr p n + (if p n = true then 1 else 0)
theorem cnr_ext {p : Nat → Bool} {n : Nat} (h : ∀ k, n ≤ k → ¬ p k = true) : ∀ d, cnr p (n + d) = cnr p n
  | 0 => rfl
  | d + 1 => by
    rw [← Nat.add_assoc, cnr, cnr_ext h d, if_neg (h (n + d) (by omega)), Nat.add_zero]
def atR (H : Nat → Nat → Nat) (t : Nat → Nat) (f S : Nat) : Prop := subL t S ∧ rest H t f S
theorem sh2 : ∀ n, n < 7 → (1 : Int32) <<< (nI n &&& 31) = nI (2 ^ n) := by decide +kernel
theorem top_b : ∀ n, n < 7 → ∀ S, S < 64 → 2 ^ n ≤ S → ∃ i, i < 6 ∧ n ≤ i ∧ S.testBit i = true := by
  intro n hn S hS h
  refine Classical.byContradiction fun c => ?_
  have : S < 2 ^ n := by
    refine Nat.lt_pow_two_of_testBit S fun i hi => ?_
    rcases Nat.lt_or_ge i 6 with g | g
    · cases e : S.testBit i
      · rfl
      · exact absurd ⟨i, g, hi, e⟩ c
    · exact Nat.testBit_lt_two_pow (Nat.lt_of_lt_of_le hS (Nat.pow_le_pow_right (n := 2) (i := 6) (by omega) g))
  omega
theorem far {H : Nat → Nat → Nat} {t : Nat → Nat} (hI : HI H) (hT : TI H t) {f S : Nat} (hS : S < 64) (h : 2 ^ H 8 0 ≤ S) : ¬ atR H t f S := by
  rintro ⟨a, -⟩
  obtain ⟨i, i6, hi, hb⟩ := top_b (H 8 0) (by have := hI.1; omega) S hS h
  have := a i i6 hb
  rw [Nat.testBit_lt_two_pow (Nat.lt_of_lt_of_le hT.2.1 (Nat.pow_le_pow_right (by omega) hi))] at this
  exact absurd this (by decide)
theorem om_m {N : Nat} (hN : 8000 ≤ N) {H : Nat → Nat → Nat} {t : Nat → Nat} {M : Mo} (hI : HI H) (hT : TI H t) (hm : RHm M.1 0 H) (hs : RTm (M.1 5) 0 t) {f S : Nat} (hf : f < 100) (hS : S < 64) : (atR H t f S → (nI S &&& ((M.1 5 1) ^^^ (-1 : Int32)) = 0) ∧ f_X8_isAtRest N (nI S) (nI f) M = some 1) ∧ (¬ atR H t f S → ¬ (nI S &&& ((M.1 5 1) ^^^ (-1 : Int32)) = 0) ∨ f_X8_isAtRest N (nI S) (nI f) M = some 0) := by
  have hL := liv_lt hI hT
  have s1 : M.1 5 1 = nI (t 1) := hs 1 (by omega)
  rw [s1, sub_i hS hL]
  refine ⟨fun h => ⟨h.1, (ar_m hN hI hT hm hs hf hS).1 h.2⟩, fun h => ?_⟩
  by_cases hu : subL t S
  · exact Or.inr ((ar_m hN hI hT hm hs hf hS).2 fun c => h ⟨hu, c⟩)
  · exact Or.inl hu
theorem la_m {N : Nat} (hN : 8000 ≤ N) {H : Nat → Nat → Nat} {t : Nat → Nat} {M : Mo} (hI : HI H) (hT : TI H t) (hm : RHm M.1 0 H) (hs : RTm (M.1 5) 0 t) {f s0 : Nat} (hf : f < 100) (h0 : s0 = 0 ∨ s0 = 1) : ((∀ S, s0 ≤ S → S < 2 ^ H 8 0 → ¬ atR H t f S) → f_X8_leastAtRest N (nI f) (nI s0) M = some (-1)) ∧ (∀ k, s0 ≤ k → k < 2 ^ H 8 0 → atR H t f k → (∀ j, s0 ≤ j → j < k → ¬ atR H t f j) → f_X8_leastAtRest N (nI f) (nI s0) M = some (nI k)) := by
  have h6 := hI.1
  have h64 := two6 h6
  have hp : 0 < 2 ^ H 8 0 := Nat.pow_pos (by omega)
  have k0 : M.1 4 0 = nI (H 8 0) := hm.1 0 (by omega)
  have est : ∀ S, S < 2 ^ H 8 0 → ¬ atR H t f S → X8_leastAtRest_s10 N (nI f) M (nI S) = some (.inl (nI (S + 1))) := fun S hS h => by
    unfold X8_leastAtRest_s10
    rw [k0, sh2 _ (by omega), if_neg (nI_ge hS (by omega))]
    rcases (om_m hN hI hT hm hs hf (show S < 64 by omega)).2 h with g | g
    · rw [if_neg g, ea1]
    · rw [g]
      simp only [Option.bind_some, ↓reduceIte, ea1, ite_self]
  have esy : ∀ S, S < 2 ^ H 8 0 → atR H t f S → X8_leastAtRest_s10 N (nI f) M (nI S) = some (.inr (.inr (nI S))) := fun S hS h => by
    unfold X8_leastAtRest_s10
    obtain ⟨g1, g2⟩ := (om_m hN hI hT hm hs hf (show S < 64 by omega)).1 h
    rw [k0, sh2 _ (by omega), if_neg (nI_ge hS (by omega)), if_pos g1, g2]
    simp only [Option.bind_some, oz, ↓reduceIte]
  have e0 : (if nI s0 = (0 : Int32) then some (0 : Int32) else some (1 : Int32)) = some (nI s0) := by
    rcases h0 with rfl | rfl <;> decide
  constructor
  · intro h
    unfold f_X8_leastAtRest
    rw [e0]
    simp only [Option.bind_some]
    rw [jw_F (s := nI s0) (n := N) (fun j => nI (s0 + j)) (2 ^ H 8 0 - s0) (r := .inl ()) (by omega) rfl (fun j hj => est _ (by omega) (h _ (by omega) (by omega)))]
    · rfl
    · unfold X8_leastAtRest_s10
      rw [k0, sh2 _ (by omega), if_pos (nI_le (by omega) (by omega))]
  · intro k hk1 hk2 hk hlt
    unfold f_X8_leastAtRest
    rw [e0]
    simp only [Option.bind_some]
    rw [jw_F (s := nI s0) (n := N) (fun j => nI (s0 + j)) (k - s0) (r := .inr (nI k)) (by omega) rfl (fun j hj => est _ (by omega) (hlt _ (by omega) (by omega)))]
    · rfl
    · rw [show s0 + (k - s0) = k by omega]
      exact esy k hk2 hk
theorem p_rests {N : Nat} (hN : 8000 ≤ N) : ∀ (a1 a2 : Int32) (X : BX) (M : Mo), Rel X M → ∃ (r : Int32) (X1 : BX) (M1 : Mo), f_X7_rests N a1 a2 X = some (r, X1) ∧ f_X8_rests N a1 a2 M = some (r, M1) ∧ Rel X1 M1 := by
  intro a1 a2 X M hR
  obtain ⟨H, t, hI, hh, hm, hT, ht, hs, hU, hK, hS, hX⟩ := id hR
  have hm' : RHm (M.1, va_up M.2 0 (0 : Int32)).1 0 H := hm
  have hs' : RTm ((M.1, va_up M.2 0 (0 : Int32)).1 5) 0 t := hs
  have h6 := hI.1
  have h64 := two6 h6
  have hp2 : 0 < 2 ^ H 8 0 := Nat.pow_pos (by omega)
  have k0 : M.1 4 0 = nI (H 8 0) := hm.1 0 (by omega)
  rcases wi_or a1 99 with ⟨w, -⟩ | ⟨w, q1, q2⟩
  · exact ⟨-3, X, _, by simp only [f_X7_rests, w, Option.bind_some, ↓reduceIte], by simp only [f_X8_rests, wi_in, w, Option.bind_some, ↓reduceIte], Rel_th hR⟩
  rcases wi_or a2 1 with ⟨w2, -⟩ | ⟨w2, -⟩
  · exact ⟨-3, X, _, by simp only [f_X7_rests, w, w2, Option.bind_some, oz, ↓reduceIte], by simp only [f_X8_rests, wi_in, w, w2, Option.bind_some, oz, ↓reduceIte], Rel_th hR⟩
  obtain ⟨f, hf, ha⟩ := wi_nat (n := 99) (by omega) q1 q2
  subst ha
  obtain ⟨k, hk, ha⟩ := few (n := 1) (by omega) w2
  subst ha
  have w' : f_X7_within (nI f) 99 = some 1 := w
  have w2' : f_X7_within (nI k) 1 = some 1 := w2
  have ew : f_X1_weigh N ((X.1 3).2 1) (nI f) (X.1 8) (X.1 1) = some ((X.1 8).1, weighed H f (H 8 0) (va_up (X.1 8).2 0 (nI (t 1)))) := by
    rw [ht.2.1]
    exact weigh_c hN hI hh (by omega) _
  have rc : ∀ S, S < 64 → _ := fun S hS => ar_c (O := ((X.1 8).1, weighed H f (H 8 0) (va_up (X.1 8).2 0 (nI (t 1))))) hI hT (f := f) hS rfl
  have rm : ∀ S, S < 64 → _ := fun S hS => om_m hN hI hT hm' hs' (f := f) (S := S) (by omega) hS
  obtain ⟨p, hp⟩ := exB (atR H t f)
  rcases (show k = 0 ∨ k = 1 by omega) with rfl | rfl
  · refine ⟨nI (cnr p 64), (va_up X.1 8 ((X.1 8).1, weighed H f (H 8 0) (va_up (X.1 8).2 0 (nI (t 1)))), X.2.1, X.2.2.1, X.2.2.2), _, ?_, ?_, Rel_th hR⟩
    · unfold f_X7_rests
      simp only [w', w2', ew, Option.bind_some, oz, ↓reduceIte, show (nI 0 = (0 : Int32)) = True by decide]
      unfold f_X1_howManyRest
      rw [jw_F (s := ((0 : Int32), (0 : Int32))) (n := N) (fun j => (nI (cnr p j), nI j)) 64 (r := nI (cnr p 64)) (by omega) rfl]
      · rfl
      · intro j hj
        unfold X1_howManyRest_s4
        dsimp only
        rw [if_neg (lt_lit (k := 64) 64 rfl hj (by omega)), cnr]
        by_cases h : atR H t f j
        · rw [(rc j hj).1 h, if_pos ((hp j).mpr h)]
          simp only [Option.bind_some, oz, ↓reduceIte, ea1]
        · rw [(rc j hj).2 h, if_neg (fun c => h ((hp j).mp c))]
          simp only [Option.bind_some, ↓reduceIte, ea1, Nat.add_zero]
          rw [show nI (cnr p j) + 0 = nI (cnr p j) from Int32.add_zero _]
      · rfl
    · unfold f_X8_rests
      simp only [wi_in, w', w2', Option.bind_some, oz, ↓reduceIte, show (nI 0 = (1 : Int32)) = False by decide]
      have ex : cnr p 64 = cnr p (2 ^ H 8 0) := by
        have := cnr_ext (p := fun i => decide (i < 64) && p i) (n := 2 ^ H 8 0) (fun k hk c => by
          rw [Bool.and_eq_true] at c
          exact far hI hT (of_decide_eq_true c.1) hk ((hp k).mp c.2)) (64 - 2 ^ H 8 0)
        have same : ∀ n, n ≤ 64 → cnr (fun i => decide (i < 64) && p i) n = cnr p n := by
          intro n
          induction n with
          | zero => intro _; rfl
          | succ n ih =>
            intro hn
            rw [cnr, cnr, ih (by omega)]
            simp only [decide_eq_true (show n < 64 by omega), Bool.true_and]
        rw [same _ (by omega), same _ h64, show 2 ^ H 8 0 + (64 - 2 ^ H 8 0) = 64 by omega] at this
        exact this
      rw [ex, jw_F (s := ((0 : Int32), (0 : Int32))) (n := N) (fun j => (nI (cnr p j), nI j)) (2 ^ H 8 0) (r := nI (cnr p (2 ^ H 8 0))) (by omega) rfl]
      · rfl
      · intro j hj
        unfold X8_rests_s44
        dsimp only
        rw [k0, sh2 _ (by omega), if_neg (nI_ge hj (by omega)), cnr]
        by_cases h : atR H t f j
        · obtain ⟨g1, g2⟩ := (rm j (by omega)).1 h
          rw [if_pos g1, g2, if_pos ((hp j).mpr h)]
          simp only [Option.bind_some, oz, ↓reduceIte, ea1]
        · rw [if_neg (show ¬ p j = true from fun c => h ((hp j).mp c))]
          rcases (rm j (by omega)).2 h with g | g
          · rw [if_neg g]
            simp only [Option.bind_some, ea1, Nat.add_zero]
            rw [show nI (cnr p j) + 0 = nI (cnr p j) from Int32.add_zero _]
          · rw [g]
            simp only [Option.bind_some, ↓reduceIte, ite_self, ea1, Nat.add_zero]
            rw [show nI (cnr p j) + 0 = nI (cnr p j) from Int32.add_zero _]
      · unfold X8_rests_s44
        dsimp only
        rw [k0, sh2 _ (by omega), if_pos (nI_le (Nat.le_refl _) (by omega))]
  · obtain ⟨hno, hye⟩ := la_m hN hI hT hm' hs' (f := f) (s0 := 0) (by omega) (Or.inl rfl)
    have cst : ∀ j, j < 64 → ¬ atR H t f j → X1_leastAtRest_s2 ((X.1 8).1, weighed H f (H 8 0) (va_up (X.1 8).2 0 (nI (t 1)))) (nI j) = some (.inl (nI (j + 1))) := fun j hj h => by
      unfold X1_leastAtRest_s2
      rw [if_neg (lt_lit (k := 64) 64 rfl hj (by omega)), (rc j hj).2 h]
      simp only [Option.bind_some, ↓reduceIte, ea1]
    have cye : ∀ j, j < 64 → atR H t f j → X1_leastAtRest_s2 ((X.1 8).1, weighed H f (H 8 0) (va_up (X.1 8).2 0 (nI (t 1)))) (nI j) = some (.inr (.inr (nI j))) := fun j hj h => by
      unfold X1_leastAtRest_s2
      rw [if_neg (lt_lit (k := 64) 64 rfl hj (by omega)), (rc j hj).1 h]
      simp only [Option.bind_some, oz, ↓reduceIte]
    by_cases hex : ∃ j, j < 64 ∧ atR H t f j
    · obtain ⟨j, ⟨hj, hat⟩, hlt⟩ := pk_least _ hex
      have hj2 : j < 2 ^ H 8 0 := by
        rcases Nat.lt_or_ge j (2 ^ H 8 0) with c | c
        · exact c
        · exact absurd hat (far hI hT hj c)
      refine ⟨nI j, (va_up X.1 8 ((X.1 8).1, weighed H f (H 8 0) (va_up (X.1 8).2 0 (nI (t 1)))), X.2.1, X.2.2.1, X.2.2.2), _, ?_, ?_, Rel_th hR⟩
      · unfold f_X7_rests
        simp only [w', w2', ew, Option.bind_some, oz, ↓reduceIte, show (nI 1 = (0 : Int32)) = False by decide]
        unfold f_X1_leastAtRest
        rw [jw_F (s := (0 : Int32)) (n := N) (fun j => nI j) j (by omega) rfl (fun i hi => cst i (by omega) (fun c => hlt i hi ⟨by omega, c⟩)) (cye j hj hat)]
        rfl
      · unfold f_X8_rests
        simp only [wi_in, w', w2', Option.bind_some, oz, ↓reduceIte, show (nI 1 = (1 : Int32)) = True by decide]
        rw [show f_X8_leastAtRest N (nI f) 0 (M.1, va_up M.2 0 0) = some (nI j) from hye j (by omega) hj2 hat (fun i _ hi c => hlt i hi ⟨by omega, c⟩)]
        rfl
    · refine ⟨-1, (va_up X.1 8 ((X.1 8).1, weighed H f (H 8 0) (va_up (X.1 8).2 0 (nI (t 1)))), X.2.1, X.2.2.1, X.2.2.2), _, ?_, ?_, Rel_th hR⟩
      · unfold f_X7_rests
        simp only [w', w2', ew, Option.bind_some, oz, ↓reduceIte, show (nI 1 = (0 : Int32)) = False by decide]
        unfold f_X1_leastAtRest
        rw [jw_F (s := (0 : Int32)) (n := N) (fun j => nI j) 64 (r := .inl ()) (by omega) rfl (fun i hi => cst i (by omega) (fun c => hex ⟨i, hi, c⟩)) rfl]
        rfl
      · unfold f_X8_rests
        simp only [wi_in, w', w2', Option.bind_some, oz, ↓reduceIte, show (nI 1 = (1 : Int32)) = True by decide]
        rw [show f_X8_leastAtRest N (nI f) 0 (M.1, va_up M.2 0 0) = some (-1) from hno (fun S _ hS c => hex ⟨S, by omega, c⟩)]
        rfl

/-! PURE: the lot, rats, whom one hires. -/
def tk (H : Nat → Nat → Nat) (t : Nat → Nat) (m : Nat) : Nat := if (t 1).testBit m = true then H 3 m else 0
def tks (H : Nat → Nat → Nat) (t : Nat → Nat) : Nat → Nat
  | 0 => 0
  | n + 1 => tks H t n + tk H t n
theorem tk_le {H : Nat → Nat → Nat} (hI : HI H) (t : Nat → Nat) (m : Nat) : tk H t m ≤ 9 := by
  have := (hI.2.2.2.2 m).2.2.2.1
  unfold tk
  split <;> omega
theorem tks_le {H : Nat → Nat → Nat} (hI : HI H) (t : Nat → Nat) : ∀ n, tks H t n ≤ 9 * n
  | 0 => Nat.le_refl _
  | n + 1 => by have := tks_le hI t n; have := tk_le hI t n; rw [tks]; omega
theorem til_c {H : Nat → Nat → Nat} {t : Nat → Nat} {X : BX} (hI : HI H) (hh : RHc (X.1 1) H) (hT : TI H t) (ht : RTc (X.1 3) t) {m : Nat} (hm : m < H 8 0) : f_X7_ticketsInLot (nI m) X = some (nI (tk H t m)) := by
  have h6 := hI.1
  unfold f_X7_ticketsInLot tk
  rw [hm_y hI hh hm, li_c hI hT ht hm]
  by_cases h : (t 1).testBit m = true
  · simp only [liv1 h, if_pos h, Option.bind_some, oz, ↓reduceIte, if_neg (njo (show m < 6 by omega) (by omega)), nI_clamp (show m < 2 ^ 31 by omega), hh.2.1 m hm 3 (show 3 < 4 by omega)]
  · simp only [liv0 h, if_neg h, Option.bind_some, oz, ↓reduceIte]
    rfl
theorem tks_c {N : Nat} (hN : 8000 ≤ N) {H : Nat → Nat → Nat} {t : Nat → Nat} {X : BX} (hI : HI H) (hh : RHc (X.1 1) H) (hT : TI H t) (ht : RTc (X.1 3) t) : jw (X7_drawn_s29 X) N ((0 : Int32), (0 : Int32)) = some (nI (tks H t (H 8 0))) := by
  have h6 := hI.1
  have c0 : (X.1 1).2 0 = nI (H 8 0) := hh.1 0 (by omega)
  refine jw_F (fun j => (nI (tks H t j), nI j)) (H 8 0) (by omega) rfl ?_ ?_
  · intro j hj
    unfold X7_drawn_s29
    dsimp only
    rw [c0, if_neg (nI_ge hj (by omega)), til_c hI hh hT ht hj]
    simp only [Option.bind_some, nI_add, ea1]
    rfl
  · unfold X7_drawn_s29
    dsimp only
    rw [c0, if_pos (nI_le (Nat.le_refl _) (by omega))]
theorem tks_m {N : Nat} (hN : 8000 ≤ N) {H : Nat → Nat → Nat} {t : Nat → Nat} {M : Mo} (hI : HI H) (hm : RHm M.1 0 H) (hT : TI H t) (hs : RTm (M.1 5) 0 t) : f_X8_tickets N M = some (nI (tks H t (H 8 0))) := by
  have h6 := hI.1
  have k0 : M.1 4 0 = nI (H 8 0) := hm.1 0 (by omega)
  unfold f_X8_tickets
  rw [jw_F (s := ((0 : Int32), (0 : Int32))) (n := N) (fun j => (nI (tks H t j), nI j)) (H 8 0) (r := nI (tks H t (H 8 0))) (by omega) rfl]
  · rfl
  · intro j hj
    have k3 : M.1 1 (4 * j + 3) = nI (H 3 j) := by have := hm.2.1 j hj 3 (by omega); simpa using this
    unfold X8_tickets_s4
    dsimp only
    rw [k0, if_neg (nI_ge hj (by omega)), li_m hI hT hs hj, tks, tk]
    by_cases h : (t 1).testBit j = true
    · simp only [liv1 h, if_pos h, Option.bind_some, oz, ↓reduceIte, e4, ea3, if_neg (njo (show 4 * j + 3 < 48 by omega) (by omega)), nI_clamp (show 4 * j + 3 < 2 ^ 31 by omega), k3, nI_add, ea1]
    · simp only [liv0 h, if_neg h, Option.bind_some, ↓reduceIte, ea1]
      rw [show nI (tks H t j) + 0 = nI (tks H t j + 0) from nI_add _ 0]
  · unfold X8_tickets_s4
    dsimp only
    rw [k0, if_pos (nI_le (Nat.le_refl _) (by omega))]
theorem p_drawn {N : Nat} (hN : 8000 ≤ N) : ∀ (a1 a2 : Int32) (X : BX) (M : Mo), Rel X M → ∃ (r : Int32) (M1 : Mo), f_X7_drawn N a1 a2 X = some r ∧ f_X8_drawn N a1 a2 M = some (r, M1) ∧ Rel X M1 := by
  intro a1 a2 X M hR
  obtain ⟨H, t, hI, hh, hm, hT, ht, hs, -⟩ := id hR
  have hm' : RHm (M.1, va_up M.2 0 (0 : Int32)).1 0 H := hm
  have hs' : RTm ((M.1, va_up M.2 0 (0 : Int32)).1 5) 0 t := hs
  have h6 := hI.1
  rcases ix_or a1 (n := H 8 0) (by omega) with h1 | ⟨m, hm1, rfl⟩
  · exact ⟨-2, _, by simp only [f_X7_drawn, hm_n hh h1, Option.bind_some, ↓reduceIte], by simp only [f_X8_drawn, im_n hI hm' h1, Option.bind_some, ↓reduceIte], Rel_th hR⟩
  rcases part_or a2 with ⟨p1, p2⟩ | ⟨p1, p2, -⟩
  · exact ⟨-3, _, by simp only [f_X7_drawn, hm_y hI hh hm1, p1, Option.bind_some, oz, ↓reduceIte], by simp only [f_X8_drawn, im_y hI hm' hm1, p2, Option.bind_some, oz, ↓reduceIte], Rel_th hR⟩
  have hle := tks_le hI t (H 8 0)
  have htl := tk_le hI t m
  rcases Nat.eq_zero_or_pos (tks H t (H 8 0)) with h0 | h0
  · exact ⟨-4, _, by simp only [f_X7_drawn, hm_y hI hh hm1, p1, tks_c hN hI hh hT ht, h0, nI_0, Option.bind_some, oz, ↓reduceIte], by simp only [f_X8_drawn, im_y hI hm' hm1, p2, tks_m hN hI hm' hT hs', h0, nI_0, Option.bind_some, oz, ↓reduceIte], Rel_th hR⟩
  · have hne : ¬ nI (tks H t (H 8 0)) = 0 := nI_ne0 h0 (by omega)
    have k3 : M.1 1 (4 * m + 3) = nI (H 3 m) := by have := hm.2.1 m hm1 3 (by omega); simpa using this
    have hk3 := (hI.2.2.2.2 m).2.2.2.1
    obtain ⟨r, r1, r2⟩ := part_eq hN (a := tk H t m) (b := tks H t (H 8 0)) (by omega) h0 (by omega) a2
    refine ⟨r.toInt32, _, by simp only [f_X7_drawn, hm_y hI hh hm1, p1, tks_c hN hI hh hT ht, if_neg hne, til_c hI hh hT ht hm1, il (show tk H t m < 2 ^ 31 by omega), il (show tks H t (H 8 0) < 2 ^ 31 by omega), r1, Option.bind_some, oz, ↓reduceIte], ?_, Rel_th hR⟩
    unfold f_X8_drawn
    simp only [im_y hI hm' hm1, p2, tks_m hN hI hm' hT hs', if_neg hne, li_m hI hT hs' hm1, Option.bind_some, oz, ↓reduceIte, e4, ea3, if_neg (njo (show 4 * m + 3 < 48 by omega) (by omega)), nI_clamp (show 4 * m + 3 < 2 ^ 31 by omega), k3, il (show tks H t (H 8 0) < 2 ^ 31 by omega), il (show H 3 m < 2 ^ 31 by omega)]
    unfold tk at r2
    by_cases h : (t 1).testBit m = true
    · rw [if_pos h] at r2
      simp only [liv1 h, Option.bind_some, oz, ↓reduceIte, r2]
    · rw [if_neg h] at r2
      simp only [liv0 h, Option.bind_some, ↓reduceIte]
      rw [show (0 : Int64) = lN 0 from rfl, r2]
      rfl
/-- rats -/
def wv (H : Nat → Nat → Nat) (r : Nat) : Int32 := nI (H 8 3) * nI (H 6 r) * nI (H 7 r) - 100 * nI (H 5 r)
def rt (H : Nat → Nat → Nat) : Nat → Int32 × Int32
  | 0 => (-1, 0)
  | n + 1 => if wv H n ≤ (rt H n).2 then rt H n else (nI n, wv H n)
theorem wo_c {H : Nat → Nat → Nat} {h : Mo} (hI : HI H) (hh : RHc h H) {r : Nat} (hr : r < H 8 2) : f_X0_worthOf (nI r) h = some (wv H r) := by
  have h4 := hI.2.2.1
  have c0 : h.1 5 r = nI (H 5 r) := hh.2.2.2 r hr 0 (by omega)
  have c1 : h.1 6 r = nI (H 6 r) := hh.2.2.2 r hr 1 (by omega)
  have c2 : h.1 7 r = nI (H 7 r) := hh.2.2.2 r hr 2 (by omega)
  simp only [f_X0_worthOf, hr_y hI hh hr, if_neg (njo (show r < 4 by omega) (by omega)), nI_clamp (show r < 2 ^ 31 by omega), c0, c1, c2, hh.1 3 (show 3 < 4 by omega), Option.bind_some, oz, ↓reduceIte, wv]
theorem wo_m {H : Nat → Nat → Nat} {M : Mo} (hI : HI H) (hm : RHm M.1 0 H) {r : Nat} (hr : r < H 8 2) : f_X8_worthOf (nI r) M = some (wv H r) := by
  have h4 := hI.2.2.1
  have k : ∀ j, j < 3 → M.1 3 (3 * r + j) = nI (H (5 + j) r) := fun j hj => by have := hm.2.2.2 r hr j hj; simpa using this
  have k0 : M.1 3 (3 * r) = nI (H 5 r) := k 0 (by omega)
  have k1 := k 1 (by omega)
  have k2 := k 2 (by omega)
  have k3 : M.1 4 3 = nI (H 8 3) := hm.1 3 (by omega)
  simp only [f_X8_worthOf, e3, ea1, ea2, if_neg (njo (show 3 * r < 24 by omega) (by omega)), if_neg (njo (show 3 * r + 1 < 24 by omega) (by omega)), if_neg (njo (show 3 * r + 2 < 24 by omega) (by omega)), nI_clamp (show 3 * r < 2 ^ 31 by omega), nI_clamp (show 3 * r + 1 < 2 ^ 31 by omega), nI_clamp (show 3 * r + 2 < 2 ^ 31 by omega), k0, k1, k2, k3, wv]
theorem rt_c {N : Nat} (hN : 8000 ≤ N) {H : Nat → Nat → Nat} {X : BX} (hI : HI H) (hh : RHc (X.1 1) H) : jw (X7_rats_s18 X) N ((-1 : Int32), (0 : Int32), (0 : Int32)) = some (rt H (H 8 2)) := by
  have h4 := hI.2.2.1
  have c0 : (X.1 1).2 2 = nI (H 8 2) := hh.1 2 (by omega)
  refine jw_F (fun j => ((rt H j).1, (rt H j).2, nI j)) (H 8 2) (by omega) rfl ?_ ?_
  · intro j hj
    unfold X7_rats_s18
    dsimp only
    rw [c0, if_neg (nI_ge hj (by omega)), wo_c hI hh hj, rt]
    by_cases h : wv H j ≤ (rt H j).2
    · simp only [Option.bind_some, if_pos h, ea1]
    · simp only [Option.bind_some, if_neg h, ea1]
  · unfold X7_rats_s18
    dsimp only
    rw [c0, if_pos (nI_le (Nat.le_refl _) (by omega))]
theorem rt_m {N : Nat} (hN : 8000 ≤ N) {H : Nat → Nat → Nat} {M : Mo} (hI : HI H) (hm : RHm M.1 0 H) : jw (X8_rats_s24 M) N ((-1 : Int32), (0 : Int32), (0 : Int32)) = some (rt H (H 8 2)) := by
  have h4 := hI.2.2.1
  have hm' : RHm (M.1, va_up M.2 0 (0 : Int32)).1 0 H := hm
  have c0 : M.1 4 2 = nI (H 8 2) := hm.1 2 (by omega)
  refine jw_F (fun j => ((rt H j).1, (rt H j).2, nI j)) (H 8 2) (by omega) rfl ?_ ?_
  · intro j hj
    unfold X8_rats_s24
    dsimp only
    rw [c0, if_neg (nI_ge hj (by omega)), wo_m hI hm' hj, rt]
    by_cases h : wv H j ≤ (rt H j).2
    · simp only [Option.bind_some, if_pos h, ea1]
    · simp only [Option.bind_some, if_neg h, ea1]
  · unfold X8_rats_s24
    dsimp only
    rw [c0, if_pos (nI_le (Nat.le_refl _) (by omega))]
theorem p_rats {N : Nat} (hN : 8000 ≤ N) : ∀ (a1 : Int32) (X : BX) (M : Mo), Rel X M → ∃ (r : Int32) (M1 : Mo), f_X7_rats N a1 X = some r ∧ f_X8_rats N a1 M = some (r, M1) ∧ Rel X M1 := by
  intro a1 X M hR
  obtain ⟨H, t, hI, hh, hm, -⟩ := id hR
  rcases wi_or a1 1 with ⟨w, -⟩ | ⟨w, -⟩
  · exact ⟨-3, _, by simp only [f_X7_rats, w, Option.bind_some, ↓reduceIte], by simp only [f_X8_rats, wi_in, w, Option.bind_some, ↓reduceIte], Rel_th hR⟩
  · unfold f_X7_rats f_X8_rats
    rw [wi_in, w, rt_c hN hI hh, rt_m hN hI hm]
    simp only [Option.bind_some, oz, ↓reduceIte]
    by_cases h : (rt H (H 8 2)).1 = -1
    · simp only [if_pos h]
      exact ⟨_, _, rfl, by rw [h], Rel_th hR⟩
    · simp only [if_neg h]
      by_cases h2 : a1 = 0
      · simp only [if_pos h2]
        exact ⟨_, _, rfl, rfl, Rel_th hR⟩
      · simp only [if_neg h2]
        exact ⟨_, _, rfl, rfl, Rel_th hR⟩
/-- who lives and has the least dread; of several the least -/
def isArg (H : Nat → Nat → Nat) (t : Nat → Nat) (n : Nat) (b : Nat) : Prop := b < n ∧ (t 1).testBit b = true ∧ ∀ i, i < n → (t 1).testBit i = true → dr H b ≤ dr H i ∧ (dr H i = dr H b → b ≤ i)
theorem arg_one {H : Nat → Nat → Nat} {t : Nat → Nat} {n a b : Nat} (ha : isArg H t n a) (hb : isArg H t n b) : a = b := by
  have h1 := ha.2.2 b hb.1 hb.2.1
  have h2 := hb.2.2 a ha.1 ha.2.1
  have e : dr H a = dr H b := Nat.le_antisymm h1.1 h2.1
  exact Nat.le_antisymm (h1.2 e.symm) (h2.2 e)
/-- the class's walk: one more than who is it so far, 0 for nobody -/
def la (H : Nat → Nat → Nat) (t : Nat → Nat) : Nat → Nat
  | 0 => 0
  | n + 1 => if (t 1).testBit n = true then (if la H t n = 0 then n + 1 else if dr H (la H t n - 1) ≤ dr H n then la H t n else n + 1) else la H t n
theorem la_spec (H : Nat → Nat → Nat) (t : Nat → Nat) : ∀ n, (la H t n = 0 ∧ ∀ i, i < n → ¬ (t 1).testBit i = true) ∨ (0 < la H t n ∧ isArg H t n (la H t n - 1))
  | 0 => Or.inl ⟨rfl, fun i hi => absurd hi (by omega)⟩
  | n + 1 => by
    rw [la]
    by_cases hl : (t 1).testBit n = true
    · rw [if_pos hl]
      rcases la_spec H t n with ⟨h0, hn⟩ | ⟨h0, hb, hb1, hmin⟩
      · rw [if_pos h0]
        refine Or.inr ⟨by omega, by omega, by simpa using hl, fun i hi hli => ?_⟩
        rcases Nat.lt_or_ge i n with h | h
        · exact absurd hli (hn i h)
        · obtain rfl : i = n := by omega
          exact ⟨Nat.le_refl _, fun _ => Nat.le_refl _⟩
      · rw [if_neg (by omega)]
        by_cases hd : dr H (la H t n - 1) ≤ dr H n
        · rw [if_pos hd]
          refine Or.inr ⟨h0, by omega, hb1, fun i hi hli => ?_⟩
          rcases Nat.lt_or_ge i n with h | h
          · exact hmin i h hli
          · obtain rfl : i = n := by omega
            exact ⟨hd, fun _ => by omega⟩
        · rw [if_neg hd]
          refine Or.inr ⟨by omega, by omega, by simpa using hl, fun i hi hli => ?_⟩
          rcases Nat.lt_or_ge i n with h | h
          · have := hmin i h hli
            exact ⟨by show dr H (n + 1 - 1) ≤ _; rw [Nat.add_sub_cancel]; omega, fun e => by rw [Nat.add_sub_cancel] at e; omega⟩
          · obtain rfl : i = n := by omega
            exact ⟨Nat.le_refl _, fun _ => Nat.le_refl _⟩
    · rw [if_neg hl]
      rcases la_spec H t n with ⟨h0, hn⟩ | ⟨h0, hb, hb1, hmin⟩
      · refine Or.inl ⟨h0, fun i hi => ?_⟩
        rcases Nat.lt_or_ge i n with h | h
        · exact hn i h
        · obtain rfl : i = n := by omega
          exact hl
      · refine Or.inr ⟨h0, by omega, hb1, fun i hi hli => ?_⟩
        rcases Nat.lt_or_ge i n with h | h
        · exact hmin i h hli
        · obtain rfl : i = n := by omega
          exact absurd hli hl
theorem la_le (H : Nat → Nat → Nat) (t : Nat → Nat) (n : Nat) : la H t n ≤ n := by
  rcases la_spec H t n with ⟨h, -⟩ | ⟨-, h, -⟩ <;> omega
theorem lN_le63 {a b : Nat} (ha : a < 2 ^ 63) (hb : b < 2 ^ 63) : lN a ≤ lN b ↔ a ≤ b := pk_lLE ha hb
theorem la_c {N : Nat} (hN : 8000 ≤ N) {H : Nat → Nat → Nat} {t : Nat → Nat} {X : BX} (hI : HI H) (hh : RHc (X.1 1) H) (hT : TI H t) (ht : RTc (X.1 3) t) : f_X7_leastAfraid N X = some (nI (la H t (H 8 0)) - 1) := by
  have h6 := hI.1
  have c0 : (X.1 1).2 0 = nI (H 8 0) := hh.1 0 (by omega)
  unfold f_X7_leastAfraid
  rw [jw_F (s := ((-1 : Int32), (0 : Int32))) (n := N) (fun j => (nI (la H t j) - 1, nI j)) (H 8 0) (r := nI (la H t (H 8 0)) - 1) (by omega) rfl]
  · rfl
  · intro j hj
    have hle := la_le H t j
    unfold X7_leastAfraid_s4
    dsimp only
    rw [c0, if_neg (nI_ge hj (by omega)), li_c hI hT ht hj, la]
    by_cases hl : (t 1).testBit j = true
    · simp only [liv1 hl, if_pos hl, Option.bind_some, oz, ↓reduceIte]
      rcases Nat.eq_zero_or_pos (la H t j) with h0 | h0
      · rw [if_pos ((pred_ne (show la H t j ≤ 6 by omega)).mpr h0), if_pos h0]
        simp only [Option.bind_some, ea1, nI_pred]
      · have hd1 := dr_le hI (la H t j - 1)
        have hd2 := dr_le hI j
        rw [if_neg (fun c => absurd ((pred_ne (show la H t j ≤ 6 by omega)).mp c) (by omega)), if_neg (show ¬ la H t j = 0 by omega), es1 h0, dr_c hN hI hh hj, dr_c hN hI hh (show la H t j - 1 < H 8 0 by omega)]
        simp only [Option.bind_some]
        by_cases hd : dr H (la H t j - 1) ≤ dr H j
        · rw [if_pos ((lN_le63 (by omega) (by omega)).mpr hd), if_pos hd]
          simp only [Option.bind_some, ea1, es1 h0]
        · rw [if_neg (fun c => hd ((lN_le63 (by omega) (by omega)).mp c)), if_neg hd]
          simp only [Option.bind_some, ea1, nI_pred]
    · simp only [liv0 hl, if_neg hl, Option.bind_some, ↓reduceIte, ea1]
  · unfold X7_leastAfraid_s4
    dsimp only
    rw [c0, if_pos (nI_le (Nat.le_refl _) (by omega))]
/-- the model's walk, from the last one down -/
def lb (H : Nat → Nat → Nat) (t : Nat → Nat) (n m : Nat) : Nat → Nat
  | 0 => m
  | j + 1 => if (t 1).testBit (n - 1 - j) = true then (if dr H (lb H t n m j) < dr H (n - 1 - j) then lb H t n m j else n - 1 - j) else lb H t n m j
theorem lb_spec {H : Nat → Nat → Nat} {t : Nat → Nat} {n m : Nat} (hm : m < n) (hl : (t 1).testBit m = true) : ∀ j, j ≤ n → lb H t n m j < n ∧ (t 1).testBit (lb H t n m j) = true ∧ (∀ i, n - j ≤ i → i < n → (t 1).testBit i = true → dr H (lb H t n m j) ≤ dr H i ∧ (dr H i = dr H (lb H t n m j) → lb H t n m j ≤ i ∨ lb H t n m j = m)) ∧ (lb H t n m j = m ∨ n - j ≤ lb H t n m j) ∧ dr H (lb H t n m j) ≤ dr H m
  | 0, _ => ⟨hm, hl, fun i h1 h2 => absurd h1 (by omega), Or.inl rfl, Nat.le_refl _⟩
  | j + 1, hj => by
    obtain ⟨h1, h2, h3, h4, h5⟩ := lb_spec hm hl j (by omega)
    rw [lb]
    by_cases hv : (t 1).testBit (n - 1 - j) = true
    · rw [if_pos hv]
      by_cases hd : dr H (lb H t n m j) < dr H (n - 1 - j)
      · rw [if_pos hd]
        refine ⟨h1, h2, fun i hi hin hli => ?_, h4.imp id (by omega), h5⟩
        rcases Nat.lt_or_ge i (n - j) with h | h
        · obtain rfl : i = n - 1 - j := by omega
          exact ⟨by omega, fun e => by omega⟩
        · exact h3 i h hin hli
      · rw [if_neg hd]
        refine ⟨by omega, hv, fun i hi hin hli => ?_, Or.inr (by omega), by omega⟩
        rcases Nat.lt_or_ge i (n - j) with h | h
        · obtain rfl : i = n - 1 - j := by omega
          exact ⟨Nat.le_refl _, fun _ => Or.inl (Nat.le_refl _)⟩
        · have := h3 i h hin hli
          exact ⟨by omega, fun _ => Or.inl (by omega)⟩
    · rw [if_neg hv]
      refine ⟨h1, h2, fun i hi hin hli => ?_, h4.imp id (by omega), h5⟩
      rcases Nat.lt_or_ge i (n - j) with h | h
      · obtain rfl : i = n - 1 - j := by omega
        exact absurd hli hv
      · exact h3 i h hin hli

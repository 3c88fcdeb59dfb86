/-! PURE: the team. -/
theorem bit_li : ∀ L, L < 64 → ∀ d, d < 6 → ((((nI L >>> (nI d &&& 31)) &&& 1) = (1 : Int32)) ↔ L.testBit d = true) := by decide +kernel
theorem liv_lt {H : Nat → Nat → Nat} {t : Nat → Nat} (hI : HI H) (hT : TI H t) : t 1 < 64 := by
  have h6 := hI.1
  have h1 := hT.2.1
  have : 2 ^ H 8 0 ≤ 2 ^ 6 := Nat.pow_le_pow_right (by omega) h6
  omega
def livB (t : Nat → Nat) (d : Nat) : Int32 := if (t 1).testBit d = true then 1 else 0
theorem li_c {H : Nat → Nat → Nat} {t : Nat → Nat} {T : Mo} (hI : HI H) (hT : TI H t) (ht : RTc T t) {d : Nat} (hd : d < H 8 0) : f_X4_lives (nI d) T = some (livB t d) := by
  have h6 := hI.1
  unfold f_X4_lives livB
  rw [if_neg (nI_pos (by omega)), if_neg (lt_lit (k := 6) 6 rfl (by omega) (by omega)), ht.2.1]
  by_cases h : (t 1).testBit d = true
  · rw [if_pos ((bit_li _ (liv_lt hI hT) d (by omega)).mpr h), if_pos h]
  · rw [if_neg (fun c => h ((bit_li _ (liv_lt hI hT) d (by omega)).mp c)), if_neg h]
theorem li_m {H : Nat → Nat → Nat} {t : Nat → Nat} {M : Mo} (hI : HI H) (hT : TI H t) (hs : RTm (M.1 5) 0 t) {d : Nat} (hd : d < H 8 0) : f_X8_isLiving (nI d) M = some (livB t d) := by
  have h6 := hI.1
  have k1 : M.1 5 1 = nI (t 1) := by have := hs 1 (by omega); simpa using this
  unfold f_X8_isLiving livB
  rw [k1]
  by_cases h : (t 1).testBit d = true
  · rw [if_pos ((bit_li _ (liv_lt hI hT) d (by omega)).mpr h), if_pos h]
  · rw [if_neg (fun c => h ((bit_li _ (liv_lt hI hT) d (by omega)).mp c)), if_neg h]
theorem liv1 {t : Nat → Nat} {d : Nat} (h : (t 1).testBit d = true) : livB t d = 1 := if_pos h
theorem liv0 {t : Nat → Nat} {d : Nat} (h : ¬ (t 1).testBit d = true) : livB t d = 0 := if_neg h
theorem do_c {t : Nat → Nat} {T : Mo} (ht : RTc T t) {k : Nat} (hk : k < 5) : f_X4_doerOf (nI k) T = some (nI (t (3 + k)) - 1) := by
  simp only [f_X4_doerOf, if_neg (nI_pos (show k < 2 ^ 31 by omega)), if_neg (lt_lit (k := 5) 5 rfl hk (by omega)), if_neg (njo hk (by omega)), nI_clamp (show k < 2 ^ 31 by omega), ht.2.2.2 k hk]
theorem sm_ {M : Mo} {t : Nat → Nat} (hs : RTm (M.1 5) 0 t) {k : Nat} (hk : k < 5) : M.1 5 (3 + k) = nI (t (3 + k)) := by have := hs (3 + k) (by omega); simpa using this
def whole (H : Nat → Nat → Nat) (t : Nat → Nat) : Prop := ∀ i, i < H 8 1 → t (3 + i) ≠ 0
theorem m1_lives {T : Mo} : f_X4_lives (-1) T = some 0 := by
  unfold f_X4_lives
  rw [if_pos (by decide)]
theorem wh_c1 {N : Nat} (hN : 8000 ≤ N) {H : Nat → Nat → Nat} {t : Nat → Nat} {T : Mo} (hI : HI H) (hT : TI H t) (ht : RTc T t) (hw : whole H t) : f_X4_isWhole N (nI (H 8 1)) T = some 1 := by
  have h5 := hI.2.1
  unfold f_X4_isWhole
  rw [jw_F (s := (0 : Int32)) (n := N) (fun j => nI j) (H 8 1) (r := .inl ()) (by omega) rfl]
  · rfl
  · intro j hj
    obtain ⟨d, hd⟩ := Nat.exists_eq_succ_of_ne_zero (hw j hj)
    have hT5 := hT.2.2.2 j (by omega)
    unfold X4_isWhole_s2
    rw [if_neg (nI_ge hj (by omega)), do_c ht (by omega), hd]
    simp only [Option.bind_some, Nat.succ_eq_add_one, nI_pred]
    rw [li_c hI hT ht (by omega), liv1 (hT5.2.2 d hd)]
    simp only [Option.bind_some, oz, ↓reduceIte, ea1]
  · unfold X4_isWhole_s2
    rw [if_pos (nI_le (Nat.le_refl _) (by omega))]
theorem wh_c0 {N : Nat} (hN : 8000 ≤ N) {H : Nat → Nat → Nat} {t : Nat → Nat} {T : Mo} (hI : HI H) (hT : TI H t) (ht : RTc T t) (hw : ¬ whole H t) : f_X4_isWhole N (nI (H 8 1)) T = some 0 := by
  have h5 := hI.2.1
  have hex : ∃ k, k < H 8 1 ∧ t (3 + k) = 0 := by
    apply Classical.byContradiction
    intro h
    exact hw (fun i hi e => h ⟨i, hi, e⟩)
  obtain ⟨k, ⟨hk, hk0⟩, hl⟩ := pk_least _ hex
  unfold f_X4_isWhole
  rw [jw_F (s := (0 : Int32)) (n := N) (fun j => nI j) k (r := .inr 0) (by omega) rfl]
  · rfl
  · intro j hj
    obtain ⟨d, hd⟩ := Nat.exists_eq_succ_of_ne_zero (fun e => hl j hj ⟨by omega, e⟩)
    have hT5 := hT.2.2.2 j (by omega)
    unfold X4_isWhole_s2
    rw [if_neg (nI_ge (show j < H 8 1 by omega) (by omega)), do_c ht (by omega), hd]
    simp only [Option.bind_some, Nat.succ_eq_add_one, nI_pred]
    rw [li_c hI hT ht (by omega), liv1 (hT5.2.2 d hd)]
    simp only [Option.bind_some, oz, ↓reduceIte, ea1]
  · unfold X4_isWhole_s2
    rw [if_neg (nI_ge hk (by omega)), do_c ht (by omega), hk0]
    simp only [Option.bind_some]
    rw [show nI 0 - 1 = (-1 : Int32) from by decide, m1_lives]
    rfl
/-- how many of the first steps have one -/
def cn (t : Nat → Nat) : Nat → Nat
  | 0 => 0
  | n + 1 => cn t n + (if t (3 + n) = 0 then 0 else 1)
theorem cn_le (t : Nat → Nat) : ∀ n, cn t n ≤ n
  | 0 => Nat.le_refl _
  | n + 1 => by have := cn_le t n; rw [cn]; split <;> omega
theorem cn_all {t : Nat → Nat} : ∀ {n}, (∀ i, i < n → t (3 + i) ≠ 0) → cn t n = n
  | 0, _ => rfl
  | n + 1, h => by rw [cn, cn_all (fun i hi => h i (by omega)), if_neg (h n (by omega))]
theorem cn_not {t : Nat → Nat} : ∀ {n}, cn t n = n → ∀ i, i < n → t (3 + i) ≠ 0
  | 0, _, i, hi => absurd hi (by omega)
  | n + 1, h, i, hi => by
    have h1 := cn_le t n
    rw [cn] at h
    by_cases h0 : t (3 + n) = 0
    · rw [if_pos h0] at h; omega
    · rw [if_neg h0] at h
      rcases Nat.lt_or_ge i n with h2 | h2
      · exact cn_not (by omega) i h2
      · obtain rfl : i = n := by omega
        exact h0
theorem cn_ext {t : Nat → Nat} {n : Nat} (h : ∀ k, n ≤ k → k < 5 → t (3 + k) = 0) (hn : n ≤ 5) : cn t 5 = cn t n := by
  have key : ∀ d, n + d ≤ 5 → cn t (n + d) = cn t n := by
    intro d
    induction d with
    | zero => intro _; rfl
    | succ d ih =>
      intro hd
      rw [← Nat.add_assoc, cn, ih (by omega), if_pos (h (n + d) (by omega) (by omega)), Nat.add_zero]
  have := key (5 - n) (by omega)
  rwa [show n + (5 - n) = 5 by omega] at this
theorem dn_m {N : Nat} (hN : 8000 ≤ N) {H : Nat → Nat → Nat} {t : Nat → Nat} {M : Mo} (hI : HI H) (hT : TI H t) (hm : RHm M.1 0 H) (hs : RTm (M.1 5) 0 t) : f_X8_done N M = some (nI (cn t (H 8 1))) := by
  have h5 := hI.2.1
  have h6 := hI.1
  have k1 : M.1 4 1 = nI (H 8 1) := hm.1 1 (by omega)
  unfold f_X8_done
  rw [jw_F (s := ((0 : Int32), (0 : Int32))) (n := N) (fun j => (nI (cn t j), nI j)) (H 8 1) (r := nI (cn t (H 8 1))) (by omega) rfl]
  · rfl
  · intro j hj
    unfold X8_done_s4
    dsimp only
    rw [k1, if_neg (nI_ge hj (by omega)), e3a, if_neg (njo (show 3 + j < 8 by omega) (by omega)), nI_clamp (by omega), sm_ hs (by omega), cn]
    by_cases h0 : t (3 + j) = 0
    · rw [h0, if_pos (show nI 0 ≤ (0 : Int32) by decide), if_pos rfl]
      simp only [Option.bind_some, ea1]
      rw [show nI (cn t j) + 0 = nI (cn t j + 0) from nI_add _ 0]
    · have := (hT.2.2.2 j (by omega)).1
      rw [if_neg (nI_nle (by omega) (by omega)), if_neg h0]
      simp only [Option.bind_some, ea1]
  · unfold X8_done_s4
    dsimp only
    rw [k1, if_pos (nI_le (Nat.le_refl _) (by omega))]
theorem pred_ne {a : Nat} (ha : a ≤ 6) : (nI a - 1 = (-1 : Int32)) ↔ a = 0 := by
  rcases (show a = 0 ∨ a = 1 ∨ a = 2 ∨ a = 3 ∨ a = 4 ∨ a = 5 ∨ a = 6 by omega) with rfl | rfl | rfl | rfl | rfl | rfl | rfl <;> decide
theorem fi_c {N : Nat} (hN : 8000 ≤ N) {H : Nat → Nat → Nat} {t : Nat → Nat} {T : Mo} (hI : HI H) (hT : TI H t) (ht : RTc T t) : f_X4_filledSteps N T = some (nI (cn t (H 8 1))) := by
  have h5 := hI.2.1
  have h6 := hI.1
  rw [← cn_ext (fun k hk hk5 => (hT.2.2.2 k hk5).2.1 hk) h5]
  unfold f_X4_filledSteps
  rw [jw_F (s := ((0 : Int32), (0 : Int32))) (n := N) (fun j => (nI (cn t j), nI j)) 5 (r := nI (cn t 5)) (by omega) rfl]
  · rfl
  · intro j hj
    have hle := (hT.2.2.2 j hj).1
    unfold X4_filledSteps_s4
    dsimp only
    rw [if_neg (lt_lit (k := 5) 5 rfl hj (by omega)), if_neg (njo hj (by omega)), nI_clamp (by omega), ht.2.2.2 j hj, cn]
    by_cases h0 : t (3 + j) = 0
    · rw [if_pos ((pred_ne (by omega)).mpr h0), if_pos h0]
      simp only [Option.bind_some, ea1]
      rw [show nI (cn t j) + 0 = nI (cn t j + 0) from nI_add _ 0]
    · rw [if_neg (fun c => h0 ((pred_ne (by omega)).mp c)), if_neg h0]
      simp only [Option.bind_some, ea1]
  · rfl
theorem wh_m {N : Nat} (hN : 8000 ≤ N) {H : Nat → Nat → Nat} {t : Nat → Nat} {M : Mo} (hI : HI H) (hT : TI H t) (hm : RHm M.1 0 H) (hs : RTm (M.1 5) 0 t) : (whole H t → f_X8_isWhole N M = some 1) ∧ (¬ whole H t → f_X8_isWhole N M = some 0) := by
  have h5 := hI.2.1
  have k1 : M.1 4 1 = nI (H 8 1) := hm.1 1 (by omega)
  have hl := cn_le t (H 8 1)
  unfold f_X8_isWhole
  rw [dn_m hN hI hT hm hs, k1]
  refine ⟨fun hw => ?_, fun hw => ?_⟩
  · rw [cn_all hw]
    simp only [Option.bind_some, ↓reduceIte]
  · simp only [Option.bind_some]
    rw [if_neg]
    intro e
    exact hw (cn_not ((nI_eq (by omega) (by omega)).mp e))
/-- coming through the first steps, above a power of ten -/
def up (H : Nat → Nat → Nat) (t : Nat → Nat) : Nat → Nat := prodN (fun i => 10 - dg H i (t (3 + i) - 1))
theorem up_le (H : Nat → Nat → Nat) (t : Nat → Nat) (k : Nat) : up H t k ≤ 10 ^ k := prod_le (fun i => Nat.sub_le _ _) k
theorem dp {t : Nat → Nat} {i : Nat} (h : t (3 + i) ≠ 0) : nI (t (3 + i)) - 1 = nI (t (3 + i) - 1) := es1 (Nat.pos_of_ne_zero h)
theorem cu_c {N : Nat} (hN : 8000 ≤ N) {H : Nat → Nat → Nat} {t : Nat → Nat} {X : BX} (hI : HI H) (hh : RHc (X.1 1) H) (hT : TI H t) (ht : RTc (X.1 3) t) (hw : whole H t) {k : Nat} (hk : k ≤ H 8 1) : f_X7_comeUpTo N (nI k) X = some (lN (up H t k)) := by
  have h5 := hI.2.1
  unfold f_X7_comeUpTo
  rw [jw_F (s := ((1 : Int64), (0 : Int32))) (n := N) (fun j => (lN (up H t j), nI j)) k (r := lN (up H t k)) (by omega) rfl]
  · rfl
  · intro j hj
    have := (hT.2.2.2 j (by omega)).1
    have h0 := hw j (by omega)
    unfold X7_comeUpTo_s5
    dsimp only
    rw [if_neg (nI_ge hj (by omega)), do_c ht (by omega), dp h0]
    simp only [Option.bind_some]
    rw [dAt_c hI hh (by omega) (by omega)]
    simp only [Option.bind_some]
    rw [tl hI, lN_mul, ea1]
    rfl
  · unfold X7_comeUpTo_s5
    dsimp only
    rw [if_pos (nI_le (Nat.le_refl _) (by omega))]
theorem cu_m {N : Nat} (hN : 8000 ≤ N) {H : Nat → Nat → Nat} {t : Nat → Nat} {M : Mo} (hI : HI H) (hm : RHm M.1 0 H) (hT : TI H t) (hs : RTm (M.1 5) 0 t) (hw : whole H t) {k : Nat} (hk : k ≤ H 8 1) : f_X8_throughTo N (nI k) M = some (lN (up H t k)) := by
  have h5 := hI.2.1
  unfold f_X8_throughTo
  rw [jw_F (s := ((1 : Int64), (0 : Int32))) (n := N) (fun j => (lN (up H t j), nI j)) k (r := lN (up H t k)) (by omega) rfl]
  · rfl
  · intro j hj
    have := (hT.2.2.2 j (by omega)).1
    have h0 := hw j (by omega)
    unfold X8_throughTo_s5
    dsimp only
    rw [if_neg (nI_ge hj (by omega)), e3a, if_neg (njo (show 3 + j < 8 by omega) (by omega)), nI_clamp (by omega), sm_ hs (by omega), dp h0, dTo_m hI hm (by omega) (by omega)]
    simp only [Option.bind_some]
    rw [tl hI, lN_mul, ea1]
    rfl
  · unfold X8_throughTo_s5
    dsimp only
    rw [if_pos (nI_le (Nat.le_refl _) (by omega))]
theorem p_through {N : Nat} (hN : 8000 ≤ N) : ∀ (a1 : Int32) (X : BX) (M : Mo), Rel X M → ∃ (r : Int32) (M1 : Mo), f_X7_through N a1 X = some r ∧ f_X8_through N a1 M = some (r, M1) ∧ Rel X M1 := by
  intro a1 X M hR
  obtain ⟨H, t, hI, hh, hm, hT, ht, hs, -⟩ := id hR
  have hm' : RHm (M.1, va_up M.2 0 (0 : Int32)).1 0 H := hm
  have hs' : RTm ((M.1, va_up M.2 0 (0 : Int32)).1 5) 0 t := hs
  have h5 := hI.2.1
  have k1 : M.1 4 1 = nI (H 8 1) := hm.1 1 (by omega)
  have c1 : (X.1 1).2 1 = nI (H 8 1) := hh.1 1 (by omega)
  rcases part_or a1 with ⟨p1, p2⟩ | ⟨p1, p2, -⟩
  · exact ⟨-3, _, by simp only [f_X7_through, p1, Option.bind_some, ↓reduceIte], by simp only [f_X8_through, p2, Option.bind_some, ↓reduceIte], Rel_th hR⟩
  · by_cases hw : whole H t
    · obtain ⟨r, r1, r2⟩ := part_eq hN (a := up H t (H 8 1)) (b := 10 ^ H 8 1) (by have := up_le H t (H 8 1); have := ten_le h5; omega) (ten_pos _) (by have := ten_le h5; omega) a1
      exact ⟨r.toInt32, _, by simp only [f_X7_through, p1, c1, wh_c1 hN hI hT ht hw, cu_c hN hI hh hT ht hw (Nat.le_refl _), ten_c hN (show H 8 1 < 100 by omega), r1, Option.bind_some, oz, ↓reduceIte], by simp only [f_X8_through, p2, k1, (wh_m hN hI hT hm' hs').1 hw, cu_m hN hI hm' hT hs' hw (Nat.le_refl _), ten_m hN (show H 8 1 < 100 by omega), r2, Option.bind_some, oz, ↓reduceIte], Rel_th hR⟩
    · exact ⟨-4, _, by simp only [f_X7_through, p1, c1, wh_c0 hN hI hT ht hw, Option.bind_some, oz, ↓reduceIte], by simp only [f_X8_through, p2, (wh_m hN hI hT hm' hs').2 hw, Option.bind_some, oz, ↓reduceIte], Rel_th hR⟩

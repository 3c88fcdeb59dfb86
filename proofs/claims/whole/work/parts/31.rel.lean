/-! PURE: what the class's state and the model's are to each other. -/
def HI (H : Nat → Nat → Nat) : Prop := H 8 0 ≤ 6 ∧ H 8 1 ≤ 5 ∧ H 8 2 ≤ 4 ∧ H 8 3 ≤ 99 ∧ ∀ j, H 0 j < 4 ∧ H 1 j < 10 ∧ H 2 j < 100 ∧ H 3 j < 10 ∧ H 4 j < 16 ∧ H 5 j < 100 ∧ H 6 j < 11 ∧ H 7 j < 11
/-- the class's house -/
def RHc (h : Mo) (H : Nat → Nat → Nat) : Prop := (∀ k, k < 4 → h.2 k = nI (H 8 k)) ∧ (∀ j, j < H 8 0 → ∀ k, k < 4 → h.1 k j = nI (H k j)) ∧ (∀ j, j < H 8 1 → h.1 4 j = nI (H 4 j)) ∧ ∀ j, j < H 8 2 → ∀ k, k < 3 → h.1 (5 + k) j = nI (H (5 + k) j)
/-- the model's house (o 0), its draft (o 1) -/
def RHm (m : Nat → Nat → Int32) (o : Nat) (H : Nat → Nat → Nat) : Prop := (∀ k, k < 4 → m 4 (4 * o + k) = nI (H 8 k)) ∧ (∀ j, j < H 8 0 → ∀ k, k < 4 → m 1 (24 * o + (4 * j + k)) = nI (H k j)) ∧ (∀ j, j < H 8 1 → m 2 (5 * o + j) = nI (H 4 j)) ∧ ∀ j, j < H 8 2 → ∀ k, k < 3 → m 3 (12 * o + (3 * j + k)) = nI (H (5 + k) j)
/-- a team: night, who lives, the bell, one more than who does each step -/
def TI (H : Nat → Nat → Nat) (t : Nat → Nat) : Prop := t 0 ≤ 999 ∧ t 1 < 2 ^ H 8 0 ∧ t 2 ≤ 1 ∧ ∀ k, k < 5 → t (3 + k) ≤ H 8 0 ∧ (H 8 1 ≤ k → t (3 + k) = 0) ∧ ∀ d, t (3 + k) = d + 1 → (t 1).testBit d = true
def RTc (t : Mo) (a : Nat → Nat) : Prop := t.2 0 = nI (a 0) ∧ t.2 1 = nI (a 1) ∧ t.2 2 = nI (a 2) ∧ ∀ k, k < 5 → t.1 0 k = nI (a (3 + k)) - 1
def RTm (f : Nat → Int32) (o : Nat) (a : Nat → Nat) : Prop := ∀ j, j < 8 → f (o + j) = nI (a j)
def RU (H : Nat → Nat → Nat) (u : Mo) (R : Nat → Mo) (f : Nat → Int32) (x : Int32) : Prop := ∃ (un nx : Nat) (a : Nat → Nat → Nat), un ≤ 8 ∧ nx < 8 ∧ u.2 0 = nI nx ∧ u.2 1 = nI un ∧ x = nI un ∧ ∀ i, i < un → TI H (a i) ∧ RTc (R ((nx + 8 - un + i) % 8)) (a i) ∧ RTm f (8 * i) (a i)
def RK (H : Nat → Nat → Nat) (v : Nat → Int32) (K : Nat → Mo) (f w : Nat → Int32) : Prop := ∀ i, i < 2 → v i = w i ∧ (w i = 0 ∨ w i = 1 ∧ ∃ a : Nat → Nat, TI H a ∧ RTc (K i) a ∧ RTm f (8 * i) a)
def RS (H : Nat → Nat → Nat) (g : Mo) (f w : Nat → Int32) (x : Int32) : Prop := ∃ (sn : Nat) (ss sv : Nat → Nat), sn ≤ 6 ∧ g.2 0 = nI sn ∧ x = nI sn ∧ ∀ i, i < sn → ss i < H 8 1 ∧ sv i < H 8 0 ∧ g.1 0 i = nI (ss i) ∧ g.1 1 i = nI (sv i) ∧ f i = nI (ss i) ∧ w i = nI (sv i)
def RX (t : Mo) (f : Nat → Int32) (x : Int32) : Prop := ∃ n : Nat, n ≤ 160 ∧ t.2 0 = nI n ∧ x = nI n ∧ ∀ i, i < n → ∃ c : Nat, c < 256 ∧ t.1 0 i = nI c ∧ f i = nI c
def Rel (X : BX) (M : Mo) : Prop := ∃ (H : Nat → Nat → Nat) (t : Nat → Nat), HI H ∧ RHc (X.1 1) H ∧ RHm M.1 0 H ∧ TI H t ∧ RTc (X.1 3) t ∧ RTm (M.1 5) 0 t ∧ RU H (X.1 4) X.2.1 (M.1 6) (M.2 9) ∧ RK H ((X.1 5).1 0) X.2.2.1 (M.1 7) (M.1 8) ∧ RS H (X.1 6) (M.1 9) (M.1 10) (M.2 10) ∧ RX (X.1 0) (M.1 0) (M.2 1)
theorem Rel_th {X : BX} {M : Mo} (h : Rel X M) : Rel X (M.1, va_up M.2 0 0) := h
def dg (H : Nat → Nat → Nat) (s m : Nat) : Nat := dgN (H 0 m) (H 1 m) (H 4 s)
theorem dg_le {H : Nat → Nat → Nat} (hI : HI H) (s m : Nat) : dg H s m ≤ 10 := dg_10 _ (hI.2.2.2.2 m).1 _ (hI.2.2.2.2 m).2.1 _ (hI.2.2.2.2 s).2.2.2.2.1
/-- a mouse, a step, a rat: there is one, or not -/
theorem hm_y {h : Mo} {H : Nat → Nat → Nat} (hI : HI H) (hh : RHc h H) {j : Nat} (hj : j < H 8 0) : f_X0_hasMouse (nI j) h = some 1 := by
  have h6 := hI.1
  unfold f_X0_hasMouse
  rw [if_neg (nI_pos (by omega)), hh.1 0 (by omega), if_neg (nI_ge hj (by omega)), if_neg (lt_lit (k := 6) 6 rfl (by omega) (by omega))]
theorem hm_n {h : Mo} {H : Nat → Nat → Nat} (hh : RHc h H) {a : Int32} (ha : a < 0 ∨ nI (H 8 0) ≤ a) : f_X0_hasMouse a h = some 0 := by
  unfold f_X0_hasMouse
  by_cases h0 : a < 0
  · rw [if_pos h0]
  · rw [if_neg h0, hh.1 0 (by omega), if_pos (ha.resolve_left h0)]
theorem hs_y {h : Mo} {H : Nat → Nat → Nat} (hI : HI H) (hh : RHc h H) {j : Nat} (hj : j < H 8 1) : f_X0_hasStep (nI j) h = some 1 := by
  have h6 := hI.2.1
  unfold f_X0_hasStep
  rw [if_neg (nI_pos (by omega)), hh.1 1 (by omega), if_neg (nI_ge hj (by omega)), if_neg (lt_lit (k := 5) 5 rfl (by omega) (by omega))]
theorem hs_n {h : Mo} {H : Nat → Nat → Nat} (hh : RHc h H) {a : Int32} (ha : a < 0 ∨ nI (H 8 1) ≤ a) : f_X0_hasStep a h = some 0 := by
  unfold f_X0_hasStep
  by_cases h0 : a < 0
  · rw [if_pos h0]
  · rw [if_neg h0, hh.1 1 (by omega), if_pos (ha.resolve_left h0)]
theorem hr_y {h : Mo} {H : Nat → Nat → Nat} (hI : HI H) (hh : RHc h H) {j : Nat} (hj : j < H 8 2) : f_X0_hasRat (nI j) h = some 1 := by
  have h6 := hI.2.2.1
  unfold f_X0_hasRat
  rw [if_neg (nI_pos (by omega)), hh.1 2 (by omega), if_neg (nI_ge hj (by omega)), if_neg (lt_lit (k := 4) 4 rfl (by omega) (by omega))]
theorem hr_n {h : Mo} {H : Nat → Nat → Nat} (hh : RHc h H) {a : Int32} (ha : a < 0 ∨ nI (H 8 2) ≤ a) : f_X0_hasRat a h = some 0 := by
  unfold f_X0_hasRat
  by_cases h0 : a < 0
  · rw [if_pos h0]
  · rw [if_neg h0, hh.1 2 (by omega), if_pos (ha.resolve_left h0)]
theorem in_y {n : Nat} (hn : n < 2 ^ 30) {j : Nat} (hj : j < n) : f_X8_in (nI j) 0 (nI n - 1) = some 1 := by
  unfold f_X8_in
  rw [if_neg (nI_pos (by omega)), if_neg]
  rw [Int32.lt_iff_toInt_lt, nI_toInt (by omega), show nI n - 1 = nI n - nI 1 from rfl, pk_sub_toInt (by omega) (by omega)]
  omega
theorem in_n {n : Nat} (hn : n < 2 ^ 30) {a : Int32} (ha : a < 0 ∨ nI n ≤ a) : f_X8_in a 0 (nI n - 1) = some 0 := by
  unfold f_X8_in
  by_cases h0 : a < 0
  · rw [if_pos h0]
  · have h1 := ha.resolve_left h0
    rw [if_neg h0, if_pos]
    rw [Int32.le_iff_toInt_le, nI_toInt (by omega)] at h1
    rw [Int32.lt_iff_toInt_lt, show nI n - 1 = nI n - nI 1 from rfl, pk_sub_toInt (by omega) (by omega)]
    omega
theorem im_y {M : Mo} {H : Nat → Nat → Nat} (hI : HI H) (hm : RHm M.1 0 H) {j : Nat} (hj : j < H 8 0) : f_X8_isMouse (nI j) M = some 1 := by
  have h6 := hI.1
  unfold f_X8_isMouse
  rw [show M.1 4 0 = nI (H 8 0) from hm.1 0 (by omega), in_y (by omega) hj]
  rfl
theorem im_n {M : Mo} {H : Nat → Nat → Nat} (hI : HI H) (hm : RHm M.1 0 H) {a : Int32} (ha : a < 0 ∨ nI (H 8 0) ≤ a) : f_X8_isMouse a M = some 0 := by
  have h6 := hI.1
  unfold f_X8_isMouse
  rw [show M.1 4 0 = nI (H 8 0) from hm.1 0 (by omega), in_n (by omega) ha]
  rfl
theorem is_y {M : Mo} {H : Nat → Nat → Nat} (hI : HI H) (hm : RHm M.1 0 H) {j : Nat} (hj : j < H 8 1) : f_X8_isStep (nI j) M = some 1 := by
  have h6 := hI.2.1
  unfold f_X8_isStep
  rw [show M.1 4 1 = nI (H 8 1) from hm.1 1 (by omega), in_y (by omega) hj]
  rfl
theorem is_n {M : Mo} {H : Nat → Nat → Nat} (hI : HI H) (hm : RHm M.1 0 H) {a : Int32} (ha : a < 0 ∨ nI (H 8 1) ≤ a) : f_X8_isStep a M = some 0 := by
  have h6 := hI.2.1
  unfold f_X8_isStep
  rw [show M.1 4 1 = nI (H 8 1) from hm.1 1 (by omega), in_n (by omega) ha]
  rfl
/-- which: none such, or the j-th -/
theorem ix_or (a : Int32) {n : Nat} (hn : n < 2 ^ 31) : (a < 0 ∨ nI n ≤ a) ∨ ∃ j : Nat, j < n ∧ a = nI j := by
  rcases pk_ix a hn with h | h | h
  · exact Or.inl (Or.inl h)
  · exact Or.inl (Or.inr h)
  · exact Or.inr h
theorem wi_in (a b : Int32) : f_X8_in a 0 b = f_X7_within a b := rfl
theorem wi_y {a b : Int32} (h0 : ¬ a < 0) (h1 : ¬ b < a) : f_X7_within a b = some 1 := by
  unfold f_X7_within
  rw [if_neg h0, if_neg h1]
theorem wi_n {a b : Int32} (h : a < 0 ∨ b < a) : f_X7_within a b = some 0 := by
  unfold f_X7_within
  by_cases h0 : a < 0
  · rw [if_pos h0]
  · rw [if_neg h0, if_pos (h.resolve_left h0)]
theorem wi_or (a b : Int32) : (f_X7_within a b = some 0 ∧ (a < 0 ∨ b < a)) ∨ (f_X7_within a b = some 1 ∧ ¬ a < 0 ∧ ¬ b < a) := by
  by_cases h : a < 0 ∨ b < a
  · exact Or.inl ⟨wi_n h, h⟩
  · exact Or.inr ⟨wi_y (fun c => h (Or.inl c)) (fun c => h (Or.inr c)), fun c => h (Or.inl c), fun c => h (Or.inr c)⟩
theorem wi_nat {a : Int32} {n : Nat} (hn : n < 2 ^ 31) (h0 : ¬ a < 0) (h1 : ¬ nI n < a) : ∃ j : Nat, j ≤ n ∧ a = nI j := by
  obtain ⟨j, hj, rfl⟩ := nI_of h0
  exact ⟨j, by rcases Nat.lt_or_ge n j with h | h; exact absurd (nI_lt h hj) h1; exact h, rfl⟩
theorem part_or (p : Int32) : (f_X7_isPart p = some 0 ∧ f_X8_isPart p = some 0) ∨ (f_X7_isPart p = some 1 ∧ f_X8_isPart p = some 1 ∧ (p = 0 ∨ p = 1)) := by
  rcases wi_or p 1 with ⟨h, h2⟩ | ⟨h, h0, h1⟩
  · refine Or.inl ⟨by unfold f_X7_isPart; rw [h]; rfl, ?_⟩
    unfold f_X8_isPart
    rw [if_neg, if_neg]
    · rintro rfl; revert h2; decide
    · rintro rfl; revert h2; decide
  · obtain ⟨j, hj, rfl⟩ := wi_nat (n := 1) (by omega) h0 h1
    refine Or.inr ⟨by unfold f_X7_isPart; rw [h]; rfl, ?_⟩
    rcases (show j = 0 ∨ j = 1 by omega) with rfl | rfl
    · exact ⟨rfl, Or.inl rfl⟩
    · exact ⟨rfl, Or.inr rfl⟩
theorem dAt_c {h : Mo} {H : Nat → Nat → Nat} (hI : HI H) (hh : RHc h H) {s m : Nat} (hs : s < H 8 1) (hm : m < H 8 0) : f_X0_dangerAt (nI s) (nI m) h = some (nI (dg H s m)) := by
  have h6 := hI.1
  have h5 := hI.2.1
  unfold f_X0_dangerAt
  simp only [hs_y hI hh hs, hm_y hI hh hm, Option.bind_some, if_neg (show ¬ (1 : Int32) = 0 by decide), if_neg (njo (show s < 5 by omega) (by omega)), if_neg (njo (show m < 6 by omega) (by omega)), nI_clamp (show s < 2 ^ 31 by omega), nI_clamp (show m < 2 ^ 31 by omega), hh.2.2.1 s hs, hh.2.1 m hm 0 (by omega), hh.2.1 m hm 1 (by omega)]
  rw [dg_c _ (hI.2.2.2.2 m).1 _ (hI.2.2.2.2 m).2.1 _ (hI.2.2.2.2 s).2.2.2.2.1]
  rfl
theorem dTo_m {M : Mo} {H : Nat → Nat → Nat} (hI : HI H) (hh : RHm M.1 0 H) {s m : Nat} (hs : s < H 8 1) (hm : m < H 8 0) : f_X8_dangerTo (nI s) (nI m) M = some (nI (dg H s m)) := by
  have h6 := hI.1
  have h5 := hI.2.1
  have k0 : M.1 1 (4 * m) = nI (H 0 m) := by have := hh.2.1 m hm 0 (by omega); simpa using this
  have k1 : M.1 1 (4 * m + 1) = nI (H 1 m) := by have := hh.2.1 m hm 1 (by omega); simpa using this
  have k2 : M.1 2 s = nI (H 4 s) := by have := hh.2.2.1 s hs; simpa using this
  unfold f_X8_dangerTo
  simp only [e4, ea1, if_neg (njo (show 4 * m < 48 by omega) (by omega)), if_neg (njo (show 4 * m + 1 < 48 by omega) (by omega)), if_neg (njo (show s < 10 by omega) (by omega)), nI_clamp (show s < 2 ^ 31 by omega), nI_clamp (show 4 * m < 2 ^ 31 by omega), nI_clamp (show 4 * m + 1 < 2 ^ 31 by omega), k0, k1, k2]
  rw [dg_m _ (hI.2.2.2.2 m).1 _ (hI.2.2.2.2 m).2.1 _ (hI.2.2.2.2 s).2.2.2.2.1]
  rfl

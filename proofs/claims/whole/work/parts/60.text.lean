/-! PURE: the text, letter by letter. -/
theorem runs (p : Nat → Bool) {n i : Nat} (hi : i ≤ n) : ∃ e, i ≤ e ∧ e ≤ n ∧ (∀ j, i ≤ j → j < e → p j = true) ∧ (e < n → ¬ p e = true) := by
  by_cases h : ∃ e, i ≤ e ∧ e < n ∧ ¬ p e = true
  · obtain ⟨e, ⟨h1, h2, h3⟩, hl⟩ := pk_least _ h
    exact ⟨e, h1, by omega, fun j hj1 hj2 => Classical.byContradiction fun c => hl j hj2 ⟨hj1, by omega, c⟩, fun _ => h3⟩
  · exact ⟨n, hi, Nat.le_refl n, fun j hj1 hj2 => Classical.byContradiction fun c => h ⟨j, hj1, hj2, c⟩, fun c => absurd c (by omega)⟩
/-- the letters of the class's text and of the model's -/
def TX (x : Mo) (n : Nat) (c : Nat → Nat) : Prop := n ≤ 160 ∧ x.2 0 = nI n ∧ ∀ i, i < n → c i < 256 ∧ x.1 0 i = nI (c i)
theorem let_c {x : Mo} {n : Nat} {c : Nat → Nat} (h : TX x n c) {i : Nat} (hi : i < n) : f_X5_letterAt (nI i) x = some (nI (c i)) := by
  have h1 := h.1
  unfold f_X5_letterAt
  rw [if_neg (nI_pos (by omega)), h.2.1, if_neg (nI_ge hi (by omega)), if_neg (lt_lit (k := 160) 160 rfl (by omega) (by omega)), if_neg (njo (show i < 160 by omega) (by omega)), nI_clamp (by omega), (h.2.2 i hi).2]
theorem let_n {x : Mo} {n : Nat} {c : Nat → Nat} (h : TX x n c) {i : Nat} (hi : n ≤ i) (hb : i < 2 ^ 31) : f_X5_letterAt (nI i) x = some (-1) := by
  unfold f_X5_letterAt
  rw [if_neg (nI_pos hb), h.2.1, if_pos (nI_le hi hb)]
def dgtB (c : Nat) : Bool := decide (48 ≤ c ∧ c ≤ 57)
def smlB (c : Nat) : Bool := decide (97 ≤ c ∧ c ≤ 122)
def blkB (c : Nat) : Bool := decide (c = 32)
theorem isd_c : ∀ c, c < 256 → f_X5_isDigit (nI c) = some (if dgtB c = true then 1 else 0) := by decide +kernel
theorem iss_c : ∀ c, c < 256 → f_X5_isSmall (nI c) = some (if smlB c = true then 1 else 0) := by decide +kernel
theorem isd_m : ∀ c, c < 256 → f_X8_in (nI c) 48 57 = some (if dgtB c = true then 1 else 0) := by decide +kernel
theorem iss_m : ∀ c, c < 256 → f_X8_in (nI c) 97 122 = some (if smlB c = true then 1 else 0) := by decide +kernel
theorem blk_i : ∀ c, c < 256 → ((nI c = (32 : Int32)) ↔ blkB c = true) := by decide +kernel
theorem eb_c {N : Nat} (hN : 8000 ≤ N) {x : Mo} {n : Nat} {c : Nat → Nat} (h : TX x n c) {i e : Nat} (h1 : i ≤ e) (h2 : e ≤ n) (h3 : ∀ j, i ≤ j → j < e → blkB (c j) = true) (h4 : e < n → ¬ blkB (c e) = true) : f_X5_endOfBlanks N (nI i) x = some (nI e) := by
  have hn := h.1
  unfold f_X5_endOfBlanks
  rw [jw_F (s := nI i) (n := N) (fun j => nI (i + j)) (e - i) (r := nI e) (by omega) rfl]
  · rfl
  · intro j hj
    have hc := h.2.2 (i + j) (by omega)
    unfold X5_endOfBlanks_s2
    rw [h.2.1, if_neg (nI_ge (show i + j < n by omega) (by omega)), let_c h (by omega)]
    simp only [Option.bind_some]
    rw [if_pos ((blk_i _ hc.1).mpr (h3 _ (by omega) (by omega))), ea1]
    rfl
  · rw [show i + (e - i) = e by omega]
    unfold X5_endOfBlanks_s2
    rw [h.2.1]
    by_cases he : e < n
    · have hc := h.2.2 e he
      rw [if_neg (nI_ge he (by omega)), let_c h he]
      simp only [Option.bind_some]
      rw [if_neg (fun d => h4 he ((blk_i _ hc.1).mp d))]
    · rw [if_pos (nI_le (by omega) (by omega))]
theorem en_c {N : Nat} (hN : 8000 ≤ N) {x : Mo} {n : Nat} {c : Nat → Nat} (h : TX x n c) {i e : Nat} (h1 : i ≤ e) (h2 : e ≤ n) (h3 : ∀ j, i ≤ j → j < e → dgtB (c j) = true) (h4 : e < n → ¬ dgtB (c e) = true) : f_X5_endOfNumber N (nI i) x = some (nI e) := by
  have hn := h.1
  unfold f_X5_endOfNumber
  rw [jw_F (s := nI i) (n := N) (fun j => nI (i + j)) (e - i) (r := nI e) (by omega) rfl]
  · rfl
  · intro j hj
    have hc := h.2.2 (i + j) (by omega)
    unfold X5_endOfNumber_s2
    rw [h.2.1, if_neg (nI_ge (show i + j < n by omega) (by omega)), let_c h (by omega)]
    simp only [Option.bind_some, isd_c _ hc.1, if_pos (h3 (i + j) (by omega) (by omega)), oz, ↓reduceIte, ea1]
    rfl
  · rw [show i + (e - i) = e by omega]
    unfold X5_endOfNumber_s2
    rw [h.2.1]
    by_cases he : e < n
    · have hc := h.2.2 e he
      rw [if_neg (nI_ge he (by omega)), let_c h he]
      simp only [Option.bind_some, isd_c _ hc.1, if_neg (h4 he), ↓reduceIte]
    · rw [if_pos (nI_le (by omega) (by omega))]
theorem ew_c {N : Nat} (hN : 8000 ≤ N) {x : Mo} {n : Nat} {c : Nat → Nat} (h : TX x n c) {i e : Nat} (h1 : i ≤ e) (h2 : e ≤ n) (h3 : ∀ j, i ≤ j → j < e → smlB (c j) = true) (h4 : e < n → ¬ smlB (c e) = true) : f_X5_endOfWord N (nI i) x = some (nI e) := by
  have hn := h.1
  unfold f_X5_endOfWord
  rw [jw_F (s := nI i) (n := N) (fun j => nI (i + j)) (e - i) (r := nI e) (by omega) rfl]
  · rfl
  · intro j hj
    have hc := h.2.2 (i + j) (by omega)
    unfold X5_endOfWord_s2
    rw [h.2.1, if_neg (nI_ge (show i + j < n by omega) (by omega)), let_c h (by omega)]
    simp only [Option.bind_some, iss_c _ hc.1, if_pos (h3 (i + j) (by omega) (by omega)), oz, ↓reduceIte, ea1]
    rfl
  · rw [show i + (e - i) = e by omega]
    unfold X5_endOfWord_s2
    rw [h.2.1]
    by_cases he : e < n
    · have hc := h.2.2 e he
      rw [if_neg (nI_ge he (by omega)), let_c h he]
      simp only [Option.bind_some, iss_c _ hc.1, if_neg (h4 he), ↓reduceIte]
    · rw [if_pos (nI_le (by omega) (by omega))]

def TM (A : Nat → Nat → Int32) (B : Nat → Int32) (n : Nat) (c : Nat → Nat) : Prop := n ≤ 160 ∧ B 1 = nI n ∧ ∀ i, i < n → c i < 256 ∧ A 0 i = nI (c i)
theorem let_m {A : Nat → Nat → Int32} {B : Nat → Int32} {n : Nat} {c : Nat → Nat} (h : TM A B n c) {i : Nat} (hi : i < n) : f_X8_letterAt (nI i) (A, B) = some (nI (c i)) := by
  have h1 := h.1
  unfold f_X8_letterAt
  dsimp only
  simp only [h.2.1, if_neg (nI_ge hi (show n < 2 ^ 31 by omega)), if_neg (njo (show i < 160 by omega) (by omega)), nI_clamp (show i < 2 ^ 31 by omega), (h.2.2 i hi).2]
theorem let_mn {A : Nat → Nat → Int32} {B : Nat → Int32} {n : Nat} {c : Nat → Nat} (h : TM A B n c) {i : Nat} (hi : n ≤ i) (hb : i < 2 ^ 31) : f_X8_letterAt (nI i) (A, B) = some (-1) := by
  unfold f_X8_letterAt
  dsimp only
  simp only [h.2.1, if_pos (nI_le hi hb)]
theorem m1_no : f_X8_in (-1) 48 57 = some 0 ∧ f_X8_in (-1) 97 122 = some 0 := by decide
theorem eb_m {N : Nat} (hN : 8000 ≤ N) {A : Nat → Nat → Int32} {B : Nat → Int32} {n : Nat} {c : Nat → Nat} (h : TM A B n c) {i e : Nat} (hB : B 2 = nI i) (h1 : i ≤ e) (h2 : e ≤ n) (h3 : ∀ j, i ≤ j → j < e → blkB (c j) = true) (h4 : e < n → ¬ blkB (c e) = true) : jw (X8_advances_s0) N (A, B) = some (A, va_up B 2 (nI e)) := by
  have hn := h.1
  refine jw_F (fun j => (A, va_up B 2 (nI (i + j)))) (e - i) (by omega) ?_ ?_ ?_
  · rw [Nat.add_zero, ← hB, va_id]
  · intro j hj
    have h' : TM A (va_up B 2 (nI (i + j))) n c := h
    have hc := h.2.2 (i + j) (by omega)
    unfold X8_advances_s0
    dsimp only
    rw [show va_up B 2 (nI (i + j)) 2 = nI (i + j) from rfl, let_m h' (by omega)]
    simp only [Option.bind_some]
    rw [if_pos ((blk_i _ hc.1).mpr (h3 _ (by omega) (by omega))), bx_uu, ea1]
    rfl
  · rw [show i + (e - i) = e by omega]
    have h' : TM A (va_up B 2 (nI e)) n c := h
    unfold X8_advances_s0
    dsimp only
    rw [show va_up B 2 (nI e) 2 = nI e from rfl]
    by_cases he : e < n
    · have hc := h.2.2 e he
      rw [let_m h' he]
      simp only [Option.bind_some]
      rw [if_neg (fun d => h4 he ((blk_i _ hc.1).mp d))]
    · rw [let_mn h' (by omega) (by omega)]
      rfl
theorem ew_m {N : Nat} (hN : 8000 ≤ N) {A : Nat → Nat → Int32} {B : Nat → Int32} {n : Nat} {c : Nat → Nat} (h : TM A B n c) {i e : Nat} (hB : B 2 = nI i) (h1 : i ≤ e) (h2 : e ≤ n) (h3 : ∀ j, i ≤ j → j < e → smlB (c j) = true) (h4 : e < n → ¬ smlB (c e) = true) : jw (X8_advances_s66) N (A, B) = some (A, va_up B 2 (nI e)) := by
  have hn := h.1
  refine jw_F (fun j => (A, va_up B 2 (nI (i + j)))) (e - i) (by omega) ?_ ?_ ?_
  · rw [Nat.add_zero, ← hB, va_id]
  · intro j hj
    have h' : TM A (va_up B 2 (nI (i + j))) n c := h
    have hc := h.2.2 (i + j) (by omega)
    unfold X8_advances_s66
    dsimp only
    rw [show va_up B 2 (nI (i + j)) 2 = nI (i + j) from rfl, let_m h' (by omega)]
    simp only [Option.bind_some, iss_m _ hc.1, if_pos (h3 (i + j) (by omega) (by omega)), oz, ↓reduceIte, bx_uu, ea1]
    rfl
  · rw [show i + (e - i) = e by omega]
    have h' : TM A (va_up B 2 (nI e)) n c := h
    unfold X8_advances_s66
    dsimp only
    rw [show va_up B 2 (nI e) 2 = nI e from rfl]
    by_cases he : e < n
    · have hc := h.2.2 e he
      rw [let_m h' he]
      simp only [Option.bind_some, iss_m _ hc.1, if_neg (h4 he), ↓reduceIte]
    · rw [let_mn h' (by omega) (by omega)]
      simp only [Option.bind_some, m1_no.2, ↓reduceIte]
/-- the number of at most two figures that the letters say -/
def num2 (c : Nat → Nat) (i k : Nat) : Nat := if k = 0 then 0 else if k = 1 then c i - 48 else 10 * (c i - 48) + (c (i + 1) - 48)
theorem en_m {N : Nat} (hN : 8000 ≤ N) {A : Nat → Nat → Int32} {B : Nat → Int32} {n : Nat} {c : Nat → Nat} (h : TM A B n c) {i e : Nat} (hB : B 2 = nI i) (hB4 : B 4 = nI i) (hB5 : B 5 = 0) (h1 : i ≤ e) (h2 : e ≤ n) (h3 : ∀ j, i ≤ j → j < e → dgtB (c j) = true) (h4 : e < n → ¬ dgtB (c e) = true) : jw (X8_advances_s129) N (A, B) = some (A, va_up (va_up B 2 (nI e)) 5 (nI (num2 c i (e - i)))) := by
  have hn := h.1
  refine jw_F (fun j => (A, va_up (va_up B 2 (nI (i + j))) 5 (nI (num2 c i j)))) (e - i) (by omega) ?_ ?_ ?_
  · rw [Nat.add_zero, ← hB, va_id, show nI (num2 c i 0) = B 5 from hB5.symm, va_id]
  · intro j hj
    have h' : TM A (va_up (va_up B 2 (nI (i + j))) 5 (nI (num2 c i j))) n c := h
    have hc := h.2.2 (i + j) (by omega)
    have hd := of_decide_eq_true (h3 (i + j) (by omega) (by omega))
    unfold X8_advances_s129
    dsimp only
    simp only [show va_up (va_up B 2 (nI (i + j))) 5 (nI (num2 c i j)) 2 = nI (i + j) from rfl, show va_up (va_up B 2 (nI (i + j))) 5 (nI (num2 c i j)) 4 = nI i from hB4, show va_up (va_up B 2 (nI (i + j))) 5 (nI (num2 c i j)) 5 = nI (num2 c i j) from rfl, let_m h' (show i + j < n by omega), Option.bind_some, isd_m _ hc.1, if_pos (h3 (i + j) (by omega) (by omega)), oz, ↓reduceIte, ea1, pk_sub (show i ≤ i + j by omega), show i + j - i = j by omega]
    have hv : (if (2 : Int32) ≤ nI j then some (nI (num2 c i j)) else some ((((10 : Int32) * nI (num2 c i j)) + nI (c (i + j))) - (48 : Int32))) = some (nI (num2 c i (j + 1))) := by
      rcases (show j = 0 ∨ j = 1 ∨ 2 ≤ j by omega) with rfl | rfl | hj2
      · rw [if_neg (by decide), show (10 : Int32) * nI (num2 c i 0) = nI (10 * num2 c i 0) from pk_mul 10 _, nI_add, show nI (10 * num2 c i 0 + c (i + 0)) - 48 = nI (10 * num2 c i 0 + c (i + 0) - 48) from pk_sub (b := 48) (by omega)]
        congr 2
        show 10 * 0 + c (i + 0) - 48 = c i - 48
        rw [Nat.add_zero]
        omega
      · have hd0 := of_decide_eq_true (h3 i (by omega) (by omega))
        rw [if_neg (by decide), show (10 : Int32) * nI (num2 c i 1) = nI (10 * num2 c i 1) from pk_mul 10 _, nI_add, show nI (10 * num2 c i 1 + c (i + 1)) - 48 = nI (10 * num2 c i 1 + c (i + 1) - 48) from pk_sub (b := 48) (by omega)]
        congr 2
        show 10 * (c i - 48) + c (i + 1) - 48 = 10 * (c i - 48) + (c (i + 1) - 48)
        omega
      · rw [if_pos (show (2 : Int32) ≤ nI j from nI_le (a := 2) hj2 (by omega))]
        unfold num2
        rw [if_neg (by omega), if_neg (by omega), if_neg (by omega), if_neg (by omega)]
    rw [hv]
    simp only [Option.bind_some]
    congr 3
    funext k
    unfold va_up
    by_cases k5 : k = 5
    · simp only [if_pos k5]
    · by_cases k2 : k = 2
      · simp only [if_neg k5, if_pos k2]; rfl
      · simp only [if_neg k5, if_neg k2]
  · rw [show i + (e - i) = e by omega]
    have h' : TM A (va_up (va_up B 2 (nI e)) 5 (nI (num2 c i (e - i)))) n c := h
    unfold X8_advances_s129
    dsimp only
    by_cases he : e < n
    · have hc := h.2.2 e he
      simp only [show va_up (va_up B 2 (nI e)) 5 (nI (num2 c i (e - i))) 2 = nI e from rfl, let_m h' he, Option.bind_some, isd_m _ hc.1, if_neg (h4 he), ↓reduceIte]
    · simp only [show va_up (va_up B 2 (nI e)) 5 (nI (num2 c i (e - i))) 2 = nI e from rfl, let_mn h' (show n ≤ e by omega) (show e < 2 ^ 31 by omega), Option.bind_some, m1_no.1, ↓reduceIte]

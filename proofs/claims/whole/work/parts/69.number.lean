theorem fa_m {A : Nat → Nat → Int32} {B : Nat → Int32} (h8 : B 8 = -1) : f_X8_fails (A, B) = some (A, va_up B 8 (B 4)) := by
  unfold f_X8_fails
  simp only [h8, ↓reduceIte, Option.bind_some]
theorem nu_y {N : Nat} {A : Nat → Nat → Int32} {B : Nat → Int32} {m : Int32} (h3 : B 3 = 2) (h6 : ¬ 2 < B 6) (h5 : B 5 ≤ m) (h8 : B 8 = -1) : f_X8_number N m (A, B) = (f_X8_advances N (A, B)).bind (fun z => some (B 5, z)) := by
  unfold f_X8_number
  simp only [h3, if_neg h6, if_pos h5, h8, ↓reduceIte, Option.bind_some]
theorem nu_n {N : Nat} {A : Nat → Nat → Int32} {B : Nat → Int32} {m : Int32} (hb : ¬ B 3 = 2 ∨ 2 < B 6 ∨ ¬ B 5 ≤ m) (h8 : B 8 = -1) (h4 : ¬ B 4 = -1) : f_X8_number N m (A, B) = some (0, (A, va_up B 8 (B 4))) := by
  have e8 : va_up B 8 (B 4) 8 = B 4 := rfl
  unfold f_X8_number
  by_cases h3 : B 3 = 2
  · by_cases h6 : 2 < B 6
    · simp only [h3, if_pos h6, fa_m h8, ↓reduceIte, Option.bind_some, e8, if_neg h4]
    · have h5 : ¬ B 5 ≤ m := by
        rcases hb with q | q | q
        · exact absurd h3 q
        · exact absurd q h6
        · exact q
      simp only [h3, if_neg h6, if_neg h5, fa_m h8, ↓reduceIte, Option.bind_some, e8, if_neg h4]
  · simp only [if_neg h3, fa_m h8, ↓reduceIte, Option.bind_some, e8, if_neg h4]

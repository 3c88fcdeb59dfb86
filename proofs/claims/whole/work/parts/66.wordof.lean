theorem wof_m {N : Nat} (hN : 8000 ≤ N) {A : Nat → Nat → Int32} {B : Nat → Int32} {n : Nat} {c : Nat → Nat} (h : TM A B n c) {s e : Nat} (h2 : B 2 = nI e) (h4 : B 4 = nI s) (hse : s ≤ e) (hen : e ≤ n) : ∃ w, f_X8_wordOf N (A, B) = some (nI w) ∧ ((w < 9 ∧ isW c s e w) ∨ (w = 9 ∧ ∀ i, i < 9 → ¬ isW c s e i)) := by
  have y : ∀ i, i < 9 → isW c s e i → f_X8_isWord N (kW i) (nI (wl i)) (A, B) = some 1 := fun i hi => (iw_m hN h hi h2 h4 hse hen).1
  have z : ∀ i, i < 9 → ¬ isW c s e i → f_X8_isWord N (kW i) (nI (wl i)) (A, B) = some 0 := fun i hi => (iw_m hN h hi h2 h4 hse hen).2
  unfold f_X8_wordOf
  by_cases g0 : isW c s e 0
  · refine ⟨0, ?_, Or.inl ⟨by decide, g0⟩⟩
    simp only [show f_X8_isWord N (482854660462 : Int64) (5 : Int32) (A, B) = some 1 from y 0 (by decide) g0, Option.bind_some, oz, ↓reduceIte]
    rfl
  simp only [show f_X8_isWord N (482854660462 : Int64) (5 : Int32) (A, B) = some 0 from z 0 (by decide) g0, Option.bind_some, ↓reduceIte]
  by_cases g1 : isW c s e 1
  · refine ⟨1, ?_, Or.inl ⟨by decide, g1⟩⟩
    simp only [show f_X8_isWord N (1684365670 : Int64) (4 : Int32) (A, B) = some 1 from y 1 (by decide) g1, Option.bind_some, oz, ↓reduceIte]
    rfl
  simp only [show f_X8_isWord N (1684365670 : Int64) (4 : Int32) (A, B) = some 0 from z 1 (by decide) g1, Option.bind_some, ↓reduceIte]
  by_cases g2 : isW c s e 2
  · refine ⟨2, ?_, Or.inl ⟨by decide, g2⟩⟩
    simp only [show f_X8_isWord N (109330395394660 : Int64) (6 : Int32) (A, B) = some 1 from y 2 (by decide) g2, Option.bind_some, oz, ↓reduceIte]
    rfl
  simp only [show f_X8_isWord N (109330395394660 : Int64) (6 : Int32) (A, B) = some 0 from z 2 (by decide) g2, Option.bind_some, ↓reduceIte]
  by_cases g3 : isW c s e 3
  · refine ⟨3, ?_, Or.inl ⟨by decide, g3⟩⟩
    simp only [show f_X8_isWord N (422825784933 : Int64) (5 : Int32) (A, B) = some 1 from y 3 (by decide) g3, Option.bind_some, oz, ↓reduceIte]
    rfl
  simp only [show f_X8_isWord N (422825784933 : Int64) (5 : Int32) (A, B) = some 0 from z 3 (by decide) g3, Option.bind_some, ↓reduceIte]
  by_cases g4 : isW c s e 4
  · refine ⟨4, ?_, Or.inl ⟨by decide, g4⟩⟩
    simp only [show f_X8_isWord N (1937007984 : Int64) (4 : Int32) (A, B) = some 1 from y 4 (by decide) g4, Option.bind_some, oz, ↓reduceIte]
    rfl
  simp only [show f_X8_isWord N (1937007984 : Int64) (4 : Int32) (A, B) = some 0 from z 4 (by decide) g4, Option.bind_some, ↓reduceIte]
  by_cases g5 : isW c s e 5
  · refine ⟨5, ?_, Or.inl ⟨by decide, g5⟩⟩
    simp only [show f_X8_isWord N (7496052 : Int64) (3 : Int32) (A, B) = some 1 from y 5 (by decide) g5, Option.bind_some, oz, ↓reduceIte]
    rfl
  simp only [show f_X8_isWord N (7496052 : Int64) (3 : Int32) (A, B) = some 0 from z 5 (by decide) g5, Option.bind_some, ↓reduceIte]
  by_cases g6 : isW c s e 6
  · refine ⟨6, ?_, Or.inl ⟨by decide, g6⟩⟩
    simp only [show f_X8_isWord N (1734437230 : Int64) (4 : Int32) (A, B) = some 1 from y 6 (by decide) g6, Option.bind_some, oz, ↓reduceIte]
    rfl
  simp only [show f_X8_isWord N (1734437230 : Int64) (4 : Int32) (A, B) = some 0 from z 6 (by decide) g6, Option.bind_some, ↓reduceIte]
  by_cases g7 : isW c s e 7
  · refine ⟨7, ?_, Or.inl ⟨by decide, g7⟩⟩
    simp only [show f_X8_isWord N (448546567013 : Int64) (5 : Int32) (A, B) = some 1 from y 7 (by decide) g7, Option.bind_some, oz, ↓reduceIte]
    rfl
  simp only [show f_X8_isWord N (448546567013 : Int64) (5 : Int32) (A, B) = some 0 from z 7 (by decide) g7, Option.bind_some, ↓reduceIte]
  by_cases g8 : isW c s e 8
  · refine ⟨8, ?_, Or.inl ⟨by decide, g8⟩⟩
    simp only [show f_X8_isWord N (487301145972 : Int64) (5 : Int32) (A, B) = some 1 from y 8 (by decide) g8, Option.bind_some, oz, ↓reduceIte]
    rfl
  simp only [show f_X8_isWord N (487301145972 : Int64) (5 : Int32) (A, B) = some 0 from z 8 (by decide) g8, Option.bind_some, ↓reduceIte]
  refine ⟨9, rfl, Or.inr ⟨rfl, fun i hi => ?_⟩⟩
  rcases (show i = 0 ∨ i = 1 ∨ i = 2 ∨ i = 3 ∨ i = 4 ∨ i = 5 ∨ i = 6 ∨ i = 7 ∨ i = 8 by omega) with rfl | rfl | rfl | rfl | rfl | rfl | rfl | rfl | rfl
  · exact g0
  · exact g1
  · exact g2
  · exact g3
  · exact g4
  · exact g5
  · exact g6
  · exact g7
  · exact g8
theorem w_one : ∀ i, i < 9 → ∀ j, j < 9 → wch i 0 = wch j 0 → i = j := by decide +kernel
theorem wl_pos : ∀ i, i < 9 → 0 < wl i := by decide
theorem isW_one {c : Nat → Nat} {s e i j : Nat} (hi : i < 9) (hj : j < 9) (h1 : isW c s e i) (h2 : isW c s e j) : i = j := w_one i hi j hj ((h1.2 0 (wl_pos i hi)).symm.trans (h2.2 0 (wl_pos j hj)))

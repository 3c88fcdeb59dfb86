theorem whe_c {N : Nat} (hN : 8000 ≤ N) {x : Mo} {n : Nat} {c : Nat → Nat} (h : TX x n c) {s e : Nat} (h2 : x.2 2 = nI s) (h3 : x.2 3 = nI e) (hse : s ≤ e) (hen : e ≤ n) : (∀ w, w < 9 → isW c s e w → f_X5_wordHere N x = some (nI w)) ∧ ((∀ i, i < 9 → ¬ isW c s e i) → f_X5_wordHere N x = some (-1)) := by
  have hn := h.1
  have y : ∀ i, i < 9 → isW c s e i → f_X5_isHere N i x = some 1 := fun i hi => (ih_c hN h hi h2 h3 hse hen).1
  have z : ∀ i, i < 9 → ¬ isW c s e i → f_X5_isHere N i x = some 0 := fun i hi => (ih_c hN h hi h2 h3 hse hen).2
  constructor
  · intro w hw g
    have hp := wl_pos w hw
    have hl := g.1
    have hc : c s = wch w 0 := g.2 0 hp
    have hlt : f_X5_letterAt (nI s) x = some (nI (wch w 0)) := by rw [let_c h (by omega), hc]
    have yw := y w hw g
    clear y z hc hl hp g
    unfold f_X5_wordHere
    rw [h2, hlt]
    simp only [Option.bind_some]
    rcases (show w = 0 ∨ w = 1 ∨ w = 2 ∨ w = 3 ∨ w = 4 ∨ w = 5 ∨ w = 6 ∨ w = 7 ∨ w = 8 by omega) with rfl | rfl | rfl | rfl | rfl | rfl | rfl | rfl | rfl
    · simp only [show nI (wch 0 0) = (112 : Int32) by decide +kernel, yw, Option.bind_some, oz, ↓reduceIte, show ((112 : Int32) = 98) = False by decide, show ((112 : Int32) = 99) = False by decide, show ((112 : Int32) = 100) = False by decide, show ((112 : Int32) = 101) = False by decide, show ((112 : Int32) = 102) = False by decide, show ((112 : Int32) = 103) = False by decide, show ((112 : Int32) = 104) = False by decide, show ((112 : Int32) = 105) = False by decide, show ((112 : Int32) = 106) = False by decide, show ((112 : Int32) = 107) = False by decide, show ((112 : Int32) = 108) = False by decide, show ((112 : Int32) = 109) = False by decide, show ((112 : Int32) = 110) = False by decide, show ((112 : Int32) = 111) = False by decide]
      rfl
    · simp only [show nI (wch 1 0) = (100 : Int32) by decide +kernel, yw, Option.bind_some, oz, ↓reduceIte, show ((100 : Int32) = 98) = False by decide, show ((100 : Int32) = 99) = False by decide]
      rfl
    · simp only [show nI (wch 2 0) = (99 : Int32) by decide +kernel, yw, Option.bind_some, oz, ↓reduceIte, show ((99 : Int32) = 98) = False by decide]
      rfl
    · simp only [show nI (wch 3 0) = (98 : Int32) by decide +kernel, yw, Option.bind_some, oz, ↓reduceIte]
      rfl
    · simp only [show nI (wch 4 0) = (115 : Int32) by decide +kernel, yw, Option.bind_some, oz, ↓reduceIte, show ((115 : Int32) = 98) = False by decide, show ((115 : Int32) = 99) = False by decide, show ((115 : Int32) = 100) = False by decide, show ((115 : Int32) = 101) = False by decide, show ((115 : Int32) = 102) = False by decide, show ((115 : Int32) = 103) = False by decide, show ((115 : Int32) = 104) = False by decide, show ((115 : Int32) = 105) = False by decide, show ((115 : Int32) = 106) = False by decide, show ((115 : Int32) = 107) = False by decide, show ((115 : Int32) = 108) = False by decide, show ((115 : Int32) = 109) = False by decide, show ((115 : Int32) = 110) = False by decide, show ((115 : Int32) = 111) = False by decide, show ((115 : Int32) = 112) = False by decide, show ((115 : Int32) = 113) = False by decide, show ((115 : Int32) = 114) = False by decide]
      rfl
    · simp only [show nI (wch 5 0) = (114 : Int32) by decide +kernel, yw, Option.bind_some, oz, ↓reduceIte, show ((114 : Int32) = 98) = False by decide, show ((114 : Int32) = 99) = False by decide, show ((114 : Int32) = 100) = False by decide, show ((114 : Int32) = 101) = False by decide, show ((114 : Int32) = 102) = False by decide, show ((114 : Int32) = 103) = False by decide, show ((114 : Int32) = 104) = False by decide, show ((114 : Int32) = 105) = False by decide, show ((114 : Int32) = 106) = False by decide, show ((114 : Int32) = 107) = False by decide, show ((114 : Int32) = 108) = False by decide, show ((114 : Int32) = 109) = False by decide, show ((114 : Int32) = 110) = False by decide, show ((114 : Int32) = 111) = False by decide, show ((114 : Int32) = 112) = False by decide, show ((114 : Int32) = 113) = False by decide]
      rfl
    · simp only [show nI (wch 6 0) = (103 : Int32) by decide +kernel, yw, Option.bind_some, oz, ↓reduceIte, show ((103 : Int32) = 98) = False by decide, show ((103 : Int32) = 99) = False by decide, show ((103 : Int32) = 100) = False by decide, show ((103 : Int32) = 101) = False by decide, show ((103 : Int32) = 102) = False by decide]
      rfl
    · simp only [show nI (wch 7 0) = (104 : Int32) by decide +kernel, yw, Option.bind_some, oz, ↓reduceIte, show ((104 : Int32) = 98) = False by decide, show ((104 : Int32) = 99) = False by decide, show ((104 : Int32) = 100) = False by decide, show ((104 : Int32) = 101) = False by decide, show ((104 : Int32) = 102) = False by decide, show ((104 : Int32) = 103) = False by decide]
      rfl
    · simp only [show nI (wch 8 0) = (113 : Int32) by decide +kernel, yw, Option.bind_some, oz, ↓reduceIte, show ((113 : Int32) = 98) = False by decide, show ((113 : Int32) = 99) = False by decide, show ((113 : Int32) = 100) = False by decide, show ((113 : Int32) = 101) = False by decide, show ((113 : Int32) = 102) = False by decide, show ((113 : Int32) = 103) = False by decide, show ((113 : Int32) = 104) = False by decide, show ((113 : Int32) = 105) = False by decide, show ((113 : Int32) = 106) = False by decide, show ((113 : Int32) = 107) = False by decide, show ((113 : Int32) = 108) = False by decide, show ((113 : Int32) = 109) = False by decide, show ((113 : Int32) = 110) = False by decide, show ((113 : Int32) = 111) = False by decide, show ((113 : Int32) = 112) = False by decide]
      rfl
  · intro g
    have hx : ∃ v, f_X5_letterAt (nI s) x = some v := by
      rcases Nat.lt_or_ge s n with d | d
      · exact ⟨_, let_c h d⟩
      · exact ⟨_, let_n h d (by omega)⟩
    obtain ⟨v, hv⟩ := hx
    unfold f_X5_wordHere
    rw [h2, hv]
    simp only [Option.bind_some, z 0 (by decide) (g 0 (by decide)), z 1 (by decide) (g 1 (by decide)), z 2 (by decide) (g 2 (by decide)), z 3 (by decide) (g 3 (by decide)), z 4 (by decide) (g 4 (by decide)), z 5 (by decide) (g 5 (by decide)), z 6 (by decide) (g 6 (by decide)), z 7 (by decide) (g 7 (by decide)), z 8 (by decide) (g 8 (by decide)), ↓reduceIte, ite_self]

/-- a token: blanks from i to s, the token from s to e; kind 0 the end, 1 a word, 2 a number, 3 a semicolon, 4 another letter -/
def TK (n : Nat) (c : Nat → Nat) (i s e k : Nat) : Prop := i ≤ s ∧ s ≤ n ∧ (∀ j, i ≤ j → j < s → blkB (c j) = true) ∧ (s < n → ¬ blkB (c s) = true) ∧ ((k = 0 ∧ s = n ∧ e = n) ∨ (k = 1 ∧ s < n ∧ smlB (c s) = true ∧ s ≤ e ∧ e ≤ n ∧ (∀ j, s ≤ j → j < e → smlB (c j) = true) ∧ (e < n → ¬ smlB (c e) = true)) ∨ (k = 2 ∧ s < n ∧ ¬ smlB (c s) = true ∧ dgtB (c s) = true ∧ s ≤ e ∧ e ≤ n ∧ (∀ j, s ≤ j → j < e → dgtB (c j) = true) ∧ (e < n → ¬ dgtB (c e) = true)) ∨ (k = 3 ∧ s < n ∧ ¬ smlB (c s) = true ∧ ¬ dgtB (c s) = true ∧ c s = 59 ∧ e = s + 1) ∨ (k = 4 ∧ s < n ∧ ¬ smlB (c s) = true ∧ ¬ dgtB (c s) = true ∧ c s ≠ 59 ∧ e = s + 1))
theorem tk_ex {n : Nat} (c : Nat → Nat) {i : Nat} (hi : i ≤ n) : ∃ s e k, TK n c i s e k := by
  obtain ⟨s, h1, h2, h3, h4⟩ := runs (fun j => blkB (c j)) hi
  rcases Nat.lt_or_ge s n with hs | hs
  · by_cases hm : smlB (c s) = true
    · obtain ⟨e, g1, g2, g3, g4⟩ := runs (fun j => smlB (c j)) h2
      exact ⟨s, e, 1, h1, h2, h3, h4, Or.inr (Or.inl ⟨rfl, hs, hm, g1, g2, g3, g4⟩)⟩
    · by_cases hd : dgtB (c s) = true
      · obtain ⟨e, g1, g2, g3, g4⟩ := runs (fun j => dgtB (c j)) h2
        exact ⟨s, e, 2, h1, h2, h3, h4, Or.inr (Or.inr (Or.inl ⟨rfl, hs, hm, hd, g1, g2, g3, g4⟩))⟩
      · by_cases h59 : c s = 59
        · exact ⟨s, s + 1, 3, h1, h2, h3, h4, Or.inr (Or.inr (Or.inr (Or.inl ⟨rfl, hs, hm, hd, h59, rfl⟩)))⟩
        · exact ⟨s, s + 1, 4, h1, h2, h3, h4, Or.inr (Or.inr (Or.inr (Or.inr ⟨rfl, hs, hm, hd, h59, rfl⟩)))⟩
  · exact ⟨s, n, 0, h1, h2, h3, h4, Or.inl ⟨rfl, by omega, rfl⟩⟩
theorem tk_e {n : Nat} {c : Nat → Nat} {i s e k : Nat} (h : TK n c i s e k) : s ≤ e ∧ e ≤ n := by
  obtain ⟨h1, h2, -, -, h5⟩ := h
  rcases h5 with ⟨-, a, b⟩ | ⟨-, -, -, a, b, -⟩ | ⟨-, -, -, -, a, b, -⟩ | ⟨-, a, -, -, -, b⟩ | ⟨-, a, -, -, -, b⟩ <;> omega
theorem m1_c : f_X5_isSmall (-1) = some 0 ∧ f_X5_isDigit (-1) = some 0 := by decide
theorem nt_c {N : Nat} (hN : 8000 ≤ N) {x : Mo} {n : Nat} {c : Nat → Nat} (h : TX x n c) {i s e k : Nat} (h3 : x.2 3 = nI i) (hk : TK n c i s e k) : f_X5_nextToken N x = some (x.1, va_up (va_up x.2 2 (nI s)) 3 (nI e)) := by
  have hn := h.1
  obtain ⟨b1, b2, b3, b4, b5⟩ := hk
  have h' : TX (x.1, va_up x.2 2 (nI s)) n c := h
  have other : s < n → (if nI s + (1 : Int32) < nI n then nI s + (1 : Int32) else nI n) = nI (s + 1) := fun hs => by
    rw [ea1]
    by_cases c2 : s + 1 < n
    · rw [if_pos (nI_lt c2 (by omega))]
    · rw [if_neg (nI_nlt (by omega) (by omega)), show n = s + 1 by omega]
  unfold f_X5_nextToken
  rw [h3, eb_c hN h b1 b2 b3 b4, h.2.1]
  simp only [Option.bind_some]
  rcases b5 with ⟨-, a, b⟩ | ⟨-, a, b, d1, d2, d3, d4⟩ | ⟨-, a, b, b', d1, d2, d3, d4⟩ | ⟨-, a, b, b', -, d⟩ | ⟨-, a, b, b', -, d⟩
  · subst a b
    rw [let_n h' (Nat.le_refl _) (by omega)]
    simp only [Option.bind_some, m1_c.1, m1_c.2, ↓reduceIte]
    rw [ea1, if_neg (nI_nlt (by omega) (by omega))]
  · rw [let_c h' a]
    simp only [Option.bind_some, iss_c _ (h.2.2 s a).1, if_pos b, oz, ↓reduceIte, ew_c hN h' d1 d2 d3 d4]
  · rw [let_c h' a]
    simp only [Option.bind_some, iss_c _ (h.2.2 s a).1, isd_c _ (h.2.2 s a).1, if_neg b, if_pos b', oz, ↓reduceIte, en_c hN h' d1 d2 d3 d4]
  · rw [let_c h' a, d]
    simp only [Option.bind_some, iss_c _ (h.2.2 s a).1, isd_c _ (h.2.2 s a).1, if_neg b, if_neg b', ↓reduceIte, other a]
  · rw [let_c h' a, d]
    simp only [Option.bind_some, iss_c _ (h.2.2 s a).1, isd_c _ (h.2.2 s a).1, if_neg b, if_neg b', ↓reduceIte, other a]

theorem sml_dgt {c : Nat} (h : smlB c = true) : ¬ dgtB c = true := fun d => by
  have h1 := of_decide_eq_true h
  have h2 := of_decide_eq_true d
  omega
theorem nh_c {N : Nat} (hN : 8000 ≤ N) {x : Mo} {n : Nat} {c : Nat → Nat} (h : TX x n c) {i s e k : Nat} (h2 : x.2 2 = nI s) (h3 : x.2 3 = nI e) (hk : TK n c i s e k) : (k = 2 → e - s ≤ 2 → f_X5_numberHere N x = some (nI (num2 c s (e - s)))) ∧ (k = 2 → 2 < e - s → f_X5_numberHere N x = some (-1)) ∧ (k ≠ 2 → f_X5_numberHere N x = some (-1)) := by
  have hn := h.1
  obtain ⟨b1, b2, b3, b4, b5⟩ := hk
  have no : s < n → ¬ dgtB (c s) = true → f_X5_numberHere N x = some (-1) := fun a d => by
    unfold f_X5_numberHere
    rw [h2, let_c h a]
    simp only [Option.bind_some, isd_c _ (h.2.2 s a).1, if_neg d, ↓reduceIte]
  rcases b5 with ⟨rfl, a, b⟩ | ⟨rfl, a, b, -⟩ | ⟨rfl, a, b, b', d1, d2, d3, d4⟩ | ⟨rfl, a, b, b', -⟩ | ⟨rfl, a, b, b', -⟩
  · refine ⟨fun c => absurd c (by decide), fun c => absurd c (by decide), fun _ => ?_⟩
    unfold f_X5_numberHere
    rw [h2, let_n h (by omega) (by omega)]
    simp only [Option.bind_some, m1_c.2, ↓reduceIte]
  · exact ⟨fun c => absurd c (by decide), fun c => absurd c (by decide), fun _ => no a (sml_dgt b)⟩
  · refine ⟨fun _ hle => ?_, fun _ hgt => ?_, fun c => absurd rfl c⟩
    · unfold f_X5_numberHere
      rw [h2, let_c h a, h3, pk_sub d1]
      simp only [Option.bind_some, isd_c _ (h.2.2 s a).1, if_pos b', oz, ↓reduceIte, if_pos (show nI (e - s) ≤ (2 : Int32) from nI_le (b := 2) hle (by omega))]
      rw [jw_F (s := ((0 : Int32), nI s)) (n := N) (fun j => (nI (num2 c s j), nI (s + j))) (e - s) (r := nI (num2 c s (e - s))) (by omega) rfl]
      · rfl
      · intro j hj
        have hd := of_decide_eq_true (d3 (s + j) (by omega) (by omega))
        unfold X5_numberHere_s36
        dsimp only
        rw [h3, if_neg (nI_ge (show s + j < e by omega) (by omega)), let_c h (by omega)]
        simp only [Option.bind_some, ea1]
        rw [show (10 : Int32) * nI (num2 c s j) = nI (10 * num2 c s j) from pk_mul 10 _, nI_add, show nI (10 * num2 c s j + c (s + j)) - 48 = nI (10 * num2 c s j + c (s + j) - 48) from pk_sub (b := 48) (by omega)]
        congr 4
        rcases (show j = 0 ∨ j = 1 by omega) with rfl | rfl
        · show 10 * 0 + c (s + 0) - 48 = c s - 48
          rw [Nat.add_zero]
          omega
        · show 10 * (c s - 48) + c (s + 1) - 48 = 10 * (c s - 48) + (c (s + 1) - 48)
          omega
      · rw [show s + (e - s) = e by omega]
        unfold X5_numberHere_s36
        dsimp only
        rw [h3, if_pos (nI_le (Nat.le_refl _) (by omega))]
    · unfold f_X5_numberHere
      rw [h2, let_c h a, h3, pk_sub d1]
      simp only [Option.bind_some, isd_c _ (h.2.2 s a).1, if_pos b', oz, ↓reduceIte, if_neg (show ¬ nI (e - s) ≤ (2 : Int32) from nI_ge (a := 2) hgt (by omega))]
  · exact ⟨fun c => absurd c (by decide), fun c => absurd c (by decide), fun _ => no a b'⟩
  · exact ⟨fun c => absurd c (by decide), fun c => absurd c (by decide), fun _ => no a b'⟩

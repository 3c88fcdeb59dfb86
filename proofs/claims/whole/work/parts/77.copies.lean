/-! PURE: the drafts, and back. -/
theorem cpl {step : (Int32 × Mo) → Option ((Int32 × Mo) ⊕ Mo)} {N : Nat} (hN : 8000 ≤ N) (q len o p : Nat) (M : Mo) (hlen : len ≤ 30) (hs : ∀ j, j < len → ∀ M' : Mo, step (nI j, M') = some (.inl (nI (j + 1), (va_up M'.1 q (upd (M'.1 q) (o + j) (M'.1 q (p + j))), M'.2)))) (he : ∀ M' : Mo, step (nI len, M') = some (.inr M')) (hd : o + len ≤ p ∨ p + len ≤ o) : jw step N ((0 : Int32), M) = some (va_up M.1 q (fillG (M.1 q) o (fun j => M.1 q (p + j)) len), M.2) := by
  refine jw_F (fun j => (nI j, (va_up M.1 q (fillG (M.1 q) o (fun j => M.1 q (p + j)) j), M.2))) len (by omega) ?_ ?_ (he _)
  · show _ = (nI 0, (va_up M.1 q (M.1 q), M.2))
    rw [va_id]
    rfl
  · intro j hj
    rw [hs j hj]
    dsimp only
    rw [va_up_self, bx_uu, fill_out _ _ _ _ _ (by omega)]
    rfl
theorem dr_1 : ∀ j, j < 24 → ∀ M' : Mo, X8_drafts_s2 (nI j, M') = some (.inl (nI (j + 1), (va_up M'.1 1 (upd (M'.1 1) (24 + j) (M'.1 1 (0 + j))), M'.2))) := by
  intro j hj M'
  unfold X8_drafts_s2
  dsimp only
  rw [if_neg (lt_lit (k := 24) 24 rfl hj (by omega)), if_neg (njo (show j < 48 by omega) (by omega)), show (24 : Int32) + nI j = nI (24 + j) from nI_add 24 j, if_neg (njo (show 24 + j < 48 by omega) (by omega)), nI_clamp (show 24 + j < 2 ^ 31 by omega), nI_clamp (show j < 2 ^ 31 by omega), ea1, Nat.zero_add]
theorem dr_2 : ∀ j, j < 5 → ∀ M' : Mo, X8_drafts_s31 (nI j, M') = some (.inl (nI (j + 1), (va_up M'.1 2 (upd (M'.1 2) (5 + j) (M'.1 2 (0 + j))), M'.2))) := by
  intro j hj M'
  unfold X8_drafts_s31
  dsimp only
  rw [if_neg (lt_lit (k := 5) 5 rfl hj (by omega)), if_neg (njo (show j < 10 by omega) (by omega)), show (5 : Int32) + nI j = nI (5 + j) from nI_add 5 j, if_neg (njo (show 5 + j < 10 by omega) (by omega)), nI_clamp (show 5 + j < 2 ^ 31 by omega), nI_clamp (show j < 2 ^ 31 by omega), ea1, Nat.zero_add]
theorem dr_3 : ∀ j, j < 12 → ∀ M' : Mo, X8_drafts_s58 (nI j, M') = some (.inl (nI (j + 1), (va_up M'.1 3 (upd (M'.1 3) (12 + j) (M'.1 3 (0 + j))), M'.2))) := by
  intro j hj M'
  unfold X8_drafts_s58
  dsimp only
  rw [if_neg (lt_lit (k := 12) 12 rfl hj (by omega)), if_neg (njo (show j < 24 by omega) (by omega)), show (12 : Int32) + nI j = nI (12 + j) from nI_add 12 j, if_neg (njo (show 12 + j < 24 by omega) (by omega)), nI_clamp (show 12 + j < 2 ^ 31 by omega), nI_clamp (show j < 2 ^ 31 by omega), ea1, Nat.zero_add]
theorem dr_4 : ∀ j, j < 4 → ∀ M' : Mo, X8_drafts_s87 (nI j, M') = some (.inl (nI (j + 1), (va_up M'.1 4 (upd (M'.1 4) (4 + j) (M'.1 4 (0 + j))), M'.2))) := by
  intro j hj M'
  unfold X8_drafts_s87
  dsimp only
  rw [if_neg (lt_lit (k := 4) 4 rfl hj (by omega)), if_neg (njo (show j < 8 by omega) (by omega)), show (4 : Int32) + nI j = nI (4 + j) from nI_add 4 j, if_neg (njo (show 4 + j < 8 by omega) (by omega)), nI_clamp (show 4 + j < 2 ^ 31 by omega), nI_clamp (show j < 2 ^ 31 by omega), ea1, Nat.zero_add]
theorem drf_m {N : Nat} (hN : 8000 ≤ N) (M : Mo) : ∃ A1 : Nat → Nat → Int32, f_X8_drafts N M = some (A1, M.2) ∧ FM A1 M.1 ∧ (∀ j, j < 24 → A1 1 (24 + j) = M.1 1 j) ∧ (∀ j, j < 5 → A1 2 (5 + j) = M.1 2 j) ∧ (∀ j, j < 12 → A1 3 (12 + j) = M.1 3 j) ∧ (∀ j, j < 4 → A1 4 (4 + j) = M.1 4 j) := by
  have i1 : ∀ (g : Nat → Int32) (o len j : Nat), j < len → fillG g o (fun j => g (0 + j)) len (o + j) = g j := fun g o len j hj => by
    rw [fill_in g o _ len j hj, Nat.zero_add]
  refine ⟨va_up (va_up (va_up (va_up M.1 1 (fillG (M.1 1) 24 (fun j => M.1 1 (0 + j)) 24)) 2 (fillG (M.1 2) 5 (fun j => M.1 2 (0 + j)) 5)) 3 (fillG (M.1 3) 12 (fun j => M.1 3 (0 + j)) 12)) 4 (fillG (M.1 4) 4 (fun j => M.1 4 (0 + j)) 4), ?_, ⟨fun j hj => fill_out (M.1 1) _ _ _ _ (by omega), fun j hj => fill_out (M.1 2) _ _ _ _ (by omega), fun j hj => fill_out (M.1 3) _ _ _ _ (by omega), fun j hj => fill_out (M.1 4) _ _ _ _ (by omega), fun q h1 h2 h3 h4 => (va_up_ne _ _ h4).trans ((va_up_ne _ _ h3).trans ((va_up_ne _ _ h2).trans (va_up_ne _ _ h1)))⟩, fun j hj => i1 (M.1 1) 24 24 j hj, fun j hj => i1 (M.1 2) 5 5 j hj, fun j hj => i1 (M.1 3) 12 12 j hj, fun j hj => i1 (M.1 4) 4 4 j hj⟩
  unfold f_X8_drafts
  rw [cpl hN 1 24 24 0 M (by omega) dr_1 (fun _ => rfl) (Or.inr (by omega)), Option.bind_some, cpl hN 2 5 5 0 _ (by omega) dr_2 (fun _ => rfl) (Or.inr (by omega)), Option.bind_some, cpl hN 3 12 12 0 _ (by omega) dr_3 (fun _ => rfl) (Or.inr (by omega)), Option.bind_some, cpl hN 4 4 4 0 _ (by omega) dr_4 (fun _ => rfl) (Or.inr (by omega)), Option.bind_some]
  rfl
theorem bk_1 : ∀ j, j < 24 → ∀ M' : Mo, X8_house_s22 (nI j, M') = some (.inl (nI (j + 1), (va_up M'.1 1 (upd (M'.1 1) (0 + j) (M'.1 1 (24 + j))), M'.2))) := by
  intro j hj M'
  unfold X8_house_s22
  dsimp only
  rw [if_neg (lt_lit (k := 24) 24 rfl hj (by omega)), show (24 : Int32) + nI j = nI (24 + j) from nI_add 24 j, if_neg (njo (show 24 + j < 48 by omega) (by omega)), if_neg (njo (show j < 48 by omega) (by omega)), nI_clamp (show 24 + j < 2 ^ 31 by omega), nI_clamp (show j < 2 ^ 31 by omega), ea1, Nat.zero_add]
theorem bk_2 : ∀ j, j < 5 → ∀ M' : Mo, X8_house_s51 (nI j, M') = some (.inl (nI (j + 1), (va_up M'.1 2 (upd (M'.1 2) (0 + j) (M'.1 2 (5 + j))), M'.2))) := by
  intro j hj M'
  unfold X8_house_s51
  dsimp only
  rw [if_neg (lt_lit (k := 5) 5 rfl hj (by omega)), show (5 : Int32) + nI j = nI (5 + j) from nI_add 5 j, if_neg (njo (show 5 + j < 10 by omega) (by omega)), if_neg (njo (show j < 10 by omega) (by omega)), nI_clamp (show 5 + j < 2 ^ 31 by omega), nI_clamp (show j < 2 ^ 31 by omega), ea1, Nat.zero_add]
theorem bk_3 : ∀ j, j < 12 → ∀ M' : Mo, X8_house_s78 (nI j, M') = some (.inl (nI (j + 1), (va_up M'.1 3 (upd (M'.1 3) (0 + j) (M'.1 3 (12 + j))), M'.2))) := by
  intro j hj M'
  unfold X8_house_s78
  dsimp only
  rw [if_neg (lt_lit (k := 12) 12 rfl hj (by omega)), show (12 : Int32) + nI j = nI (12 + j) from nI_add 12 j, if_neg (njo (show 12 + j < 24 by omega) (by omega)), if_neg (njo (show j < 24 by omega) (by omega)), nI_clamp (show 12 + j < 2 ^ 31 by omega), nI_clamp (show j < 2 ^ 31 by omega), ea1, Nat.zero_add]
theorem bk_4 : ∀ j, j < 4 → ∀ M' : Mo, X8_house_s107 (nI j, M') = some (.inl (nI (j + 1), (va_up M'.1 4 (upd (M'.1 4) (0 + j) (M'.1 4 (4 + j))), M'.2))) := by
  intro j hj M'
  unfold X8_house_s107
  dsimp only
  rw [if_neg (lt_lit (k := 4) 4 rfl hj (by omega)), show (4 : Int32) + nI j = nI (4 + j) from nI_add 4 j, if_neg (njo (show 4 + j < 8 by omega) (by omega)), if_neg (njo (show j < 8 by omega) (by omega)), nI_clamp (show 4 + j < 2 ^ 31 by omega), nI_clamp (show j < 2 ^ 31 by omega), ea1, Nat.zero_add]
theorem bk_5 {N : Nat} (hN : 8000 ≤ N) (M : Mo) : jw X8_house_s134 N ((0 : Int32), M) = some (va_up M.1 5 (fillG (M.1 5) 0 (fun _ => (0 : Int32)) 8), M.2) := by
  refine jw_F (fun j => (nI j, (va_up M.1 5 (fillG (M.1 5) 0 (fun _ => (0 : Int32)) j), M.2))) 8 (by omega) ?_ ?_ rfl
  · show _ = (nI 0, (va_up M.1 5 (M.1 5), M.2))
    rw [va_id]
    rfl
  · intro j hj
    unfold X8_house_s134
    dsimp only
    rw [if_neg (lt_lit (k := 8) 8 rfl hj (by omega)), if_neg (njo hj (by omega)), nI_clamp (by omega), va_up_self, bx_uu, ea1, fillG, Nat.zero_add]
/-- the class's house copied -/
theorem cf_c {N : Nat} (hN : 8000 ≤ N) (h g : Mo) : ∃ h1 : Mo, f_X0_copyFrom N h g = some h1 ∧ (∀ k, k < 4 → h1.2 k = g.2 k) ∧ (∀ j, j < 6 → ∀ k, k < 4 → h1.1 k j = g.1 k j) ∧ (∀ j, j < 5 → h1.1 4 j = g.1 4 j) ∧ ∀ j, j < 4 → ∀ k, k < 3 → h1.1 (5 + k) j = g.1 (5 + k) j := by
  have st : ∀ (f f2 : Nat → Int32) (j i : Nat), i < j + 1 → (∀ i, i < j → f i = f2 i) → upd f j (f2 j) i = f2 i := fun f f2 j i hi hf => by
    rcases Nat.lt_or_ge i j with h1 | h1
    · rw [pk_un (by omega)]
      exact hf i h1
    · obtain rfl : i = j := by omega
      exact pk_us
  obtain ⟨e1, f1, q1⟩ := jw_I (step := X0_copyFrom_s2 g) (fun j (z : Int32 × Mo) => z.1 = nI j ∧ z.2.2 = h.2 ∧ (∀ i, i < j → ∀ k, k < 4 → z.2.1 k i = g.1 k i)) (fun (m : Mo) => m.2 = h.2 ∧ (∀ i, i < 6 → ∀ k, k < 4 → m.1 k i = g.1 k i)) 6 (by
      rintro j ⟨z, m⟩ hj ⟨rfl, h2, h3⟩
      refine ⟨(nI (j + 1), (va_up (va_up (va_up (va_up m.1 0 (upd (m.1 0) j (g.1 0 j))) 1 (upd (m.1 1) j (g.1 1 j))) 2 (upd (m.1 2) j (g.1 2 j))) 3 (upd (m.1 3) j (g.1 3 j)), m.2)), ?_, rfl, h2, fun i hi k hk => ?_⟩
      · unfold X0_copyFrom_s2
        simp only [if_neg (lt_lit (k := 6) 6 rfl hj (by omega)), if_neg (njo hj (by omega)), nI_clamp (show j < 2 ^ 31 by omega), ea1]
      · rcases (show k = 0 ∨ k = 1 ∨ k = 2 ∨ k = 3 by omega) with rfl | rfl | rfl | rfl
        · exact st _ _ _ _ hi (fun i hi => h3 i hi 0 (by omega))
        · exact st _ _ _ _ hi (fun i hi => h3 i hi 1 (by omega))
        · exact st _ _ _ _ hi (fun i hi => h3 i hi 2 (by omega))
        · exact st _ _ _ _ hi (fun i hi => h3 i hi 3 (by omega)))
    (by
      rintro ⟨z, m⟩ ⟨rfl, h2, h3⟩
      exact ⟨m, rfl, h2, h3⟩) 6 0 ((0 : Int32), h) N rfl (by omega) ⟨rfl, rfl, fun i hi => absurd hi (by omega)⟩
  obtain ⟨e2, f2, q2⟩ := jw_I (step := X0_copyFrom_s64 g) (fun j (z : Int32 × Mo) => z.1 = nI j ∧ (∀ i, i < 6 → ∀ k, k < 4 → z.2.1 k i = g.1 k i) ∧ (∀ i, i < j → z.2.1 4 i = g.1 4 i)) (fun (m : Mo) => (∀ i, i < 6 → ∀ k, k < 4 → m.1 k i = g.1 k i) ∧ (∀ i, i < 5 → m.1 4 i = g.1 4 i)) 5 (by
      rintro j ⟨z, m⟩ hj ⟨rfl, h2, h3⟩
      refine ⟨(nI (j + 1), (va_up m.1 4 (upd (m.1 4) j (g.1 4 j)), m.2)), ?_, rfl, fun i hi k hk => ?_, fun i hi => ?_⟩
      · unfold X0_copyFrom_s64
        simp only [if_neg (lt_lit (k := 5) 5 rfl hj (by omega)), if_neg (njo hj (by omega)), nI_clamp (show j < 2 ^ 31 by omega), ea1]
      · show va_up m.1 4 _ k i = _
        rw [va_up_ne _ _ (by omega)]
        exact h2 i hi k hk
      · exact st _ _ _ _ hi h3)
    (by
      rintro ⟨z, m⟩ ⟨rfl, h2, h3⟩
      exact ⟨m, rfl, h2, h3⟩) 5 0 ((0 : Int32), e1) N rfl (by omega) ⟨rfl, q1.2, fun i hi => absurd hi (by omega)⟩
  obtain ⟨e3, f3, q3⟩ := jw_I (step := X0_copyFrom_s89 g) (fun j (z : Int32 × Mo) => z.1 = nI j ∧ (∀ i, i < 6 → ∀ k, k < 4 → z.2.1 k i = g.1 k i) ∧ (∀ i, i < 5 → z.2.1 4 i = g.1 4 i) ∧ (∀ i, i < j → ∀ k, k < 3 → z.2.1 (5 + k) i = g.1 (5 + k) i)) (fun (m : Mo) => (∀ i, i < 6 → ∀ k, k < 4 → m.1 k i = g.1 k i) ∧ (∀ i, i < 5 → m.1 4 i = g.1 4 i) ∧ (∀ i, i < 4 → ∀ k, k < 3 → m.1 (5 + k) i = g.1 (5 + k) i)) 4 (by
      rintro j ⟨z, m⟩ hj ⟨rfl, h2, h3, h4⟩
      refine ⟨(nI (j + 1), (va_up (va_up (va_up m.1 5 (upd (m.1 5) j (g.1 5 j))) 6 (upd (m.1 6) j (g.1 6 j))) 7 (upd (m.1 7) j (g.1 7 j)), m.2)), ?_, rfl, fun i hi k hk => ?_, fun i hi => h3 i hi, fun i hi k hk => ?_⟩
      · unfold X0_copyFrom_s89
        simp only [if_neg (lt_lit (k := 4) 4 rfl hj (by omega)), if_neg (njo hj (by omega)), nI_clamp (show j < 2 ^ 31 by omega), ea1]
      · show va_up (va_up (va_up m.1 5 _) 6 _) 7 _ k i = _
        rw [va_up_ne _ _ (by omega), va_up_ne _ _ (by omega), va_up_ne _ _ (by omega)]
        exact h2 i hi k hk
      · rcases (show k = 0 ∨ k = 1 ∨ k = 2 by omega) with rfl | rfl | rfl
        · exact st _ _ _ _ hi (fun i hi => h4 i hi 0 (by omega))
        · exact st _ _ _ _ hi (fun i hi => h4 i hi 1 (by omega))
        · exact st _ _ _ _ hi (fun i hi => h4 i hi 2 (by omega)))
    (by
      rintro ⟨z, m⟩ ⟨rfl, h2, h3, h4⟩
      exact ⟨m, rfl, h2, h3, h4⟩) 4 0 ((0 : Int32), e2) N rfl (by omega) ⟨rfl, q2.1, q2.2, fun i hi => absurd hi (by omega)⟩
  refine ⟨(e3.1, va_up (va_up (va_up (va_up e3.2 0 (g.2 0)) 1 (g.2 1)) 2 (g.2 2)) 3 (g.2 3)), ?_, fun k hk => ?_, q3⟩
  · unfold f_X0_copyFrom
    simp only [f1, f2, f3, Option.bind_some]
  · rcases (show k = 0 ∨ k = 1 ∨ k = 2 ∨ k = 3 by omega) with rfl | rfl | rfl | rfl <;> rfl

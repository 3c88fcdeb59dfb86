theorem z_i : ∀ c, c < 256 → (0 : Int32) ≤ nI c := fun c h => nI_pos' (by omega)
theorem c59 : ∀ c, c < 256 → ((nI c = (59 : Int32)) ↔ c = 59) := by decide +kernel
/-- the model's next token; W what it says of a word there -/
theorem av_m {N : Nat} (hN : 8000 ≤ N) {A : Nat → Nat → Int32} {B : Nat → Int32} {n : Nat} {c : Nat → Nat} (h : TM A B n c) {i s e k : Nat} (h2 : B 2 = nI i) (hk : TK n c i s e k) {W : Int32} (hW : k = 1 → ∀ B1 : Nat → Int32, B1 1 = B 1 → B1 2 = nI e → B1 4 = nI s → f_X8_wordOf N (A, B1) = some W) : ∃ B1 : Nat → Int32, f_X8_advances N (A, B) = some (A, B1) ∧ B1 2 = nI e ∧ B1 3 = nI k ∧ B1 4 = nI s ∧ (k = 1 → B1 5 = W) ∧ (k = 2 → B1 5 = nI (num2 c s (e - s)) ∧ B1 6 = nI (e - s)) ∧ ∀ q, q ≠ 2 → q ≠ 3 → q ≠ 4 → q ≠ 5 → q ≠ 6 → B1 q = B q := by
  have hn := h.1
  obtain ⟨b1, b2, b3, b4, b5⟩ := hk
  have keep : ∀ (f : Nat → Int32) (p q : Nat) (v : Int32), q ≠ p → va_up f p v q = f q := fun f p q v hq => by rw [va_up, if_neg hq]
  unfold f_X8_advances
  rw [eb_m hN h h2 b1 b2 b3 b4]
  simp only [Option.bind_some]
  have h' : TM A (va_up (va_up B 2 (nI s)) 4 (nI s)) n c := h
  have e2 : va_up B 2 (nI s) 2 = nI s := rfl
  rw [e2]
  rcases b5 with ⟨rfl, a, b⟩ | ⟨rfl, a, b, d1, d2, d3, d4⟩ | ⟨rfl, a, b, b', d1, d2, d3, d4⟩ | ⟨rfl, a, b, b', d5, d⟩ | ⟨rfl, a, b, b', d5, d⟩
  · subst a b
    rw [let_mn h' (Nat.le_refl _) (by omega)]
    simp only [Option.bind_some, if_neg (show ¬ (0 : Int32) ≤ -1 by decide)]
    refine ⟨_, rfl, rfl, rfl, rfl, fun c => absurd c (by decide), fun c => absurd c (by decide), fun q q2 q3 q4 q5 q6 => ?_⟩
    rw [keep _ _ _ _ q4, keep _ _ _ _ q3, keep _ _ _ _ q2]
  · rw [let_m h' a]
    have hw := ew_m hN h' (i := s) (e := e) rfl d1 d2 d3 d4
    simp only [Option.bind_some, if_pos (z_i _ (h.2.2 s a).1), iss_m _ (h.2.2 s a).1, if_pos b, oz, ↓reduceIte, hw]
    rw [hW rfl (va_up (va_up (va_up (va_up B 2 (nI s)) 4 (nI s)) 2 (nI e)) 3 1) rfl rfl rfl]
    refine ⟨_, rfl, rfl, rfl, rfl, fun _ => rfl, fun c => absurd c (by decide), fun q q2 q3 q4 q5 q6 => ?_⟩
    rw [keep _ _ _ _ q5, keep _ _ _ _ q3, keep _ _ _ _ q2, keep _ _ _ _ q4, keep _ _ _ _ q2]
  · rw [let_m h' a]
    have h'' : TM A (va_up (va_up (va_up B 2 (nI s)) 4 (nI s)) 5 (0 : Int32)) n c := h
    have hw := en_m hN h'' (i := s) (e := e) rfl rfl rfl d1 d2 d3 d4
    simp only [Option.bind_some, if_pos (z_i _ (h.2.2 s a).1), iss_m _ (h.2.2 s a).1, isd_m _ (h.2.2 s a).1, if_neg b, if_pos b', oz, ↓reduceIte, hw]
    refine ⟨_, rfl, rfl, rfl, rfl, fun c => absurd c (by decide), fun _ => ⟨rfl, pk_sub d1⟩, fun q q2 q3 q4 q5 q6 => ?_⟩
    rw [keep _ _ _ _ q6, keep _ _ _ _ q3, keep _ _ _ _ q5, keep _ _ _ _ q2, keep _ _ _ _ q5, keep _ _ _ _ q4, keep _ _ _ _ q2]
  · rw [let_m h' a]
    simp only [Option.bind_some, if_pos (z_i _ (h.2.2 s a).1), iss_m _ (h.2.2 s a).1, isd_m _ (h.2.2 s a).1, if_neg b, if_neg b', ↓reduceIte, if_pos ((c59 _ (h.2.2 s a).1).mpr d5)]
    subst d
    refine ⟨_, rfl, nI_1 s, rfl, rfl, fun c => absurd c (by decide), fun c => absurd c (by decide), fun q q2 q3 q4 q5 q6 => ?_⟩
    rw [keep _ _ _ _ q4, keep _ _ _ _ q3, keep _ _ _ _ q2, keep _ _ _ _ q2]
  · rw [let_m h' a]
    simp only [Option.bind_some, if_pos (z_i _ (h.2.2 s a).1), iss_m _ (h.2.2 s a).1, isd_m _ (h.2.2 s a).1, if_neg b, if_neg b', ↓reduceIte, if_neg (fun x => d5 ((c59 _ (h.2.2 s a).1).mp x))]
    subst d
    refine ⟨_, rfl, nI_1 s, rfl, rfl, fun c => absurd c (by decide), fun c => absurd c (by decide), fun q q2 q3 q4 q5 q6 => ?_⟩
    rw [keep _ _ _ _ q4, keep _ _ _ _ q3, keep _ _ _ _ q2, keep _ _ _ _ q2]

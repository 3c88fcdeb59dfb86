theorem tk_kind {n : Nat} {c : Nat → Nat} {i s e k : Nat} (h : TK n c i s e k) : (k = 0 ∧ s = n) ∨ (k = 3 ∧ s < n ∧ c s = 59) ∨ (k ≠ 0 ∧ k ≠ 3 ∧ s < n ∧ c s ≠ 59) := by
  obtain ⟨-, -, -, -, h5⟩ := h
  rcases h5 with ⟨a, b, -⟩ | ⟨a, b, d, -⟩ | ⟨a, b, -, d, -⟩ | ⟨a, b, -, -, d, -⟩ | ⟨a, b, -, -, d, -⟩
  · exact Or.inl ⟨a, b⟩
  · have := of_decide_eq_true d
    exact Or.inr (Or.inr ⟨by omega, by omega, b, by omega⟩)
  · have := of_decide_eq_true d
    exact Or.inr (Or.inr ⟨by omega, by omega, b, by omega⟩)
  · exact Or.inr (Or.inl ⟨a, b, d⟩)
  · exact Or.inr (Or.inr ⟨by omega, by omega, b, d⟩)
/-- the class's loop and the model's, from clause j on -/
theorem rd_loop {N : Nat} (hN : 8000 ≤ N) {n : Nat} {c : Nat → Nat} {A0 : Nat → Nat → Int32} {B0 : Nat → Int32} : ∀ (d j : Nat), j + d = 14 → 1 ≤ d → ∀ (x h : Mo) (A : Nat → Nat → Int32) (B B1 : Nat → Int32) (s e k w : Nat) (H : Nat → Nat → Nat), B 8 = -1 → f_X8_advances N (A, B) = some (A, B1) → (∀ q, (q < 2 ∨ 6 < q) → B1 q = B q) → B 7 = nI j → At n c x A B1 s e k w → HI H → RHc h H → RHm A 1 H → FM A A0 → (∀ q, (q < 2 ∨ 8 < q) → B q = B0 q) → ∀ F G, d ≤ F → d + 2 ≤ G → ∃ (r : Int32) (x1 h1 : Mo) (A1 : Nat → Nat → Int32) (B3 : Nat → Int32), jw (X5_readInto_s11 N) F (nI (j + 1), x, h) = some (.inr (r, x1, h1)) ∧ jw (X8_reads_s21 N) G ((1 : Int32), (A, B)) = some (A1, B3) ∧ B3 8 = r ∧ FM A1 A0 ∧ (∀ q, (q < 2 ∨ 8 < q) → B3 q = B0 q) ∧ TX x1 n c ∧ (r = -1 → ∃ H1, HI H1 ∧ RHc h1 H1 ∧ RHm A1 1 H1 ∧ x1.2 1 = B3 7) := by
  intro d
  induction d with
  | zero => intro j _ h; omega
  | succ d ih =>
    intro j hjd _ x h A B B1 s e k w H h8 ha hfr h7 hAt hI hh hm hF hf0 F G hFd hGd
    have g7 : B1 7 = nI j := (hfr 7 (by omega)).trans h7
    have g8 : B1 8 = -1 := (hfr 8 (by omega)).trans h8
    have nle : ¬ (14 : Int32) < nI (j + 1) := nI_nlt (b := j + 1) (a := 14) (by omega) (by omega)
    have hb := rs_b h8 ha g7 (show j < 14 by omega)
    rcases cls (A0 := A0) hN hAt g8 hI hh hm hF with ⟨y, t, z, A1, B2, o1, o2, o3, o4, o5, o6, o7, o8⟩ | ⟨y, h1, A1, B2, H1, s1, e1, k1, w1, o1, o2, o3, o4, o5, o6, o7, o8⟩
    · have n8 : ¬ B2 8 = -1 := by rw [o6]; exact nm1 (by omega)
      refine ⟨nI t, y, h, A1, B2, ?_, ?_, o6, o7, fun q hq => (o8 q hq).trans ((hfr q (by omega)).trans (hf0 q hq)), o4, fun q => absurd q (nm1 (by omega))⟩
      · refine jw_mono (n := 1) (jw_inr (n := 0) ?_) (by omega)
        unfold X5_readInto_s11
        simp only [if_neg nle, o2, Option.bind_some, ↓reduceIte, o5]
      · rw [o3] at hb
        exact jw_mono (n := 2) ((jw_inl (n := 1) hb).trans (jw_inr (n := 0) (rs_f n8 z))) (by omega)
    · obtain ⟨c1, c2, c3, c4, c5⟩ := At_b o3
      have o3' := o3
      obtain ⟨⟨i1, hk1⟩, hx, hmm, x2, x3, b2, b3, b4, -, -⟩ := o3
      have b7 : B2 7 = nI j := (o8 7 (by omega)).trans g7
      have b8 : B2 8 = -1 := (o8 8 (by omega)).trans g8
      have x0 : y.2 0 = nI n := hx.2.1
      rw [o2] at hb
      rcases tk_kind hk1 with ⟨k0, sn⟩ | ⟨k0, sn, c59'⟩ | ⟨k0, k3, sn, cne⟩
      · subst k0
        refine ⟨-1, (y.1, va_up y.2 1 (nI (j + 1))), h1, A1, va_up B2 7 (nI (j + 1)), ?_, ?_, b8, o7, fun q hq => (va_up_ne _ _ (by omega)).trans ((o8 q (by omega)).trans ((hfr q (by omega)).trans (hf0 q hq))), hx, fun _ => ⟨H1, o4, o5, o6, rfl⟩⟩
        · refine jw_mono (n := 1) (jw_inr (n := 0) ?_) (by omega)
          unfold X5_readInto_s11
          simp only [if_neg nle, o1, Option.bind_some, oz, ↓reduceIte, x2, x0, if_neg (show ¬ nI s1 < nI n from nI_nlt (by omega) (by omega))]
        · have ht : tailM (A1, B2) = some ((0 : Int32), (A1, va_up B2 7 (nI (j + 1)))) := by
            unfold tailM
            simp only [b3, b7, if_neg (show ¬ nI 0 = (3 : Int32) by decide), if_pos (show nI 0 = (0 : Int32) by decide), Option.bind_some, ↓reduceIte, ea1]
          rw [ht] at hb
          exact jw_mono (n := 2) ((jw_inl (n := 1) hb).trans (jw_inr (n := 0) (rs_0 _))) (by omega)
      · subst k0
        have ht : tailM (A1, B2) = some ((1 : Int32), (A1, va_up B2 7 (nI (j + 1)))) := by
          unfold tailM
          simp only [b3, b7, if_pos (show nI 3 = (3 : Int32) by decide), Option.bind_some, oz, ↓reduceIte, ea1]
        rw [ht] at hb
        have tm : TM A1 (va_up B2 7 (nI (j + 1))) n c := hmm
        obtain ⟨s2, e2, k2, w2, B4, a1, a2, a3, a4⟩ := adv hN hx tm c4 x3 b2
        have hl : f_X5_letterAt (nI s1) y = some 59 := by rw [let_c hx sn, c59']; rfl
        rcases Nat.lt_or_ge (j + 1) 14 with j14 | j14
        · have hst : X5_readInto_s11 N (nI (j + 1), x, h) = some (.inl (nI (j + 1 + 1), (y.1, va_up (va_up y.2 2 (nI s2)) 3 (nI e2)), h1)) := by
            unfold X5_readInto_s11
            simp only [if_neg nle, o1, Option.bind_some, oz, ↓reduceIte, x2, x0, if_pos (show nI s1 < nI n from nI_lt sn (by omega)), hl, if_neg (show ¬ nI (j + 1) = (14 : Int32) from fun q => absurd ((nI_eq (b := 14) (by omega) (by omega)).mp q) (by omega)), a1, ea1]
          obtain ⟨F', rfl⟩ : ∃ F', F = F' + 1 := ⟨F - 1, by omega⟩
          obtain ⟨G', rfl⟩ : ∃ G', G = G' + 1 := ⟨G - 1, by omega⟩
          rw [jw_inl hst, jw_inl (s' := ((1 : Int32), (A1, va_up B2 7 (nI (j + 1))))) hb]
          exact ih (j + 1) (by omega) (by omega) _ h1 A1 (va_up B2 7 (nI (j + 1))) B4 s2 e2 k2 w2 H1 b8 a2 a4 rfl a3 o4 o5 o6 o7 (fun q hq => (va_up_ne _ _ (by omega)).trans ((o8 q (by omega)).trans ((hfr q (by omega)).trans (hf0 q hq)))) F' G' (by omega) (by omega)
        · obtain rfl : j = 13 := by omega
          have hm14 := rs_14 (N := N) (A := A1) (B := va_up B2 7 (nI (13 + 1))) (B1 := B4) b8 a2 (a4 7 (by omega))
          have e4' : va_up B2 7 (nI (13 + 1)) 4 = nI s1 := b4
          rw [e4'] at hm14
          have n8 : ¬ va_up B4 8 (nI s1) 8 = -1 := by rw [va_up_self]; exact nm1 (by omega)
          refine ⟨nI s1, y, h1, A1, va_up B4 8 (nI s1), ?_, ?_, va_up_self _ _ _, o7, fun q hq => (va_up_ne _ _ (by omega)).trans ((a4 q (by omega)).trans ((va_up_ne _ _ (by omega)).trans ((o8 q (by omega)).trans ((hfr q (by omega)).trans (hf0 q hq))))), hx, fun q => absurd q (nm1 (by omega))⟩
          · refine jw_mono (n := 1) (jw_inr (n := 0) ?_) (by omega)
            unfold X5_readInto_s11
            simp only [if_neg nle, o1, Option.bind_some, oz, ↓reduceIte, x2, x0, if_pos (show nI s1 < nI n from nI_lt sn (by omega)), hl, if_pos (show nI (13 + 1) = (14 : Int32) from rfl)]
          · exact jw_mono (n := 3) ((jw_inl (n := 2) hb).trans ((jw_inl (n := 1) hm14).trans (jw_inr (n := 0) (rs_f n8 1)))) (by omega)
      · have ht : tailM (A1, B2) = some ((0 : Int32), (A1, va_up (va_up B2 7 (nI (j + 1))) 8 (nI s1))) := by
          have f8 : va_up B2 7 (nI (j + 1)) 8 = -1 := b8
          have f4 : va_up B2 7 (nI (j + 1)) 4 = nI s1 := b4
          unfold tailM
          simp only [b3, b7, if_neg (show ¬ nI k1 = (3 : Int32) from fun q => k3 ((nI_eq (b := 3) (by omega) (by omega)).mp q)), if_neg (show ¬ nI k1 = (0 : Int32) from fun q => k0 ((nI_eq (b := 0) (by omega) (by omega)).mp q)), Option.bind_some, ↓reduceIte, ea1, fa_m f8, f4]
        rw [ht] at hb
        have hc9 := hx.2.2 s1 sn
        refine ⟨nI s1, y, h1, A1, va_up (va_up B2 7 (nI (j + 1))) 8 (nI s1), ?_, ?_, va_up_self _ _ _, o7, fun q hq => (va_up_ne _ _ (by omega)).trans ((va_up_ne _ _ (by omega)).trans ((o8 q (by omega)).trans ((hfr q (by omega)).trans (hf0 q hq)))), hx, fun q => absurd q (nm1 (by omega))⟩
        · refine jw_mono (n := 1) (jw_inr (n := 0) ?_) (by omega)
          unfold X5_readInto_s11
          simp only [if_neg nle, o1, Option.bind_some, oz, ↓reduceIte, x2, x0, if_pos (show nI s1 < nI n from nI_lt sn (by omega)), let_c hx sn, if_neg (show ¬ nI (c s1) = (59 : Int32) from fun q => cne ((c59 _ hc9.1).mp q))]
        · exact jw_mono (n := 2) ((jw_inl (n := 1) hb).trans (jw_inr (n := 0) (rs_0 _))) (by omega)
theorem read_both {N : Nat} (hN : 8000 ≤ N) {n : Nat} {c : Nat → Nat} {x h : Mo} {A A0 : Nat → Nat → Int32} {B : Nat → Int32} {H : Nat → Nat → Nat} (hx : TX x n c) (hm : TM A B n c) (hI : HI H) (hh : RHc h H) (hmH : RHm A 1 H) (hF : FM A A0) : ∃ (r : Int32) (x1 h1 : Mo) (A1 : Nat → Nat → Int32) (B3 : Nat → Int32), f_X5_readInto N x h = some (r, x1, h1) ∧ jw (X8_reads_s21 N) N ((1 : Int32), (A, va_up (va_up (va_up B 2 (0 : Int32)) 7 (0 : Int32)) 8 (-1 : Int32))) = some (A1, B3) ∧ B3 8 = r ∧ FM A1 A0 ∧ (∀ q, (q < 2 ∨ 8 < q) → B3 q = B q) ∧ TX x1 n c ∧ (r = -1 → ∃ H1, HI H1 ∧ RHc h1 H1 ∧ RHm A1 1 H1 ∧ x1.2 1 = B3 7) := by
  have hx' : TX (x.1, va_up x.2 3 (0 : Int32)) n c := hx
  have hm' : TM A (va_up (va_up (va_up B 2 (0 : Int32)) 7 (0 : Int32)) 8 (-1 : Int32)) n c := hm
  obtain ⟨s, e, k, w, B1, a1, a2, a3, a4⟩ := adv hN hx' hm' (Nat.zero_le n) rfl rfl
  obtain ⟨r, x1, h1, A1, B3, q1, q2, q3, q4, q5, q6, q7⟩ := rd_loop (A0 := A0) (B0 := B) hN 14 0 rfl (by omega) _ h A _ B1 s e k w H rfl a2 a4 rfl a3 hI hh hmH hF (fun q hq => (va_up_ne _ _ (by omega)).trans ((va_up_ne _ _ (by omega)).trans (va_up_ne _ _ (by omega)))) N N (by omega) (by omega)
  refine ⟨r, x1, h1, A1, B3, ?_, q2, q3, q4, q5, q6, q7⟩
  unfold f_X5_readInto
  rw [a1, Option.bind_some]
  show (jw (X5_readInto_s11 N) N (nI (0 + 1), _, h)).bind _ = _
  rw [q1]
  rfl

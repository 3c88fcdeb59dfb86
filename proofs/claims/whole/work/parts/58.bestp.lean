theorem fb_le {ok : Nat → Bool} {val : Nat → Nat} {lo K : Nat} (hv : ∀ w, val w ≤ K) : ∀ c (st : Nat × Nat), st.1 ≤ K + 1 → (fb ok val lo c st).1 ≤ K + 1
  | 0, st, h => h
  | c + 1, st, h => by
    rw [fb]
    split
    · have := hv (lo + c)
      show val (lo + c) + 1 ≤ K + 1
      omega
    · exact fb_le hv c st h
theorem fbest_m {N : Nat} (hN : 8000 ≤ N) {H : Nat → Nat → Nat} {t : Nat → Nat} {A : Nat → Nat → Int32} {B : Nat → Int32} (hI : HI H) (hm : RHm A 0 H) (hT : TI H t) (hs : RTm (A 5) 0 t) {ok : Nat → Bool} (hok : ∀ w, ok w = true ↔ okQ (t 1) (H 8 1 ≤ pop (t 1)) (H 8 0) (H 8 1) w) : ∃ C : Nat → Nat → Int32, f_X8_findsBest N (A, B) = some (lN (fb ok (vlp (dg H) (H 8 0) (H 8 1)) 0 (H 8 0 ^ H 8 1) (0, 0)).1 - lN 1, (C, B)) ∧ (∀ i, i ≠ 11 → i ≠ 12 → C i = A i) ∧ (0 < (fb ok (vlp (dg H) (H 8 0) (H 8 1)) 0 (H 8 0 ^ H 8 1) (0, 0)).1 → ∀ s, s < H 8 1 → C 12 s = nI (dig (H 8 0) (H 8 1) (fb ok (vlp (dg H) (H 8 0) (H 8 1)) 0 (H 8 0 ^ H 8 1) (0, 0)).2 s)) := by
  have h6 := hI.1
  have h5 := hI.2.1
  have hle := rw_le h6 h5
  have ht5 := ten_le h5
  have k0 : A 4 0 = nI (H 8 0) := hm.1 0 (by omega)
  have k1 : A 4 1 = nI (H 8 1) := hm.1 1 (by omega)
  suffices key : ∃ r : Int64 × Mo, jw (X8_findsBest_s6 N) N ((-1 : Int64), (0 : Int32), (A, B)) = some r ∧ (r.1 = lN (fb ok (vlp (dg H) (H 8 0) (H 8 1)) 0 (H 8 0 ^ H 8 1) (0, 0)).1 - lN 1 ∧ r.2.2 = B ∧ (∀ i, i ≠ 11 → i ≠ 12 → r.2.1 i = A i) ∧ (0 < (fb ok (vlp (dg H) (H 8 0) (H 8 1)) 0 (H 8 0 ^ H 8 1) (0, 0)).1 → ∀ s, s < H 8 1 → r.2.1 12 s = nI (dig (H 8 0) (H 8 1) (fb ok (vlp (dg H) (H 8 0) (H 8 1)) 0 (H 8 0 ^ H 8 1) (0, 0)).2 s))) by
    obtain ⟨⟨r1, C, B'⟩, e, q1, q2, q3, q4⟩ := key
    dsimp only at q1 q2 q3 q4
    subst q1 q2
    refine ⟨C, ?_, q3, q4⟩
    unfold f_X8_findsBest
    rw [e]
    rfl
  refine jw_I (fun (w : Nat) (x : Int64 × Int32 × Mo) => x.1 = lN (fb ok (vlp (dg H) (H 8 0) (H 8 1)) 0 w (0, 0)).1 - lN 1 ∧ x.2.1 = nI w ∧ x.2.2.2 = B ∧ (∀ i, i ≠ 11 → i ≠ 12 → x.2.2.1 i = A i) ∧ (0 < (fb ok (vlp (dg H) (H 8 0) (H 8 1)) 0 w (0, 0)).1 → ∀ s, s < H 8 1 → x.2.2.1 12 s = nI (dig (H 8 0) (H 8 1) (fb ok (vlp (dg H) (H 8 0) (H 8 1)) 0 w (0, 0)).2 s))) (fun (r : Int64 × Mo) => r.1 = lN (fb ok (vlp (dg H) (H 8 0) (H 8 1)) 0 (H 8 0 ^ H 8 1) (0, 0)).1 - lN 1 ∧ r.2.2 = B ∧ (∀ i, i ≠ 11 → i ≠ 12 → r.2.1 i = A i) ∧ (0 < (fb ok (vlp (dg H) (H 8 0) (H 8 1)) 0 (H 8 0 ^ H 8 1) (0, 0)).1 → ∀ s, s < H 8 1 → r.2.1 12 s = nI (dig (H 8 0) (H 8 1) (fb ok (vlp (dg H) (H 8 0) (H 8 1)) 0 (H 8 0 ^ H 8 1) (0, 0)).2 s))) (H 8 0 ^ H 8 1) ?_ ?_ (H 8 0 ^ H 8 1) 0 _ N (by omega) (by omega) ⟨rfl, rfl, rfl, fun _ _ _ => rfl, fun c => absurd (show 0 < 0 from c) (by decide)⟩
  · rintro w ⟨x1, x2, C, B'⟩ hw ⟨i1, i2, i3, i4, i5⟩
    dsimp only at i1 i2 i3 i4 i5
    subst i1 i2 i3
    have h0 : H 8 1 = 0 ∨ 0 < H 8 0 := by
      rcases Nat.eq_zero_or_pos (H 8 0) with c | c
      · rcases Nat.eq_zero_or_pos (H 8 1) with d | d
        · exact Or.inl d
        · rw [c, Nat.zero_pow d] at hw
          omega
      · exact Or.inr c
    have c0 : C 4 0 = nI (H 8 0) := by rw [i4 4 (by omega) (by omega)]; exact k0
    have c1 : C 4 1 = nI (H 8 1) := by rw [i4 4 (by omega) (by omega)]; exact k1
    have hC : ∀ i, i ≠ 11 → i ≠ 12 → va_up C 11 (rowG (H 8 0) (H 8 1) w (C 11) (H 8 1)) i = A i := fun i a b => by
      rw [va_up, if_neg a]
      exact i4 i a b
    have hmC : RHm (va_up C 11 (rowG (H 8 0) (H 8 1) w (C 11) (H 8 1))) 0 H := by
      unfold RHm at hm ⊢
      rw [hC 4 (by omega) (by omega), hC 1 (by omega) (by omega), hC 2 (by omega) (by omega), hC 3 (by omega) (by omega)]
      exact hm
    have hsC : RTm (va_up C 11 (rowG (H 8 0) (H 8 1) w (C 11) (H 8 1)) 5) 0 t := by rw [hC 5 (by omega) (by omega)]; exact hs
    have hd : ∀ s, s < H 8 1 → dig (H 8 0) (H 8 1) w s < H 8 0 := fun s hs => dig_lt (by omega) _ w s
    have hrow : ∀ s, s < H 8 1 → (va_up C 11 (rowG (H 8 0) (H 8 1) w (C 11) (H 8 1))) 11 s = nI (dig (H 8 0) (H 8 1) w s) := fun s hs => by
      show rowG (H 8 0) (H 8 1) w (C 11) (H 8 1) s = _
      unfold rowG
      rw [if_pos (by omega)]
    have hv := vlp_10 (dgf := dg H) (b := H 8 0) (H 8 1) w
    have hst := fb_le (ok := ok) (val := vlp (dg H) (H 8 0) (H 8 1)) (lo := 0) (K := 10 ^ H 8 1) (fun w => vlp_10 _ w) w (0, 0) (Nat.zero_le _)
    have hmg := mg_m hN (M := (va_up C 11 (rowG (H 8 0) (H 8 1) w (C 11) (H 8 1)), B')) hI hmC hT hsC hd hrow
    have hvl := vl_m hN (M := (va_up C 11 (rowG (H 8 0) (H 8 1) w (C 11) (H 8 1)), B')) hI hmC hd hrow
    have hcp := cp_m hN h5 (C := va_up C 11 (rowG (H 8 0) (H 8 1) w (C 11) (H 8 1))) (B := B') c1
    unfold X8_findsBest_s6
    dsimp only
    rw [c0, c1, rows_m hN h5]
    simp only [Option.bind_some]
    rw [if_neg (nI_ge hw (by omega)), row_m hN h6 h5 h0 (show w < 2 ^ 30 by omega) c0 c1]
    simp only [Option.bind_some, ea1]
    rw [fb, Nat.zero_add]
    by_cases ho : ok w = true
    case neg =>
      rw [hmg.2 (fun c => ho ((hok w).mpr c)), if_neg (fun c => ho c.1)]
      simp only [Option.bind_some, ↓reduceIte]
      exact ⟨_, rfl, rfl, rfl, rfl, hC, i5⟩
    rw [hmg.1 ((hok w).mp ho)]
    simp only [Option.bind_some, oz, ↓reduceIte, hvl, bl_le (show vlp (dg H) (H 8 0) (H 8 1) w < 2 ^ 40 by omega) (show (fb ok (vlp (dg H) (H 8 0) (H 8 1)) 0 w (0, 0)).1 < 2 ^ 40 by omega)]
    by_cases hc : vlp (dg H) (H 8 0) (H 8 1) w + 1 ≤ (fb ok (vlp (dg H) (H 8 0) (H 8 1)) 0 w (0, 0)).1
    · rw [if_pos hc, if_neg (fun c => by omega)]
      exact ⟨_, rfl, rfl, rfl, rfl, hC, i5⟩
    · rw [if_neg hc, if_pos ⟨ho, by omega⟩, hcp]
      refine ⟨_, rfl, (bl_of _).symm, rfl, rfl, fun i a b => ?_, fun _ s hs2 => ?_⟩
      · show va_up (va_up C 11 _) 12 _ i = _
        rw [va_up, if_neg b]
        exact hC i a b
      · show fillG _ 0 _ (H 8 1) s = _
        have := fill_in ((va_up C 11 (rowG (H 8 0) (H 8 1) w (C 11) (H 8 1))) 12) 0 ((va_up C 11 (rowG (H 8 0) (H 8 1) w (C 11) (H 8 1))) 11) (H 8 1) s hs2
        rw [Nat.zero_add] at this
        rw [this]
        exact hrow s hs2
  · rintro ⟨x1, x2, C, B'⟩ ⟨i1, i2, i3, i4, i5⟩
    dsimp only at i1 i2 i3 i4 i5
    subst i1 i2 i3
    have c0 : C 4 0 = nI (H 8 0) := by rw [i4 4 (by omega) (by omega)]; exact k0
    have c1 : C 4 1 = nI (H 8 1) := by rw [i4 4 (by omega) (by omega)]; exact k1
    refine ⟨(_, (C, B')), ?_, rfl, rfl, i4, i5⟩
    unfold X8_findsBest_s6
    dsimp only
    rw [c0, c1, rows_m hN h5]
    simp only [Option.bind_some]
    rw [if_pos (nI_le (Nat.le_refl _) (by omega))]
theorem run_c {N : Nat} (hN : 8000 ≤ N) {H : Nat → Nat → Nat} {t : Nat → Nat} {h S : Mo} {bl : Int64} (hI : HI H) (hh : RHc h H) (hT : TI H t) {ok : Nat → Bool} (hok : ∀ w, ok w = true ↔ okQ (t 1) (H 8 1 ≤ pop (t 1)) (H 8 0) (H 8 1) w) : ∃ S1 : Mo, f_X2_run N (nI (t 1)) S bl h = some (S1, lN (fb ok (vlp (dg H) (H 8 0) (H 8 1)) 0 (H 8 0 ^ H 8 1) (0, 0)).1 - lN 1) ∧ Inv (H 8 0) (H 8 1) (S1.1 1) (fb ok (vlp (dg H) (H 8 0) (H 8 1)) 0 (H 8 0 ^ H 8 1) (0, 0)) := by
  have h6 := hI.1
  have h5 := hI.2.1
  have hL := liv_lt hI hT
  have c1 : h.2 1 = nI (H 8 1) := hh.1 1 (by omega)
  have hpl : pop (t 1) < 2 ^ 31 := by rw [pop_cn _ hL]; have := cnr_le (fun i => (t 1).testBit i) 6; omega
  obtain ⟨z3, ez, hz, hj⟩ : ∃ z3 : Int32, (if nI (H 8 1) ≤ nI (pop (t 1)) then some (0 : Int32) else some (1 : Int32)) = some z3 ∧ ((z3 = 0) ↔ H 8 1 ≤ pop (t 1)) ∧ ¬ jz z3 := by
    by_cases c : H 8 1 ≤ pop (t 1)
    · exact ⟨0, if_pos ((nI_leI (by omega) hpl).mpr c), ⟨fun _ => c, fun _ => rfl⟩, by decide⟩
    · exact ⟨1, if_neg (fun d => c ((nI_leI (by omega) hpl).mp d)), ⟨fun d => absurd d (by decide), fun d => absurd d c⟩, by decide⟩
  obtain ⟨vs, e1, e2, -, -⟩ := tf_c hN hI hh hok 7 0 0 (t 1) (0, 0) (va_up S.1 1 (fillG (S.1 1) 0 (fun _ => -1) 5), va_up S.2 0 z3) (by omega) (by omega) trivial ⟨hL, fun j hj => ⟨fun x => ⟨x, fun _ y => absurd y (by show ¬ (0 : Nat).testBit j = true; rw [Nat.zero_testBit]; decide)⟩, fun x => x.1⟩⟩ ⟨by show 0 ≤ _; omega, fun _ s hs => by
    have := fill_in (S.1 1) 0 (fun _ => (-1 : Int32)) 5 s hs
    rw [Nat.zero_add] at this
    exact this, fun c => absurd c (by decide)⟩ hz (fun s hs => absurd hs (by omega))
  rw [Nat.zero_mul, Nat.sub_zero] at e1 e2
  refine ⟨vs, ?_, e2⟩
  unfold f_X2_run
  rw [fil hN, bc_c _ hL, c1]
  simp only [Option.bind_some]
  rw [ez]
  simp only [Option.bind_some, if_neg hj]
  have e1' : f_X2_tryFrom N 7 (0 : Int32) (1 : Int64) (nI (t 1)) (va_up S.1 1 (fillG (S.1 1) 0 (fun _ => -1) 5), va_up S.2 0 z3) (-1 : Int64) h = _ := e1
  rw [e1']
  rfl

theorem shl_m : ∀ m, m ≤ 6 → ((1 : Int32) <<< (nI m &&& 31)) - (1 : Int32) = nI (2 ^ m - 1) := by
  intro m hm
  rcases (show m = 0 ∨ m = 1 ∨ m = 2 ∨ m = 3 ∨ m = 4 ∨ m = 5 ∨ m = 6 by omega) with rfl | rfl | rfl | rfl | rfl | rfl | rfl <;> decide
def newT (m : Nat) : Nat → Nat := fun j => if j = 1 then 2 ^ m - 1 else 0
theorem newT_0 (m : Nat) {j : Nat} (h : j ≠ 1) : newT m j = 0 := if_neg h
theorem newT_TI (H : Nat → Nat → Nat) : TI H (newT (H 8 0)) := by
  have p := Nat.two_pow_pos (H 8 0)
  refine ⟨by rw [newT_0 _ (by decide)]; omega, show 2 ^ H 8 0 - 1 < 2 ^ H 8 0 by omega, by rw [newT_0 _ (by decide)]; omega, fun k hk => ?_⟩
  rw [newT_0 _ (show 3 + k ≠ 1 by omega)]
  exact ⟨by omega, fun _ => rfl, fun d hd => by omega⟩
theorem be_c {N : Nat} (hN : 8000 ≤ N) {m : Nat} (hm : m ≤ 6) (T : Mo) : ∃ T1, f_X4_begin N (nI m) T = some T1 ∧ RTc T1 (newT m) := by
  refine ⟨(va_up T.1 0 (fillG (T.1 0) 0 (fun _ => (-1 : Int32)) 5), va_up (va_up (va_up T.2 0 (0 : Int32)) 1 (nI (2 ^ m - 1))) 2 (0 : Int32)), ?_, rfl, rfl, rfl, fun k hk => ?_⟩
  · unfold f_X4_begin f_X4_dismiss
    simp only [fil hN, Option.bind_some, shl_m m hm]
  · show fillG (T.1 0) 0 (fun _ => (-1 : Int32)) 5 k = _
    have h := fill_in (T.1 0) 0 (fun _ => (-1 : Int32)) 5 k hk
    rw [Nat.zero_add] at h
    rw [h, newT_0 _ (show 3 + k ≠ 1 by omega)]
    rfl
theorem hk_c {N : Nat} (hN : 8000 ≤ N) (Y : BX) : jw X7_house_s62 N ((0 : Int32), Y) = some (va_up Y.1 5 (va_up (Y.1 5).1 0 (fillG ((Y.1 5).1 0) 0 (fun _ => (0 : Int32)) 2), (Y.1 5).2), Y.2.1, Y.2.2.1, Y.2.2.2) := by
  refine jw_F (fun j => (nI j, (va_up Y.1 5 (va_up (Y.1 5).1 0 (fillG ((Y.1 5).1 0) 0 (fun _ => (0 : Int32)) j), (Y.1 5).2), Y.2.1, Y.2.2.1, Y.2.2.2))) 2 (by omega) ?_ ?_ rfl
  · show _ = (nI 0, (va_up Y.1 5 (va_up (Y.1 5).1 0 ((Y.1 5).1 0), (Y.1 5).2), Y.2.1, Y.2.2.1, Y.2.2.2))
    rw [va_id]
    show _ = (nI 0, (va_up Y.1 5 (Y.1 5), Y.2.1, Y.2.2.1, Y.2.2.2))
    rw [va_id]
    rfl
  · intro j hj
    unfold X7_house_s62
    dsimp only
    rw [if_neg (lt_lit (k := 2) 2 rfl hj (by omega)), if_neg (njo hj (by omega)), nI_clamp (by omega), va_up_self]
    dsimp only
    rw [va_up_self, bx_uu, bx_uu, ea1, fillG, Nat.zero_add]
abbrev houA (A : Nat → Nat → Int32) : Nat → Nat → Int32 := va_up (va_up (va_up (va_up (va_up A 1 (fillG (A 1) 0 (fun j => A 1 (24 + j)) 24)) 2 (fillG (A 2) 0 (fun j => A 2 (5 + j)) 5)) 3 (fillG (A 3) 0 (fun j => A 3 (12 + j)) 12)) 4 (fillG (A 4) 0 (fun j => A 4 (4 + j)) 4)) 5 (fillG (A 5) 0 (fun _ => (0 : Int32)) 8)
theorem p_house {N : Nat} (hN : 8000 ≤ N) : ∀ (X : BX) (M : Mo), Rel X M → ∃ (r : Int32) (X1 : BX) (M1 : Mo), f_X7_house N X = some (r, X1) ∧ f_X8_house N M = some (r, M1) ∧ Rel X1 M1 := by
  intro X M hR
  obtain ⟨r, x1, h1, A3, B3, q1, q2, q3, q4, q5, q6, q7⟩ := rd_both hN hR
  by_cases hr : r = -1
  · obtain ⟨H1, hI, hh, hm, hcl⟩ := q7 hr
    have h6 := hI.1
    subst hr
    obtain ⟨h2, c0, c1, c2, c3, c4⟩ := cf_c hN (X.1 1) h1
    have hh2 : RHc h2 H1 := RHc_cp hI hh c1 c2 c3 c4
    obtain ⟨T1, t0, t1⟩ := be_c hN h6 (X.1 3)
    obtain ⟨H, t, -, -, -, -, -, -, ⟨un, nx, a, -, hnx, hu0, -⟩, -⟩ := hR
    have z2 : h2.2 0 = nI (H1 8 0) := hh2.1 0 (by omega)
    refine ⟨x1.2 1, (va_up (va_up (va_up (va_up (va_up (va_up (va_up (va_up X.1 0 x1) 2 h1) 0 (x1.1, va_up x1.2 0 (0 : Int32))) 1 h2) 3 T1) 4 ((X.1 4).1, va_up (X.1 4).2 1 (0 : Int32))) 6 ((X.1 6).1, va_up (X.1 6).2 0 (0 : Int32))) 5 (va_up (X.1 5).1 0 (fillG ((X.1 5).1 0) 0 (fun _ => (0 : Int32)) 2), (X.1 5).2), X.2.1, X.2.2.1, X.2.2.2), (va_up (va_up (houA A3) 5 (upd (houA A3 5) 1 (((1 : Int32) <<< ((houA A3 4 0) &&& 31)) - (1 : Int32)))) 8 (upd (upd (houA A3 8) 0 (0 : Int32)) 1 (0 : Int32)), va_up (va_up (va_up B3 1 (0 : Int32)) 9 (0 : Int32)) 10 (0 : Int32)), ?_, ?_, ?_⟩
    · unfold f_X7_house
      rw [q1, Option.bind_some]
      dsimp only
      rw [if_pos rfl]
      show (f_X0_copyFrom N (X.1 1) h1).bind _ = _
      rw [c0, Option.bind_some]
      show (f_X4_begin N (h2.2 0) (X.1 3)).bind _ = _
      rw [z2, t0, Option.bind_some, hk_c hN, Option.bind_some]
      rfl
    · unfold f_X8_house
      rw [q2, Option.bind_some]
      dsimp only
      rw [if_pos q3, cpl hN 1 24 0 24 _ (by omega) bk_1 (fun _ => rfl) (Or.inl (by omega)), Option.bind_some, cpl hN 2 5 0 5 _ (by omega) bk_2 (fun _ => rfl) (Or.inl (by omega)), Option.bind_some, cpl hN 3 12 0 12 _ (by omega) bk_3 (fun _ => rfl) (Or.inl (by omega)), Option.bind_some, cpl hN 4 4 0 4 _ (by omega) bk_4 (fun _ => rfl) (Or.inl (by omega)), Option.bind_some, bk_5 hN, Option.bind_some, hcl]
      rfl
    · have fi : ∀ (g v : Nat → Int32) (len j : Nat), j < len → fillG g 0 v len j = v j := fun g v len j hj => by
        have h := fill_in g 0 v len j hj
        rw [Nat.zero_add] at h
        exact h
      have m4 : A3 4 4 = nI (H1 8 0) := hm.1 0 (by omega)
      refine ⟨H1, newT (H1 8 0), hI, hh2, RHm_cp hI hm (fun j hj => ?_) (fun j hj => ?_) (fun j hj => ?_) (fun j hj => ?_), newT_TI H1, t1, fun j hj => ?_, ⟨0, nx, fun _ _ => 0, by omega, hnx, hu0, rfl, rfl, fun i hi => absurd hi (by omega)⟩, fun i hi => ?_, ⟨0, fun _ => 0, fun _ => 0, by omega, rfl, rfl, fun i hi => absurd hi (by omega)⟩, ⟨0, by omega, rfl, rfl, fun i hi => absurd hi (by omega)⟩⟩
      · rw [Nat.mul_zero, Nat.zero_add, Nat.mul_one]
        exact fi (A3 1) (fun j => A3 1 (24 + j)) 24 j hj
      · rw [Nat.mul_zero, Nat.zero_add, Nat.mul_one]
        exact fi (A3 2) (fun j => A3 2 (5 + j)) 5 j hj
      · rw [Nat.mul_zero, Nat.zero_add, Nat.mul_one]
        exact fi (A3 3) (fun j => A3 3 (12 + j)) 12 j hj
      · rw [Nat.mul_zero, Nat.zero_add, Nat.mul_one]
        exact fi (A3 4) (fun j => A3 4 (4 + j)) 4 j hj
      · rw [Nat.zero_add]
        show upd (fillG (A3 5) 0 (fun _ => (0 : Int32)) 8) 1 (((1 : Int32) <<< ((fillG (A3 4) 0 (fun j => A3 4 (4 + j)) 4 0) &&& 31)) - (1 : Int32)) j = _
        rw [fi (A3 4) (fun j => A3 4 (4 + j)) 4 0 (by omega)]
        by_cases h1 : j = 1
        · subst h1
          rw [pk_us]
          show ((1 : Int32) <<< ((A3 4 4) &&& 31)) - (1 : Int32) = nI (2 ^ H1 8 0 - 1)
          rw [m4, shl_m _ h6]
        · rw [pk_un h1, fi _ _ 8 j hj, newT_0 _ h1]
          rfl
      · rcases (show i = 0 ∨ i = 1 by omega) with rfl | rfl
        · exact ⟨fi ((X.1 5).1 0) (fun _ => (0 : Int32)) 2 0 (by omega), Or.inl rfl⟩
        · exact ⟨fi ((X.1 5).1 0) (fun _ => (0 : Int32)) 2 1 (by omega), Or.inl rfl⟩
  · refine ⟨-4, _, (A3, B3), ?_, ?_, Rel_read (h1 := h1) hR q4 q5 q6⟩
    · unfold f_X7_house
      rw [q1, Option.bind_some]
      dsimp only
      rw [if_neg hr]
    · unfold f_X8_house
      rw [q2, Option.bind_some]
      dsimp only
      rw [if_neg (show ¬ B3 8 = -1 from fun q => hr (q3.symm.trans q))]

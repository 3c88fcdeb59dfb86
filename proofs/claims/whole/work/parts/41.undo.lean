/-! PURE: what can be undone. -/
theorem dep_c : ∀ un, un < 9 → (if nI un + 1 < (8 : Int32) then nI un + 1 else 8) = nI (min 8 (un + 1)) := by decide +kernel
theorem rem_c {N : Nat} (hN : 8000 ≤ N) {u T : Mo} {R : Nat → Mo} {a : Nat → Nat} {un nx : Nat} (hun : un ≤ 8) (hnx : nx < 8) (h0 : u.2 0 = nI nx) (h1 : u.2 1 = nI un) (ha : a 2 ≤ 1) (h : RTc T a) : ∃ T1, f_X6_remember N u R T = some ((u.1, va_up (va_up u.2 0 (nI ((nx + 1) % 8))) 1 (nI (min 8 (un + 1)))), va_up R nx T1) ∧ RTc T1 a := by
  obtain ⟨T1, e, hT⟩ := cp_c hN (T2 := R nx) ha h
  refine ⟨T1, ?_, hT⟩
  unfold f_X6_remember
  rw [h0, h1, dep_c un (by omega)]
  rcases (show nx = 0 ∨ nx = 1 ∨ nx = 2 ∨ nx = 3 ∨ nx = 4 ∨ nx = 5 ∨ nx = 6 ∨ nx = 7 by omega) with rfl | rfl | rfl | rfl | rfl | rfl | rfl | rfl
  · rw [if_neg (by decide), if_pos (by decide), e]
    rfl
  · rw [if_neg (by decide), if_neg (by decide), if_pos (by decide), e]
    rfl
  · rw [if_neg (by decide), if_neg (by decide), if_neg (by decide), if_pos (by decide), e]
    rfl
  · rw [if_neg (by decide), if_neg (by decide), if_neg (by decide), if_neg (by decide), if_pos (by decide), e]
    rfl
  · rw [if_neg (by decide), if_neg (by decide), if_neg (by decide), if_neg (by decide), if_neg (by decide), if_pos (by decide), e]
    rfl
  · rw [if_neg (by decide), if_neg (by decide), if_neg (by decide), if_neg (by decide), if_neg (by decide), if_neg (by decide), if_pos (by decide), e]
    rfl
  · rw [if_neg (by decide), if_neg (by decide), if_neg (by decide), if_neg (by decide), if_neg (by decide), if_neg (by decide), if_neg (by decide), if_pos (by decide), e]
    rfl
  · rw [if_neg (by decide), if_neg (by decide), if_neg (by decide), if_neg (by decide), if_neg (by decide), if_neg (by decide), if_neg (by decide), if_neg (by decide), if_pos (by decide), e]
    rfl
theorem res_c {N : Nat} (hN : 8000 ≤ N) {u T : Mo} {R : Nat → Mo} {a : Nat → Nat} {un nx : Nat} (hun : un ≤ 8) (hu0 : 0 < un) (hnx : nx < 8) (h0 : u.2 0 = nI nx) (h1 : u.2 1 = nI un) (ha : a 2 ≤ 1) (h : RTc (R ((nx + 7) % 8)) a) : ∃ T1, f_X6_restore N u R T = some ((1 : Int32), (u.1, va_up (va_up u.2 0 (nI ((nx + 7) % 8))) 1 (nI (un - 1))), T1) ∧ RTc T1 a := by
  obtain ⟨T1, e, hT⟩ := cp_c hN (T2 := T) ha h
  refine ⟨T1, ?_, hT⟩
  unfold f_X6_restore
  rw [h0, h1, if_pos (show (0 : Int32) < nI un from nI_lt (a := 0) hu0 (by omega)), es1 hu0]
  rcases (show nx = 0 ∨ nx = 1 ∨ nx = 2 ∨ nx = 3 ∨ nx = 4 ∨ nx = 5 ∨ nx = 6 ∨ nx = 7 by omega) with rfl | rfl | rfl | rfl | rfl | rfl | rfl | rfl
  · have e : f_X7_copyTeam N (R 7) T = some T1 := e
    rw [if_neg (by decide), if_neg (by decide), if_neg (by decide), if_neg (by decide), if_neg (by decide), if_neg (by decide), if_neg (by decide), if_neg (by decide), if_pos (by decide), e]
    rfl
  · have e : f_X7_copyTeam N (R 0) T = some T1 := e
    rw [if_neg (by decide), if_pos (by decide), e]
    rfl
  · have e : f_X7_copyTeam N (R 1) T = some T1 := e
    rw [if_neg (by decide), if_neg (by decide), if_pos (by decide), e]
    rfl
  · have e : f_X7_copyTeam N (R 2) T = some T1 := e
    rw [if_neg (by decide), if_neg (by decide), if_neg (by decide), if_pos (by decide), e]
    rfl
  · have e : f_X7_copyTeam N (R 3) T = some T1 := e
    rw [if_neg (by decide), if_neg (by decide), if_neg (by decide), if_neg (by decide), if_pos (by decide), e]
    rfl
  · have e : f_X7_copyTeam N (R 4) T = some T1 := e
    rw [if_neg (by decide), if_neg (by decide), if_neg (by decide), if_neg (by decide), if_neg (by decide), if_pos (by decide), e]
    rfl
  · have e : f_X7_copyTeam N (R 5) T = some T1 := e
    rw [if_neg (by decide), if_neg (by decide), if_neg (by decide), if_neg (by decide), if_neg (by decide), if_neg (by decide), if_pos (by decide), e]
    rfl
  · have e : f_X7_copyTeam N (R 6) T = some T1 := e
    rw [if_neg (by decide), if_neg (by decide), if_neg (by decide), if_neg (by decide), if_neg (by decide), if_neg (by decide), if_neg (by decide), if_pos (by decide), e]
    rfl
/-- the model's notes -/
theorem fill_m {N : Nat} (hN : 8000 ≤ N) {A : Nat → Nat → Int32} {B : Nat → Int32} {un : Nat} (hun : un ≤ 7) (hB : B 9 = nI un) : jw X8_notes_s46 N ((0 : Int32), (A, B)) = some (va_up A 6 (fillG (A 6) (8 * un) (A 5) 8), B) := by
  refine jw_F (fun j => (nI j, (va_up A 6 (fillG (A 6) (8 * un) (A 5) j), B))) 8 (by omega) ?_ ?_ ?_
  · show _ = (nI 0, (va_up A 6 (A 6), B))
    rw [va_id]
    rfl
  · intro j hj
    unfold X8_notes_s46
    dsimp only
    simp only [hB, show (8 : Int32) * nI un = nI (8 * un) from pk_mul 8 un, nI_add, if_neg (lt_lit (k := 8) 8 rfl hj (by omega)), if_neg (njo hj (by omega)), if_neg (njo (show 8 * un + j < 64 by omega) (by omega)), nI_clamp (show j < 2 ^ 31 by omega), nI_clamp (show 8 * un + j < 2 ^ 31 by omega), bx_uu, ea1, fillG]
    rfl
  · rfl
def shG (f : Nat → Int32) (j : Nat) : Nat → Int32 := fun p => if p < j then f (p + 8) else f p
theorem shG_0 (f : Nat → Int32) : shG f 0 = f := by
  funext p
  unfold shG
  rw [if_neg (by omega)]
theorem shG_s (f : Nat → Int32) (j : Nat) : upd (shG f j) j (shG f j (j + 8)) = shG f (j + 1) := by
  funext p
  by_cases h : p = j
  · rw [h, pk_us]
    unfold shG
    rw [if_neg (by omega), if_pos (by omega)]
  · rw [pk_un h]
    unfold shG
    by_cases h1 : p < j
    · rw [if_pos h1, if_pos (by omega)]
    · rw [if_neg h1, if_neg (by omega)]
theorem shift_m {N : Nat} (hN : 8000 ≤ N) {A : Nat → Nat → Int32} {B : Nat → Int32} : jw X8_notes_s11 N ((0 : Int32), (A, B)) = some (va_up A 6 (shG (A 6) 56), B) := by
  refine jw_F (fun j => (nI j, (va_up A 6 (shG (A 6) j), B))) 56 (by omega) ?_ ?_ ?_
  · show _ = (nI 0, (va_up A 6 (shG (A 6) 0), B))
    rw [shG_0, va_id]
    rfl
  · intro j hj
    unfold X8_notes_s11
    dsimp only
    rw [show nI j + (8 : Int32) = nI (j + 8) from nI_add j 8, if_neg (lt_lit (k := 56) 56 rfl hj (by omega)), if_neg (njo (show j + 8 < 64 by omega) (by omega)), if_neg (njo (show j < 64 by omega) (by omega)), nI_clamp (by omega), nI_clamp (by omega), bx_uu, ea1]
    show some (Sum.inl (nI (j + 1), va_up A 6 (upd (shG (A 6) j) j (shG (A 6) j (j + 8))), B)) = _
    rw [shG_s]
  · rfl
theorem notes_m {N : Nat} (hN : 8000 ≤ N) {M : Mo} {un : Nat} (hun : un ≤ 8) (hB : M.2 9 = nI un) : f_X8_notes N M = some (va_up M.1 6 (fillG (if un = 8 then shG (M.1 6) 56 else M.1 6) (8 * (min 8 (un + 1) - 1)) (M.1 5) 8), va_up M.2 9 (nI (min 8 (un + 1)))) := by
  unfold f_X8_notes
  rw [hB]
  by_cases h : un = 8
  · subst h
    rw [if_pos (show nI 8 = (8 : Int32) from rfl), if_pos rfl, show M = (M.1, M.2) from rfl, shift_m hN]
    simp only [Option.bind_some]
    rw [fill_m hN (un := 7) (by omega) rfl]
    simp only [Option.bind_some]
    rw [bx_uu, bx_uu]
    rfl
  · rw [if_neg (show ¬ nI un = (8 : Int32) from fun e => h ((nI_eq (b := 8) (by omega) (by omega)).mp e)), if_neg h, show min 8 (un + 1) = un + 1 by omega, show M = (M.1, M.2) from rfl]
    simp only [Option.bind_some]
    rw [fill_m hN (un := un) (by omega) hB]
    simp only [Option.bind_some]
    rw [hB, ea1]
    rfl
/-- what is noted on both sides -/
theorem RU_note {N : Nat} (hN : 8000 ≤ N) {H : Nat → Nat → Nat} {u T M : Mo} {R : Nat → Mo} {t : Nat → Nat} (hU : RU H u R (M.1 6) (M.2 9)) (hT : TI H t) (ht : RTc T t) (hs : RTm (M.1 5) 0 t) : ∃ (u1 : Mo) (R1 : Nat → Mo) (f1 : Nat → Int32) (x1 : Int32), f_X6_remember N u R T = some (u1, R1) ∧ f_X8_notes N M = some (va_up M.1 6 f1, va_up M.2 9 x1) ∧ RU H u1 R1 f1 x1 := by
  obtain ⟨un, nx, a, hun, hnx, u0, u1, ux, ua⟩ := hU
  obtain ⟨T1, e, hT1⟩ := rem_c hN (R := R) hun hnx u0 u1 hT.2.2.1 ht
  refine ⟨_, _, _, _, e, notes_m hN hun ux, ?_⟩
  by_cases h8 : un = 8
  · subst h8
    rw [if_pos rfl]
    refine ⟨8, (nx + 1) % 8, fun i => if i = 7 then t else a (i + 1), by omega, by omega, rfl, rfl, rfl, fun i hi => ?_⟩
    by_cases h7 : i = 7
    · subst h7
      dsimp only
      rw [if_pos rfl, show ((nx + 1) % 8 + 8 - 8 + 7) % 8 = nx by omega]
      refine ⟨hT, by show RTc (va_up R nx T1 nx) t; rw [va_up, if_pos rfl]; exact hT1, fun j hj => ?_⟩
      rw [show 8 * 7 + j = 8 * (min 8 (8 + 1) - 1) + j by omega, fill_in _ _ _ 8 j hj]
      have := hs j hj
      rwa [Nat.zero_add] at this
    · dsimp only
      rw [if_neg h7]
      obtain ⟨b1, b2, b3⟩ := ua (i + 1) (by omega)
      refine ⟨b1, ?_, fun j hj => ?_⟩
      · have e1 : ((nx + 1) % 8 + 8 - 8 + i) % 8 = (nx + 8 - 8 + (i + 1)) % 8 := by omega
        rw [e1, va_up, if_neg (by omega)]
        exact b2
      · rw [fill_out _ _ _ 8 _ (by omega)]
        show shG (M.1 6) 56 _ = _
        unfold shG
        rw [if_pos (by omega), show 8 * i + j + 8 = 8 * (i + 1) + j by omega]
        exact b3 j hj
  · rw [if_neg h8, show min 8 (un + 1) = un + 1 by omega]
    refine ⟨un + 1, (nx + 1) % 8, fun i => if i = un then t else a i, by omega, by omega, rfl, rfl, rfl, fun i hi => ?_⟩
    by_cases h7 : i = un
    · subst h7
      dsimp only
      rw [if_pos rfl, show ((nx + 1) % 8 + 8 - (i + 1) + i) % 8 = nx by omega]
      refine ⟨hT, by show RTc (va_up R nx T1 nx) t; rw [va_up, if_pos rfl]; exact hT1, fun j hj => ?_⟩
      rw [show 8 * i + j = 8 * (i + 1 - 1) + j by omega, fill_in _ _ _ 8 j hj]
      have := hs j hj
      rwa [Nat.zero_add] at this
    · dsimp only
      rw [if_neg h7]
      obtain ⟨b1, b2, b3⟩ := ua i (by omega)
      refine ⟨b1, ?_, fun j hj => ?_⟩
      · have e1 : ((nx + 1) % 8 + 8 - (un + 1) + i) % 8 = (nx + 8 - un + i) % 8 := by omega
        rw [e1, va_up, if_neg (by omega)]
        exact b2
      · rw [fill_out _ _ _ 8 _ (by omega)]
        exact b3 j hj

theorem or_mk {p : Nat → Bool} {j : Nat} (hj : j < 6) : nI (mk p j) ||| (if p j = true then (1 : Int32) <<< (nI j &&& 31) else 0) = nI (mk p (j + 1)) := by
  have hl : mk p j < 64 := Nat.lt_of_lt_of_le (mk_lt p j) (two6 (by omega))
  rw [mk]
  by_cases h : p j = true
  · rw [if_pos h, if_pos h, or_i _ hl j hj]
  · rw [if_neg h, if_neg h, Nat.or_zero]
    exact Int32.or_zero
theorem va5 {α : Type} (g : Nat → α) (a b c d a1 b1 c1 d1 : α) : va_up (va_up (va_up (va_up (va_up (va_up (va_up (va_up g 1 a) 2 b) 3 c) 4 d) 1 a1) 2 b1) 3 c1) 4 d1 = va_up (va_up (va_up (va_up g 1 a1) 2 b1) 3 c1) 4 d1 := by
  funext i
  unfold va_up
  by_cases i4 : i = 4
  · simp only [i4, ↓reduceIte]
  · by_cases i3 : i = 3
    · simp only [if_neg i4, if_pos i3]
    · by_cases i2 : i = 2
      · simp only [if_neg i4, if_neg i3, if_pos i2]
      · by_cases i1 : i = 1
        · simp only [if_neg i4, if_neg i3, if_neg i2, if_pos i1]
        · simp only [if_neg i4, if_neg i3, if_neg i2, if_neg i1]
def pl (H : Nat → Nat → Nat) (f : Nat) : Nat := f * 10 ^ H 8 1
def gl (H : Nat → Nat → Nat) (f : Nat) : Nat := (f + H 8 3) * 10 ^ H 8 1
def mb1 (H : Nat → Nat → Nat) (f m : Nat) : Bool := decide (dr H m ≤ pl H f)
def mb2 (H : Nat → Nat → Nat) (f m : Nat) : Bool := decide (pl H f ≤ dr H m)
def mb3 (H : Nat → Nat → Nat) (f m : Nat) : Bool := decide (dr H m ≤ gl H f)
def mb4 (H : Nat → Nat → Nat) (f m : Nat) : Bool := decide (dr H m < gl H f)
theorem pl_lt {H : Nat → Nat → Nat} (hI : HI H) {f : Nat} (hf : f < 100) : pl H f < 2 ^ 31 ∧ gl H f < 2 ^ 31 := by
  have tl := ten_le hI.2.1
  have h99 := hI.2.2.2.1
  have t1 : f * 10 ^ H 8 1 ≤ 99 * 100000 := Nat.mul_le_mul (by omega) tl
  have t2 : (f + H 8 3) * 10 ^ H 8 1 ≤ 198 * 100000 := Nat.mul_le_mul (by omega) tl
  unfold pl gl
  omega
theorem sel {c : Prop} [Decidable c] {b : Bool} {x : Int32} (h : b = true ↔ ¬ c) : (if c then some (0 : Int32) else some x) = some (if b = true then x else 0) := by
  by_cases hc : c
  · rw [if_pos hc, if_neg (fun e => (h.mp e) hc)]
  · rw [if_neg hc, if_pos (h.mpr hc)]
def weighed (H : Nat → Nat → Nat) (f j : Nat) (g : Nat → Int32) : Nat → Int32 := va_up (va_up (va_up (va_up g 1 (nI (mk (mb1 H f) j))) 2 (nI (mk (mb2 H f) j))) 3 (nI (mk (mb3 H f) j))) 4 (nI (mk (mb4 H f) j))
theorem weigh_c {N : Nat} (hN : 8000 ≤ N) {H : Nat → Nat → Nat} {h O : Mo} (hI : HI H) (hh : RHc h H) {f : Nat} (hf : f < 100) (a2 : Int32) : f_X1_weigh N a2 (nI f) O h = some (O.1, weighed H f (H 8 0) (va_up O.2 0 a2)) := by
  have h6 := hI.1
  have h5 := hI.2.1
  have h99 := hI.2.2.2.1
  obtain ⟨lp, lg⟩ := pl_lt hI hf
  have c0 : h.2 0 = nI (H 8 0) := hh.1 0 (by omega)
  have c1 : h.2 1 = nI (H 8 1) := hh.1 1 (by omega)
  have c3 : h.2 3 = nI (H 8 3) := hh.1 3 (by omega)
  unfold f_X1_weigh
  rw [c1, ten_c hN (by omega)]
  simp only [Option.bind_some]
  rw [jw_F (s := ((0 : Int32), (O.1, va_up (va_up (va_up (va_up (va_up O.2 0 a2) 1 (0 : Int32)) 2 (0 : Int32)) 3 (0 : Int32)) 4 (0 : Int32)))) (n := N) (fun j => (nI j, (O.1, weighed H f j (va_up O.2 0 a2)))) (H 8 0) (r := (O.1, weighed H f (H 8 0) (va_up O.2 0 a2))) (by omega) rfl]
  · rfl
  · intro j hj
    have hdr := dr_le hI j
    unfold X1_weigh_s56
    dsimp only
    simp only [c0, if_neg (nI_ge hj (show H 8 0 < 2 ^ 31 by omega)), dr_c hN hI hh hj, Option.bind_some, c3, nI_add, nI_l (show f < 2 ^ 31 by omega), nI_l (show f + H 8 3 < 2 ^ 31 by omega), lN_mul, show f * 10 ^ H 8 1 = pl H f from rfl, show (f + H 8 3) * 10 ^ H 8 1 = gl H f from rfl]
    have e1 : (if lN (pl H f) < lN (dr H j) then some (0 : Int32) else some ((1 : Int32) <<< (nI j &&& 31))) = some (if mb1 H f j = true then (1 : Int32) <<< (nI j &&& 31) else 0) := sel (by rw [pk_lLT (show pl H f < 2 ^ 63 by omega) (show dr H j < 2 ^ 63 by omega)]; unfold mb1; rw [decide_eq_true_iff]; exact Nat.not_lt.symm)
    have e2 : (if lN (dr H j) < lN (pl H f) then some (0 : Int32) else some ((1 : Int32) <<< (nI j &&& 31))) = some (if mb2 H f j = true then (1 : Int32) <<< (nI j &&& 31) else 0) := sel (by rw [pk_lLT (show dr H j < 2 ^ 63 by omega) (show pl H f < 2 ^ 63 by omega)]; unfold mb2; rw [decide_eq_true_iff]; exact Nat.not_lt.symm)
    have e3 : (if lN (gl H f) < lN (dr H j) then some (0 : Int32) else some ((1 : Int32) <<< (nI j &&& 31))) = some (if mb3 H f j = true then (1 : Int32) <<< (nI j &&& 31) else 0) := sel (by rw [pk_lLT (show gl H f < 2 ^ 63 by omega) (show dr H j < 2 ^ 63 by omega)]; unfold mb3; rw [decide_eq_true_iff]; exact Nat.not_lt.symm)
    have e4 : (if lN (gl H f) ≤ lN (dr H j) then some (0 : Int32) else some ((1 : Int32) <<< (nI j &&& 31))) = some (if mb4 H f j = true then (1 : Int32) <<< (nI j &&& 31) else 0) := sel (by rw [pk_lLE (show gl H f < 2 ^ 63 by omega) (show dr H j < 2 ^ 63 by omega)]; unfold mb4; rw [decide_eq_true_iff]; exact Nat.not_le.symm)
    rw [e1, e2, e3, e4]
    simp only [Option.bind_some, ea1]
    show some (Sum.inl (nI (j + 1), (O.1, va_up (va_up (va_up (va_up (weighed H f j (va_up O.2 0 a2)) 1 (nI (mk (mb1 H f) j) ||| _)) 2 (nI (mk (mb2 H f) j) ||| _)) 3 (nI (mk (mb3 H f) j) ||| _)) 4 (nI (mk (mb4 H f) j) ||| _)))) = _
    rw [or_mk (show j < 6 by omega), or_mk (show j < 6 by omega), or_mk (show j < 6 by omega), or_mk (show j < 6 by omega)]
    unfold weighed
    rw [va5]
  · unfold X1_weigh_s56
    dsimp only
    rw [c0, if_pos (nI_le (Nat.le_refl _) (by omega))]
def subL (t : Nat → Nat) (S : Nat) : Prop := ∀ i, i < 6 → S.testBit i = true → (t 1).testBit i = true
theorem mk_y {p : Nat → Bool} {n i : Nat} : (mk p n).testBit i = true ↔ i < n ∧ p i = true := by
  rw [mk_b, Bool.and_eq_true, decide_eq_true_iff]
theorem ar_c {H : Nat → Nat → Nat} {t : Nat → Nat} {O : Mo} {g : Nat → Int32} {A : Nat → Nat → Int32} (hI : HI H) (hT : TI H t) {f S : Nat} (hS : S < 64) (hO : O = (A, weighed H f (H 8 0) (va_up g 0 (nI (t 1))))) : (subL t S ∧ rest H t f S → f_X1_isAtRest (nI S) O = some 1) ∧ (¬ (subL t S ∧ rest H t f S) → f_X1_isAtRest (nI S) O = some 0) := by
  have h6 := hI.1
  have hL := liv_lt hI hT
  have hLn : ∀ i, (t 1).testBit i = true → i < H 8 0 := fun i hi => by
    rcases Nat.lt_or_ge i (H 8 0) with c | c
    · exact c
    · rw [Nat.testBit_lt_two_pow (Nat.lt_of_lt_of_le hT.2.1 (Nat.pow_le_pow_right (by omega) c))] at hi
      exact absurd hi (by decide)
  have o0 : O.2 0 = nI (t 1) := by rw [hO]; rfl
  have o1 : O.2 1 = nI (mk (mb1 H f) (H 8 0)) := by rw [hO]; rfl
  have o2 : O.2 2 = nI (mk (mb2 H f) (H 8 0)) := by rw [hO]; rfl
  have o3 : O.2 3 = nI (mk (mb3 H f) (H 8 0)) := by rw [hO]; rfl
  have o4 : O.2 4 = nI (mk (mb4 H f) (H 8 0)) := by rw [hO]; rfl
  have ml : ∀ p, mk p (H 8 0) < 64 := fun p => Nat.lt_of_lt_of_le (mk_lt p _) (two6 h6)
  unfold f_X1_isAtRest
  rw [o0, o1, o2, o3, o4]
  by_cases hsub : subL t S
  case neg =>
    rw [if_neg (fun c => hsub ((sub_i hS hL).mp c))]
    exact ⟨fun c => absurd c.1 hsub, fun _ => rfl⟩
  rw [if_pos ((sub_i hS hL).mpr hsub)]
  by_cases hz : S = 0
  · subst hz
    rw [if_pos (show nI 0 = (0 : Int32) from rfl)]
    have key : (nI (t 1) &&& nI (mk (mb4 H f) (H 8 0)) = (0 : Int32)) ↔ rest H t f 0 := by
      rw [no_i hL (ml _)]
      have hc : ∀ m, clr 0 m = 0 := fun m => by unfold clr; rw [if_neg (by rw [Nat.zero_testBit]; decide)]
      constructor
      · intro h m hm hl
        refine ⟨fun c => absurd c (by rw [Nat.zero_testBit]; decide), fun _ => ?_⟩
        have := h m (by omega) hl
        unfold rsum
        rw [if_pos (hc m)]
        exact Nat.not_lt.mp (fun c => this (mk_y.mpr ⟨hm, decide_eq_true c⟩))
      · intro h i hi hl c
        have c2 := (mk_y.mp c)
        have := (h i c2.1 hl).2 (by rw [Nat.zero_testBit]; decide)
        unfold rsum at this
        rw [if_pos (hc i)] at this
        have c3 : dr H i < gl H f := of_decide_eq_true c2.2
        unfold gl at c3
        omega
    by_cases hr : rest H t f 0
    · rw [if_pos (key.mpr hr)]
      exact ⟨fun _ => rfl, fun c => absurd ⟨hsub, hr⟩ c⟩
    · rw [if_neg (fun c => hr (key.mp c))]
      exact ⟨fun c => absurd c.2 hr, fun _ => rfl⟩
  rw [if_neg (fun c => hz ((nIz hS).mp c)), bc_c S hS]
  obtain ⟨V, hV, hV2⟩ : ∃ V, (if nI (pop S) = (1 : Int32) then some (nI (mk (mb3 H f) (H 8 0))) else some (nI (mk (mb1 H f) (H 8 0)))) = some (nI (mk (fun m => decide (dr H m ≤ V)) (H 8 0))) ∧ ∀ m, m < H 8 0 → S.testBit m = true → rsum H f S m = V := by
    by_cases h1 : nI (pop S) = (1 : Int32)
    · refine ⟨gl H f, if_pos h1, fun m hm hb => ?_⟩
      unfold rsum
      rw [if_pos ((pop_1 S hS m (by omega) hb).mp h1)]
      rfl
    · refine ⟨pl H f, if_neg h1, fun m hm hb => ?_⟩
      unfold rsum
      rw [if_neg (fun c => h1 ((pop_1 S hS m (by omega) hb).mpr c))]
      rfl
  simp only [Option.bind_some]
  rw [hV]
  simp only [Option.bind_some, andn_i _ hL S hS, sub_i (andn_lt (b := S) hL) (ml (mb2 H f)), sub_i hS (ml (fun m => decide (dr H m ≤ V)))]
  have hout : ∀ m, ¬ S.testBit m = true → rsum H f S m = pl H f := fun m hb => by
    unfold rsum
    rw [if_neg]
    · rfl
    · unfold clr
      rw [if_neg hb]
      exact hz
  have key : ((∀ i, i < 6 → (andn (t 1) S).testBit i = true → (mk (mb2 H f) (H 8 0)).testBit i = true) ∧ (∀ i, i < 6 → S.testBit i = true → (mk (fun m => decide (dr H m ≤ V)) (H 8 0)).testBit i = true)) ↔ rest H t f S := by
    constructor
    · rintro ⟨g1, g2⟩ m hm hl
      refine ⟨fun hb => ?_, fun hb => ?_⟩
      · rw [hV2 m hm hb]
        exact of_decide_eq_true (mk_y.mp (g2 m (by omega) hb)).2
      · rw [hout m hb]
        refine of_decide_eq_true (mk_y.mp (g1 m (by omega) ?_)).2
        rw [andn_b (by omega), hl]
        cases hs : S.testBit m
        · rfl
        · exact absurd hs hb
    · intro h
      refine ⟨fun i hi c => ?_, fun i hi hb => ?_⟩
      · rw [andn_b hi, Bool.and_eq_true] at c
        have hn := hLn i c.1
        have hb : ¬ S.testBit i = true := fun e => by rw [e] at c; exact absurd c.2 (by decide)
        have := (h i hn c.1).2 hb
        rw [hout i hb] at this
        exact mk_y.mpr ⟨hn, decide_eq_true this⟩
      · have hl := hsub i hi hb
        have hn := hLn i hl
        have := (h i hn hl).1 hb
        rw [hV2 i hn hb] at this
        exact mk_y.mpr ⟨hn, decide_eq_true this⟩
  by_cases hr : rest H t f S
  · have k := key.mpr hr
    rw [if_pos k.1, if_pos k.2]
    exact ⟨fun _ => rfl, fun c => absurd ⟨hsub, hr⟩ c⟩
  · refine ⟨fun c => absurd c.2 hr, fun _ => ?_⟩
    by_cases g1 : ∀ i, i < 6 → (andn (t 1) S).testBit i = true → (mk (mb2 H f) (H 8 0)).testBit i = true
    · rw [if_pos g1, if_neg (fun g2 => hr (key.mp ⟨g1, g2⟩))]
    · rw [if_neg g1]

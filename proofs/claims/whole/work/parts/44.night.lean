/-! PURE: a night. -/
def clr (L d : Nat) : Nat := if L.testBit d = true then L - 2 ^ d else L
theorem clr_i : ∀ L, L < 64 → ∀ d, d < 6 → nI L &&& (((1 : Int32) <<< (nI d &&& 31)) ^^^ (-1)) = nI (clr L d) := by decide +kernel
theorem clr_b : ∀ L, L < 64 → ∀ d, d < 6 → ∀ i, i < 6 → (clr L d).testBit i = (L.testBit i && decide (i ≠ d)) := by decide +kernel
theorem clr_le (L d : Nat) : clr L d ≤ L := by
  unfold clr
  split
  · exact Nat.sub_le _ _
  · exact Nat.le_refl _
/-- the team without one who is caught, a night later -/
def lost (t : Nat → Nat) (d : Nat) : Nat → Nat := fun j => if j = 0 then t 0 + 1 else if j = 1 then clr (t 1) d else if j = 2 then t 2 else if t j = d + 1 then 0 else t j
theorem lost_TI {H : Nat → Nat → Nat} {t : Nat → Nat} {d : Nat} (hI : HI H) (hT : TI H t) (hn : t 0 < 999) (hd : d < H 8 0) : TI H (lost t d) := by
  have h6 := hI.1
  have hL := liv_lt hI hT
  refine ⟨by show t 0 + 1 ≤ 999; omega, Nat.lt_of_le_of_lt (clr_le (t 1) d) hT.2.1, hT.2.2.1, fun k hk => ?_⟩
  obtain ⟨b1, b2, b3⟩ := hT.2.2.2 k hk
  have e : lost t d (3 + k) = if t (3 + k) = d + 1 then 0 else t (3 + k) := by
    unfold lost
    rw [if_neg (by omega), if_neg (by omega), if_neg (by omega)]
  have e1 : lost t d 1 = clr (t 1) d := rfl
  rw [e, e1]
  by_cases h : t (3 + k) = d + 1
  · rw [if_pos h]
    exact ⟨by omega, fun _ => rfl, fun x hx => by omega⟩
  · rw [if_neg h]
    refine ⟨b1, b2, fun x hx => ?_⟩
    rw [clr_b _ hL d (by omega) x (by omega), b3 x hx, decide_eq_true (by omega)]
    rfl
/-- the bell is on, a night later -/
def rung (t : Nat → Nat) : Nat → Nat := fun j => if j = 0 then t 0 + 1 else if j = 2 then 1 else t j
theorem rung_TI {H : Nat → Nat → Nat} {t : Nat → Nat} (hT : TI H t) (hn : t 0 < 999) : TI H (rung t) := by
  refine ⟨by show t 0 + 1 ≤ 999; omega, hT.2.1, Nat.le_refl 1, fun k hk => ?_⟩
  have e : rung t (3 + k) = t (3 + k) := by
    unfold rung
    rw [if_neg (by omega), if_neg (by omega)]
  rw [e]
  exact hT.2.2.2 k hk
/-- the class: who is taken out of the row -/
def lsG (f : Nat → Int32) (v w : Int32) (o j : Nat) : Nat → Int32 := fun p => if o ≤ p ∧ p < o + j ∧ f p = v then w else f p
theorem lsG_0 (f : Nat → Int32) (v w : Int32) (o : Nat) : lsG f v w o 0 = f := by
  funext p
  unfold lsG
  rw [if_neg (by omega)]
theorem lsG_y {f : Nat → Int32} {v w : Int32} {o j : Nat} (h : f (o + j) = v) : upd (lsG f v w o j) (o + j) w = lsG f v w o (j + 1) := by
  funext p
  by_cases hp : p = o + j
  · rw [hp, pk_us]
    unfold lsG
    rw [if_pos ⟨by omega, by omega, h⟩]
  · rw [pk_un hp]
    unfold lsG
    by_cases h1 : o ≤ p ∧ p < o + j ∧ f p = v
    · rw [if_pos h1, if_pos ⟨h1.1, by omega, h1.2.2⟩]
    · rw [if_neg h1, if_neg (fun c => h1 ⟨c.1, by omega, c.2.2⟩)]
theorem lsG_n {f : Nat → Int32} {v w : Int32} {o j : Nat} (h : ¬ f (o + j) = v) : lsG f v w o (j + 1) = lsG f v w o j := by
  funext p
  unfold lsG
  by_cases h1 : o ≤ p ∧ p < o + j ∧ f p = v
  · rw [if_pos h1, if_pos ⟨h1.1, by omega, h1.2.2⟩]
  · have q : ¬ (o ≤ p ∧ p < o + (j + 1) ∧ f p = v) := fun c => by
      rcases Nat.lt_or_ge p (o + j) with g | g
      · exact h1 ⟨c.1, g, c.2.2⟩
      · exact h ((show p = o + j by omega) ▸ c.2.2)
    rw [if_neg h1, if_neg q]
theorem lsG_at (f : Nat → Int32) (v w : Int32) (o j : Nat) : lsG f v w o j (o + j) = f (o + j) := by
  unfold lsG
  rw [if_neg (by omega)]
theorem los_c {N : Nat} (hN : 8000 ≤ N) {A : Nat → Nat → Int32} {B : Nat → Int32} {v : Int32} : jw (X4_lose_s25 v) N ((0 : Int32), (A, B)) = some (va_up A 0 (lsG (A 0) v (-1) 0 5), B) := by
  refine jw_F (fun j => (nI j, (va_up A 0 (lsG (A 0) v (-1) 0 j), B))) 5 (by omega) ?_ ?_ ?_
  · show _ = (nI 0, (va_up A 0 (lsG (A 0) v (-1) 0 0), B))
    rw [lsG_0, va_id]
    rfl
  · intro j hj
    have e0 : lsG (A 0) v (-1) 0 j j = A 0 j := by have := lsG_at (A 0) v (-1) 0 j; rwa [Nat.zero_add] at this
    unfold X4_lose_s25
    dsimp only
    simp only [if_neg (lt_lit (k := 5) 5 rfl hj (by omega)), if_neg (njo hj (by omega)), nI_clamp (show j < 2 ^ 31 by omega), show va_up A 0 (lsG (A 0) v (-1) 0 j) 0 j = A 0 j from e0]
    by_cases h : A 0 j = v
    · rw [if_pos h]
      simp only [Option.bind_some, ea1, bx_uu]
      have := lsG_y (f := A 0) (v := v) (w := -1) (o := 0) (j := j) (by rw [Nat.zero_add]; exact h)
      rw [Nat.zero_add] at this
      rw [← this]
      rfl
    · rw [if_neg h, lsG_n (by rw [Nat.zero_add]; exact h)]
      simp only [Option.bind_some, ea1]
  · rfl
theorem lose_c {N : Nat} (hN : 8000 ≤ N) {H : Nat → Nat → Nat} {t : Nat → Nat} {T : Mo} (hI : HI H) (hT : TI H t) (ht : RTc T t) {d : Nat} (hd : d < H 8 0) (hl : (t 1).testBit d = true) : ∃ T1, f_X4_lose N (nI d) T = some T1 ∧ T1.2 0 = nI (t 0) ∧ T1.2 1 = nI (clr (t 1) d) ∧ T1.2 2 = nI (t 2) ∧ ∀ k, k < 5 → T1.1 0 k = nI (if t (3 + k) = d + 1 then 0 else t (3 + k)) - 1 := by
  have h6 := hI.1
  refine ⟨(va_up T.1 0 (lsG (T.1 0) (nI d) (-1) 0 5), va_up T.2 1 (nI (clr (t 1) d))), ?_, ht.1, rfl, ht.2.2.1, fun k hk => ?_⟩
  · unfold f_X4_lose
    rw [li_c hI hT ht hd, liv1 hl, ht.2.1, clr_i _ (liv_lt hI hT) d (by omega)]
    simp only [Option.bind_some, oz, ↓reduceIte, los_c hN]
  · show lsG (T.1 0) (nI d) (-1) 0 5 k = _
    have hb := (hT.2.2.2 k hk).1
    unfold lsG
    rw [ht.2.2.2 k hk]
    by_cases h : t (3 + k) = d + 1
    · rw [if_pos ⟨by omega, by omega, (pred_eq (by omega) (by omega)).mpr h⟩, if_pos h]
      rfl
    · rw [if_neg (fun c => h ((pred_eq (by omega) (by omega)).mp c.2.2)), if_neg h]
/-- what is drawn -/
def dv (z k : Int32) : Int32 := (f_X7_drawOf z k).getD 0
theorem dv_c (z k : Int32) : f_X7_drawOf z k = some (dv z k) := rfl
theorem dv_m (z k : Int32) (M : Mo) : f_X8_drawOf z k M = some (dv z k) := rfl
def cgt (H : Nat → Nat → Nat) (t : Nat → Nat) (z : Int32) (j : Nat) : Prop := ¬ nI (dg H j (t (3 + j) - 1)) ≤ dv z (nI j)
theorem cb_step {H : Nat → Nat → Nat} {t : Nat → Nat} {X : BX} (hI : HI H) (hh : RHc (X.1 1) H) (hT : TI H t) (ht : RTc (X.1 3) t) (hw : whole H t) (z : Int32) {j : Nat} (hj : j < H 8 1) : (¬ cgt H t z j → X7_caughtBy_s2 z X (nI j) = some (.inl (nI (j + 1)))) ∧ (cgt H t z j → X7_caughtBy_s2 z X (nI j) = some (.inr (.inr (nI (t (3 + j) - 1))))) := by
  have h5 := hI.2.1
  have h0 := hw j hj
  have hle := (hT.2.2.2 j (by omega)).1
  have c1 : (X.1 1).2 1 = nI (H 8 1) := hh.1 1 (by omega)
  have e : X7_caughtBy_s2 z X (nI j) = if nI (dg H j (t (3 + j) - 1)) ≤ dv z (nI j) then some (.inl (nI (j + 1))) else some (.inr (.inr (nI (t (3 + j) - 1)))) := by
    unfold X7_caughtBy_s2
    rw [c1, if_neg (nI_ge hj (by omega)), do_c ht (by omega), dp h0]
    simp only [Option.bind_some, dv_c]
    rw [dAt_c hI hh hj (by omega)]
    simp only [Option.bind_some, ea1]
  rw [e]
  exact ⟨fun h => if_pos (Classical.not_not.mp h), fun h => if_neg h⟩
theorem cb_no {N : Nat} (hN : 8000 ≤ N) {H : Nat → Nat → Nat} {t : Nat → Nat} {X : BX} (hI : HI H) (hh : RHc (X.1 1) H) (hT : TI H t) (ht : RTc (X.1 3) t) (hw : whole H t) (z : Int32) (hn : ∀ j, j < H 8 1 → ¬ cgt H t z j) : f_X7_caughtBy N z X = some (-1) := by
  have h5 := hI.2.1
  have c1 : (X.1 1).2 1 = nI (H 8 1) := hh.1 1 (by omega)
  unfold f_X7_caughtBy
  rw [jw_F (s := (0 : Int32)) (n := N) (fun j => nI j) (H 8 1) (r := .inl ()) (by omega) rfl (fun j hj => (cb_step hI hh hT ht hw z hj).1 (hn j hj))]
  · rfl
  · unfold X7_caughtBy_s2
    rw [c1, if_pos (nI_le (Nat.le_refl _) (by omega))]
theorem cb_yes {N : Nat} (hN : 8000 ≤ N) {H : Nat → Nat → Nat} {t : Nat → Nat} {X : BX} (hI : HI H) (hh : RHc (X.1 1) H) (hT : TI H t) (ht : RTc (X.1 3) t) (hw : whole H t) (z : Int32) {k : Nat} (hk : k < H 8 1) (hc : cgt H t z k) (hn : ∀ j, j < k → ¬ cgt H t z j) : f_X7_caughtBy N z X = some (nI (t (3 + k) - 1)) := by
  have h5 := hI.2.1
  unfold f_X7_caughtBy
  rw [jw_F (s := (0 : Int32)) (n := N) (fun j => nI j) k (r := .inr (nI (t (3 + k) - 1))) (by omega) rfl (fun j hj => (cb_step hI hh hT ht hw z (show j < H 8 1 by omega)).1 (hn j hj)) ((cb_step hI hh hT ht hw z hk).2 hc)]
  rfl
/-- the model -/
theorem ni_in {N : Nat} (hN : 8000 ≤ N) {A C : Nat → Nat → Int32} {B B2 : Nat → Int32} {k : Nat} {v : Int32} (hk : k < 5) (hv : (upd (A 5) 0 (A 5 0 + 1)) (3 + k) - 1 + 1 = v) : jw (X8_night_s123 (A, B) (nI k)) N ((0 : Int32), (C, B2)) = some (va_up C 5 (lsG (C 5) v 0 3 5), B2) := by
  refine jw_F (fun j => (nI j, (va_up C 5 (lsG (C 5) v 0 3 j), B2))) 5 (by omega) ?_ ?_ ?_
  · show _ = (nI 0, (va_up C 5 (lsG (C 5) v 0 3 0), B2))
    rw [lsG_0, va_id]
    rfl
  · intro j hj
    unfold X8_night_s123
    dsimp only
    simp only [e3a, if_neg (lt_lit (k := 5) 5 rfl hj (by omega)), if_neg (njo (show 3 + j < 8 by omega) (by omega)), nI_clamp (show 3 + j < 2 ^ 31 by omega), nI_clamp (show 3 + k < 2 ^ 31 by omega), hv, show va_up C 5 (lsG (C 5) v 0 3 j) 5 (3 + j) = C 5 (3 + j) from lsG_at (C 5) v 0 3 j]
    by_cases h : C 5 (3 + j) = v
    · rw [if_pos h]
      simp only [Option.bind_some, ea1, bx_uu]
      rw [← lsG_y h]
      rfl
    · rw [if_neg h]
      simp only [Option.bind_some, ea1, bx_uu]
      rw [lsG_n h]
      have : upd (va_up C 5 (lsG (C 5) v 0 3 j) 5) (3 + j) (C 5 (3 + j)) = lsG (C 5) v 0 3 j := by
        show upd (lsG (C 5) v 0 3 j) (3 + j) (C 5 (3 + j)) = _
        funext p
        by_cases hp : p = 3 + j
        · rw [hp, pk_us, lsG_at]
        · rw [pk_un hp]
      rw [this]
  · rfl
theorem nm_step {N : Nat} (hN : 8000 ≤ N) {H : Nat → Nat → Nat} {t : Nat → Nat} {A : Nat → Nat → Int32} {B : Nat → Int32} (hI : HI H) (hm : RHm A 0 H) (hT : TI H t) (hs : RTm (A 5) 0 t) (hw : whole H t) (z : Int32) {j : Nat} (hj : j < H 8 1) : (¬ cgt H t z j → X8_night_s70 N z (A, B) (nI j) = some (.inl (nI (j + 1)))) ∧ (cgt H t z j → X8_night_s70 N z (A, B) (nI j) = some (.inr (.inr (nI (t (3 + j) - 1), (va_up A 5 (lsG (upd (upd (A 5) 0 (nI (t 0 + 1))) 1 (nI (clr (t 1) (t (3 + j) - 1)))) (nI (t (3 + j))) 0 3 5), B))))) := by
  have h5 := hI.2.1
  have h6 := hI.1
  have h0 := hw j hj
  have hle := (hT.2.2.2 j (by omega)).1
  have k1 : A 4 1 = nI (H 8 1) := hm.1 1 (by omega)
  have s0 : A 5 0 = nI (t 0) := hs 0 (by omega)
  have s1 : A 5 1 = nI (t 1) := hs 1 (by omega)
  have s3 : A 5 (3 + j) = nI (t (3 + j)) := by have := hs (3 + j) (by omega); rwa [Nat.zero_add] at this
  have u3 : upd (A 5) 0 (nI (t 0 + 1)) (3 + j) = nI (t (3 + j)) := by rw [pk_un (by omega)]; exact s3
  have u1 : upd (A 5) 0 (nI (t 0 + 1)) 1 = nI (t 1) := by rw [pk_un (by omega)]; exact s1
  have hm2 : RHm (va_up A 5 (upd (A 5) 0 (nI (t 0 + 1))), B).1 0 H := hm
  have e : X8_night_s70 N z (A, B) (nI j) = if nI (dg H j (t (3 + j) - 1)) ≤ dv z (nI j) then some (.inl (nI (j + 1))) else some (.inr (.inr (nI (t (3 + j) - 1), (va_up A 5 (lsG (upd (upd (A 5) 0 (nI (t 0 + 1))) 1 (nI (clr (t 1) (t (3 + j) - 1)))) (nI (t (3 + j))) 0 3 5), B)))) := by
    unfold X8_night_s70
    dsimp only
    simp only [k1, if_neg (nI_ge hj (show H 8 1 < 2 ^ 31 by omega)), e3a, if_neg (njo (show 3 + j < 8 by omega) (by omega)), nI_clamp (show 3 + j < 2 ^ 31 by omega), s0, ea1, u3, u1, dp h0, dv_m, dTo_m hI hm2 hj (show t (3 + j) - 1 < H 8 0 by omega), clr_i _ (liv_lt hI hT) (t (3 + j) - 1) (show t (3 + j) - 1 < 6 by omega), Option.bind_some]
    rw [ni_in hN (v := nI (t (3 + j))) (show j < 5 by omega) (by rw [s0, ea1, u3, dp h0, ea1]; congr 1; omega)]
    simp only [Option.bind_some, bx_uu]
    rfl
  rw [e]
  exact ⟨fun h => if_pos (Classical.not_not.mp h), fun h => if_neg h⟩

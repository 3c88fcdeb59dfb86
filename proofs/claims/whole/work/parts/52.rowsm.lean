theorem rows_m {N b n : Nat} (hN : 8000 ≤ N) (hn : n ≤ 5) : f_X8_rowsOf N (nI b) (nI n) = some (nI (b ^ n)) := by
  unfold f_X8_rowsOf
  rw [jw_F (s := ((1 : Int32), (0 : Int32))) (n := N) (fun j => (nI (b ^ j), nI j)) n (r := nI (b ^ n)) (by omega) rfl]
  · rfl
  · intro j hj
    unfold X8_rowsOf_s4
    dsimp only
    rw [if_neg (nI_ge hj (by omega)), pk_mul, ea1, Nat.pow_succ]
  · unfold X8_rowsOf_s4
    dsimp only
    rw [if_pos (nI_le (Nat.le_refl _) (by omega))]
theorem dig_at (b : Nat) : ∀ n w s, s < n → dig b n w s = w / b ^ (n - 1 - s) % b
  | 0, _, _, h => absurd h (by omega)
  | n + 1, w, s, h => by
    unfold dig
    by_cases e : s = n
    · rw [if_pos e, e, show n + 1 - 1 - n = 0 by omega, Nat.pow_zero, Nat.div_one]
    · rw [if_neg e, dig_at b n (w / b) s (by omega), Nat.div_div_eq_div_mul, show n + 1 - 1 - s = (n - 1 - s) + 1 by omega, Nat.pow_succ, Nat.mul_comm b]
def rowG (b n w : Nat) (f : Nat → Int32) (j : Nat) : Nat → Int32 := fun p => if n - j ≤ p ∧ p < n then nI (dig b n w p) else f p
theorem rowG_0 (b n w : Nat) (f : Nat → Int32) : rowG b n w f 0 = f := by
  funext p
  unfold rowG
  rw [if_neg (by omega)]
theorem rowG_s {b n w j : Nat} (f : Nat → Int32) (hj : j < n) : upd (rowG b n w f j) (n - j - 1) (nI (dig b n w (n - j - 1))) = rowG b n w f (j + 1) := by
  funext p
  by_cases h : p = n - j - 1
  · rw [h, pk_us]
    unfold rowG
    rw [if_pos (by omega)]
  · rw [pk_un h]
    unfold rowG
    by_cases c : n - j ≤ p ∧ p < n
    · rw [if_pos c, if_pos (by omega)]
    · rw [if_neg c, if_neg (by omega)]
theorem row_m {N : Nat} (hN : 8000 ≤ N) {b n w : Nat} (hb : b ≤ 6) (hn : n ≤ 5) (h0 : n = 0 ∨ 0 < b) (hw : w < 2 ^ 30) {A : Nat → Nat → Int32} {B : Nat → Int32} (k0 : A 4 0 = nI b) (k1 : A 4 1 = nI n) : f_X8_rowOf N (nI w) (A, B) = some (va_up A 11 (rowG b n w (A 11) n), B) := by
  unfold f_X8_rowOf
  dsimp only
  rw [k1, jw_F (s := (nI w, nI n - (1 : Int32), (A, B))) (n := N) (fun j => (nI (w / b ^ j), nI (n - j) - 1, (va_up A 11 (rowG b n w (A 11) j), B))) n (r := (va_up A 11 (rowG b n w (A 11) n), B)) (by omega)]
  · rfl
  · rw [rowG_0, va_id, Nat.pow_zero, Nat.div_one, Nat.sub_zero]
  · intro j hj
    have hdl : w / b ^ j < 2 ^ 31 := Nat.lt_of_le_of_lt (Nat.div_le_self _ _) (by omega)
    have hbb : 0 < b := by omega
    unfold X8_rowOf_s11
    dsimp only
    simp only [show va_up A 11 (rowG b n w (A 11) j) 4 0 = nI b from k0, es1 (show 0 < n - j by omega), if_neg (nI_pos (show n - j - 1 < 2 ^ 31 by omega)), if_neg (nI_ne0 hbb (by omega)), if_neg (njo (show n - j - 1 < 5 by omega) (by omega)), nI_clamp (show n - j - 1 < 2 ^ 31 by omega), bx_uu]
    rw [pk_rem hdl hbb (show b < 2 ^ 31 by omega), pk_div hdl hbb (show b < 2 ^ 31 by omega), Nat.div_div_eq_div_mul, ← Nat.pow_succ, show w / b ^ j % b = dig b n w (n - j - 1) by rw [dig_at b n w _ (by omega)]; congr 3; omega]
    rw [show va_up A 11 (rowG b n w (A 11) j) 11 = rowG b n w (A 11) j from rfl, rowG_s _ hj, show n - (j + 1) = n - j - 1 by omega, Int32.sub_eq_add_neg]
  · unfold X8_rowOf_s11
    dsimp only
    rw [Nat.sub_self, if_pos (by decide)]
def cbP (H : Nat → Nat → Nat) (ss sv r : Nat → Nat) (i : Nat) : Prop := (r (ss i) = sv i ∧ 0 < dg H (ss i) (sv i)) ∧ ∀ s, s < ss i → dg H s (r s) < 10
theorem cb_in {N : Nat} (hN : 8000 ≤ N) {H : Nat → Nat → Nat} {M : Mo} (hI : HI H) (hm : RHm M.1 0 H) {r : Nat → Nat} (hr : ∀ s, s < H 8 1 → r s < H 8 0 ∧ M.1 11 s = nI (r s)) {q : Nat → Bool} (hq : ∀ s, q s = true ↔ dg H s (r s) < 10) {i e : Nat} {x z : Int32} (hi : i < 6) (he : e < H 8 1) (h9 : M.1 9 i = nI e) (hz : z = 0 ∨ z = 1) : jw (X8_couldBe_s63 M (x, nI i)) N (z, (0 : Int32)) = some (if z = 0 then 0 else allI q e) := by
  have h5 := hI.2.1
  have h6 := hI.1
  refine jw_F (fun j => ((if z = 0 then 0 else allI q j), nI j)) e (by omega) ?_ ?_ ?_
  · rcases hz with rfl | rfl <;> rfl
  · intro j hj
    obtain ⟨r1, r2⟩ := hr j (by omega)
    have hd := dg_le hI j (r j)
    unfold X8_couldBe_s63
    dsimp only
    simp only [if_neg (njo (show i < 6 by omega) (by omega)), nI_clamp (show i < 2 ^ 31 by omega), h9, if_neg (nI_ge hj (show e < 2 ^ 31 by omega)), if_neg (njo (show j < 5 by omega) (by omega)), nI_clamp (show j < 2 ^ 31 by omega), r2, dTo_m hI hm (show j < H 8 1 by omega) r1, Option.bind_some, ea1, show ((10 : Int32) ≤ nI (dg H j (r j))) ↔ 10 ≤ dg H j (r j) from nI_leI (a := 10) (by omega) (by omega), allI]
    rcases hz with rfl | rfl
    · simp only [↓reduceIte, Option.bind_some]
    · simp only [oz, ↓reduceIte]
      by_cases ha : allI q j = 0
      · simp only [ha, ↓reduceIte, Option.bind_some]
      · simp only [if_neg ha]
        by_cases hd10 : 10 ≤ dg H j (r j)
        · rw [if_pos hd10, if_neg (fun c => by have := (hq j).mp c; omega)]
          rfl
        · rw [if_neg hd10, if_pos ((hq j).mpr (by omega))]
          rfl
  · unfold X8_couldBe_s63
    dsimp only
    simp only [if_neg (njo (show i < 6 by omega) (by omega)), nI_clamp (show i < 2 ^ 31 by omega), h9]
    rw [if_pos (nI_le (Nat.le_refl _) (by omega))]
theorem cbe_m {N : Nat} (hN : 8000 ≤ N) {H : Nat → Nat → Nat} {M : Mo} (hI : HI H) (hm : RHm M.1 0 H) {sn : Nat} {ss sv : Nat → Nat} (h6 : sn ≤ 6) (g0 : M.2 10 = nI sn) (hg : ∀ i, i < sn → ss i < H 8 1 ∧ sv i < H 8 0 ∧ M.1 9 i = nI (ss i) ∧ M.1 10 i = nI (sv i)) {r : Nat → Nat} (hr : ∀ s, s < H 8 1 → r s < H 8 0 ∧ M.1 11 s = nI (r s)) : ((∀ s, s < H 8 1 → posP H sn ss sv s (r s)) → f_X8_couldBe N M = some 1) ∧ (¬ (∀ s, s < H 8 1 → posP H sn ss sv s (r s)) → f_X8_couldBe N M = some 0) := by
  have h5 := hI.2.1
  have hm6 := hI.1
  obtain ⟨p, hp⟩ := exB (cbP H ss sv r)
  obtain ⟨q, hq⟩ := exB (fun s => dg H s (r s) < 10)
  have key : (∀ s, s < H 8 1 → posP H sn ss sv s (r s)) ↔ ∀ i, i < sn → p i = true := by
    constructor
    · intro h i hi
      refine (hp i).mpr ⟨⟨?_, ?_⟩, fun s hs => ((h s (by have := (hg i hi).1; omega)) i hi).2 hs⟩
      · exact (((h (ss i) (hg i hi).1) i hi).1 rfl).1.symm
      · have := ((h (ss i) (hg i hi).1) i hi).1 rfl
        rw [this.1]
        exact this.2
    · intro h s hs i hi
      obtain ⟨⟨c1, c2⟩, c3⟩ := (hp i).mp (h i hi)
      exact ⟨fun e => by subst e; exact ⟨c1.symm, by rw [c1]; exact c2⟩, fun e => c3 s e⟩
  have e : f_X8_couldBe N M = some (allI p sn) := by
    unfold f_X8_couldBe
    rw [jw_F (s := ((1 : Int32), (0 : Int32))) (n := N) (fun j => (allI p j, nI j)) sn (r := allI p sn) (by omega) rfl]
    · rcases all_s p sn with ⟨a, -⟩ | ⟨a, -⟩ <;> rw [a] <;> rfl
    · intro i hi
      obtain ⟨b1, b2, b3, b4⟩ := hg i hi
      obtain ⟨r1, r2⟩ := hr (ss i) b1
      have hd := dg_le hI (ss i) (sv i)
      have hin : ∀ z : Int32, z = 0 ∨ z = 1 → jw (X8_couldBe_s63 M (allI p i, nI i)) N (z, (0 : Int32)) = some (if z = 0 then 0 else allI q (ss i)) := fun z hz => cb_in hN hI hm hr hq (by omega) b1 b3 hz
      unfold X8_couldBe_s4
      dsimp only
      simp only [g0, if_neg (nI_ge hi (show sn < 2 ^ 31 by omega)), if_neg (njo (show i < 6 by omega) (by omega)), nI_clamp (show i < 2 ^ 31 by omega), b3, b4, if_neg (njo (show ss i < 5 by omega) (by omega)), nI_clamp (show ss i < 2 ^ 31 by omega), r2, dTo_m hI hm b1 b2, nI_eq (show r (ss i) < 2 ^ 31 by omega) (show sv i < 2 ^ 31 by omega), Option.bind_some, show (nI (dg H (ss i) (sv i)) ≤ (0 : Int32)) ↔ dg H (ss i) (sv i) ≤ 0 from nI_leI (b := 0) (by omega) (by omega), ea1, allI]
      by_cases ha : allI p i = 0
      · simp only [ha, ↓reduceIte, Option.bind_some]
        rw [show jw (X8_couldBe_s63 M (0, nI i)) N ((0 : Int32), (0 : Int32)) = some 0 from by have := hin 0 (Or.inl rfl); rw [ha] at this; exact this]
        rfl
      · simp only [if_neg ha]
        have hqs : (∀ s, s < ss i → q s = true) ↔ ∀ s, s < ss i → dg H s (r s) < 10 := forall_congr' fun s => forall_congr' fun _ => hq s
        by_cases h1 : r (ss i) = sv i
        · rw [if_pos h1]
          by_cases h2 : dg H (ss i) (sv i) ≤ 0
          · rw [if_pos h2]
            simp only [Option.bind_some]
            rw [hin 0 (Or.inl rfl), if_pos rfl, if_neg (fun c => by have := ((hp i).mp c).1.2; omega)]
            rfl
          · rw [if_neg h2]
            simp only [Option.bind_some]
            rw [hin 1 (Or.inr rfl), if_neg (by decide)]
            rcases all_s q (ss i) with ⟨a, b⟩ | ⟨a, b⟩
            · rw [a, if_pos ((hp i).mpr ⟨⟨h1, by omega⟩, hqs.mp b⟩)]
              rfl
            · rw [a, if_neg (fun c => b (hqs.mpr ((hp i).mp c).2))]
              rfl
        · rw [if_neg h1]
          simp only [Option.bind_some]
          rw [hin 0 (Or.inl rfl), if_pos rfl, if_neg (fun c => h1 ((hp i).mp c).1.1)]
          rfl
    · unfold X8_couldBe_s4
      dsimp only
      rw [g0, if_pos (nI_le (Nat.le_refl _) (by omega))]
  rw [e]
  rcases all_s p sn with ⟨a, b⟩ | ⟨a, b⟩
  · exact ⟨fun _ => by rw [a], fun c => absurd (key.mpr b) c⟩
  · exact ⟨fun c => absurd (key.mp c) b, fun _ => by rw [a]⟩
def rset (r : Nat → Nat) : Nat → Nat
  | 0 => 0
  | n + 1 => rset r n ||| 2 ^ r n
theorem rset_lt {r : Nat → Nat} : ∀ n, (∀ s, s < n → r s < 6) → rset r n < 64
  | 0, _ => by show 0 < 64; omega
  | n + 1, h => Nat.or_lt_two_pow (n := 6) (rset_lt n fun s hs => h s (by omega)) (Nat.pow_lt_pow_right (a := 2) (by decide) (h n (by omega)))
theorem rset_b {r : Nat → Nat} {i : Nat} : ∀ n, ((rset r n).testBit i = true ↔ ∃ s, s < n ∧ r s = i)
  | 0 => ⟨fun h => absurd h (by show ¬ (0 : Nat).testBit i = true; rw [Nat.zero_testBit]; decide), fun ⟨s, hs, _⟩ => absurd hs (by omega)⟩
  | n + 1 => by
    rw [rset, Nat.testBit_or, Bool.or_eq_true, rset_b n]
    constructor
    · rintro (⟨s, hs, h⟩ | h)
      · exact ⟨s, by omega, h⟩
      · refine ⟨n, by omega, Classical.byContradiction fun c => ?_⟩
        rw [Nat.testBit_two_pow_of_ne c] at h
        exact absurd h (by decide)
    · rintro ⟨s, hs, h⟩
      by_cases e : s = n
      · subst e
        rw [h]
        exact Or.inr Nat.testBit_two_pow_self
      · exact Or.inl ⟨s, by omega, h⟩
theorem rs_m {N : Nat} (hN : 8000 ≤ N) {n : Nat} (hn : n ≤ 5) {M : Mo} (k1 : M.1 4 1 = nI n) {r : Nat → Nat} (hr : ∀ s, s < n → r s < 6 ∧ M.1 11 s = nI (r s)) : f_X8_rowSet N M = some (nI (rset r n)) := by
  unfold f_X8_rowSet
  rw [jw_F (s := ((0 : Int32), (0 : Int32))) (n := N) (fun j => (nI (rset r j), nI j)) n (r := nI (rset r n)) (by omega) rfl]
  · rfl
  · intro j hj
    unfold X8_rowSet_s4
    dsimp only
    simp only [k1, if_neg (nI_ge hj (show n < 2 ^ 31 by omega)), if_neg (njo (show j < 5 by omega) (by omega)), nI_clamp (show j < 2 ^ 31 by omega), (hr j hj).2, or_i _ (rset_lt j fun s hs => (hr s (by omega)).1) _ (hr j hj).1, ea1]
    rfl
  · unfold X8_rowSet_s4
    dsimp only
    rw [k1, if_pos (nI_le (Nat.le_refl _) (by omega))]

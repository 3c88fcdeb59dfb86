/-! PURE: offers at rest. -/
def pop (S : Nat) : Nat := (List.range 6).foldl (fun a i => a + (if S.testBit i then 1 else 0)) 0
theorem on_8 : ∀ c, c < 64 → jw (X8_ones_s4 (nI c)) 40 ((0 : Int32), (0 : Int32)) = some (nI (pop c)) := by decide +kernel
theorem on_m {N : Nat} (hN : 8000 ≤ N) {c : Nat} (hc : c < 64) : f_X8_ones N (nI c) = some (nI (pop c)) := by
  unfold f_X8_ones
  rw [jw_mono (on_8 c hc) (by omega)]
  rfl
theorem pop_z : ∀ c, c < 64 → ((nI (pop c) = (0 : Int32)) ↔ c = 0) := by decide +kernel
theorem bc_c : ∀ c, c < 64 → f_J6_bitCount_0f7a4 (nI c) = some (nI (pop c)) := by decide +kernel
theorem pop_1 : ∀ c, c < 64 → ∀ m, m < 6 → c.testBit m = true → ((nI (pop c) = (1 : Int32)) ↔ clr c m = 0) := by decide +kernel
def andn (a b : Nat) : Nat := a &&& (63 ^^^ b)
theorem andn_i : ∀ a, a < 64 → ∀ b, b < 64 → nI a &&& (nI b ^^^ (-1)) = nI (andn a b) := by decide +kernel
theorem and_i : ∀ a, a < 64 → ∀ b, b < 64 → nI a &&& nI b = nI (a &&& b) := by decide +kernel
theorem or_i : ∀ a, a < 64 → ∀ d, d < 6 → nI a ||| ((1 : Int32) <<< (nI d &&& 31)) = nI (a ||| 2 ^ d) := by decide +kernel
theorem m63 : ∀ i, i < 6 → (63 : Nat).testBit i = true := by decide
theorem andn_b {a b i : Nat} (hi : i < 6) : (andn a b).testBit i = (a.testBit i && !b.testBit i) := by
  unfold andn
  rw [Nat.testBit_and, Nat.testBit_xor, m63 i hi]
  cases b.testBit i <;> rfl
theorem z_b : ∀ a, a < 64 → (a = 0 ↔ ∀ i, i < 6 → a.testBit i = false) := by decide +kernel
theorem nIz {a : Nat} (h : a < 64) : nI a = (0 : Int32) ↔ a = 0 := nI_eq (b := 0) (by omega) (by omega)
theorem andn_lt {a b : Nat} (h : a < 64) : andn a b < 64 := Nat.lt_of_le_of_lt Nat.and_le_left h
theorem sub_i {a b : Nat} (ha : a < 64) (hb : b < 64) : (nI a &&& (nI b ^^^ (-1)) = (0 : Int32)) ↔ ∀ i, i < 6 → a.testBit i = true → b.testBit i = true := by
  rw [andn_i a ha b hb, nIz (andn_lt ha), z_b _ (andn_lt ha)]
  refine forall_congr' fun i => forall_congr' fun hi => ?_
  rw [andn_b hi]
  cases a.testBit i <;> cases b.testBit i <;> decide
theorem no_i {a b : Nat} (ha : a < 64) (hb : b < 64) : (nI a &&& nI b = (0 : Int32)) ↔ ∀ i, i < 6 → a.testBit i = true → ¬ b.testBit i = true := by
  have hl : a &&& b < 64 := Nat.lt_of_le_of_lt Nat.and_le_left ha
  rw [and_i a ha b hb, nIz hl, z_b _ hl]
  refine forall_congr' fun i => forall_congr' fun hi => ?_
  rw [Nat.testBit_and]
  cases a.testBit i <;> cases b.testBit i <;> decide
theorem exB (P : Nat → Prop) : ∃ p : Nat → Bool, ∀ i, p i = true ↔ P i := ⟨fun i => @decide (P i) (Classical.propDecidable _), fun i => @decide_eq_true_iff (P i) (Classical.propDecidable _)⟩
/-- a set of mice -/
def mk (p : Nat → Bool) : Nat → Nat
  | 0 => 0
  | n + 1 => mk p n ||| (if p n then 2 ^ n else 0)
theorem mk_b (p : Nat → Bool) (i : Nat) : ∀ n, (mk p n).testBit i = (decide (i < n) && p i)
  | 0 => by simp [mk]
  | n + 1 => by
    rw [mk, Nat.testBit_or, mk_b p i n]
    by_cases h : i = n
    · subst h
      cases hp : p i
      · simp
      · simp [Nat.testBit_two_pow_self]
    · have h1 : (if p n then 2 ^ n else 0).testBit i = false := by
        split
        · exact Nat.testBit_two_pow_of_ne (Ne.symm h)
        · exact Nat.zero_testBit i
      rw [h1, Bool.or_false]
      congr 1
      exact decide_eq_decide.mpr (by omega)
theorem mk_lt (p : Nat → Bool) : ∀ n, mk p n < 2 ^ n
  | 0 => Nat.one_pos
  | n + 1 => by
    have h := mk_lt p n
    rw [mk]
    refine Nat.or_lt_two_pow (Nat.lt_of_lt_of_le h (Nat.pow_le_pow_right (by omega) (by omega))) ?_
    have : 0 < 2 ^ n := Nat.pow_pos (by omega)
    split <;> omega
theorem two6 {n : Nat} (h : n ≤ 6) : 2 ^ n ≤ 64 := Nat.pow_le_pow_right (j := 6) (by omega) h
/-- whether an offer of f is at rest -/
def rsum (H : Nat → Nat → Nat) (f S m : Nat) : Nat := if clr S m = 0 then (f + H 8 3) * 10 ^ H 8 1 else f * 10 ^ H 8 1
def rok (H : Nat → Nat → Nat) (t : Nat → Nat) (f S m : Nat) : Prop := (t 1).testBit m = true → (S.testBit m = true → dr H m ≤ rsum H f S m) ∧ (¬ S.testBit m = true → rsum H f S m ≤ dr H m)
def rest (H : Nat → Nat → Nat) (t : Nat → Nat) (f S : Nat) : Prop := ∀ m, m < H 8 0 → rok H t f S m
theorem sgP {a b : Nat} (ha : a < 2 ^ 40) (hb : b < 2 ^ 40) : (0 : Int64) < lN a - lN b ↔ b < a := by
  rw [Int64.lt_iff_toInt_lt, Int64.toInt_sub, pk_lT (by omega), pk_lT (by omega), Int.bmod_eq_of_le (by omega) (by omega), show (0 : Int64).toInt = 0 from by decide]
  omega
theorem sgN {a b : Nat} (ha : a < 2 ^ 40) (hb : b < 2 ^ 40) : lN a - lN b < (0 : Int64) ↔ a < b := by
  rw [Int64.lt_iff_toInt_lt, Int64.toInt_sub, pk_lT (by omega), pk_lT (by omega), Int.bmod_eq_of_le (by omega) (by omega), show (0 : Int64).toInt = 0 from by decide]
  omega
theorem sg3 (a b c : Nat) : lN a - lN b + lN c = lN (a + c) - lN b := by
  rw [← lN_add, Int64.sub_eq_add_neg, Int64.sub_eq_add_neg, Int64.add_assoc, Int64.add_comm (-lN b), ← Int64.add_assoc]
def allI (p : Nat → Bool) : Nat → Int32
  | 0 => 1
  | n + 1 => if allI p n = 0 then 0 else if p n = true then 1 else 0
theorem all_s (p : Nat → Bool) : ∀ n, (allI p n = 1 ∧ ∀ i, i < n → p i = true) ∨ (allI p n = 0 ∧ ¬ ∀ i, i < n → p i = true)
  | 0 => Or.inl ⟨rfl, fun i h => absurd h (by omega)⟩
  | n + 1 => by
    rw [allI]
    rcases all_s p n with ⟨a, b⟩ | ⟨a, b⟩
    · rw [a, if_neg (by decide)]
      by_cases h : p n = true
      · refine Or.inl ⟨if_pos h, fun i hi => ?_⟩
        by_cases e : i = n
        · rw [e]; exact h
        · exact b i (by omega)
      · exact Or.inr ⟨if_neg h, fun c => h (c n (by omega))⟩
    · rw [a, if_pos rfl]
      exact Or.inr ⟨rfl, fun c => b fun i hi => c i (by omega)⟩
theorem ar_m {N : Nat} (hN : 8000 ≤ N) {H : Nat → Nat → Nat} {t : Nat → Nat} {M : Mo} (hI : HI H) (hT : TI H t) (hm : RHm M.1 0 H) (hs : RTm (M.1 5) 0 t) {f S : Nat} (hf : f < 100) (hS : S < 64) : (rest H t f S → f_X8_isAtRest N (nI S) (nI f) M = some 1) ∧ (¬ rest H t f S → f_X8_isAtRest N (nI S) (nI f) M = some 0) := by
  have h6 := hI.1
  have h5 := hI.2.1
  have h99 := hI.2.2.2.1
  have k0 : M.1 4 0 = nI (H 8 0) := hm.1 0 (by omega)
  have k1 : M.1 4 1 = nI (H 8 1) := hm.1 1 (by omega)
  have k3 : M.1 4 3 = nI (H 8 3) := hm.1 3 (by omega)
  have tl := ten_le h5
  have t1 : f * 10 ^ H 8 1 ≤ 99 * 100000 := Nat.mul_le_mul (by omega) tl
  have t2 : H 8 3 * 10 ^ H 8 1 ≤ 99 * 100000 := Nat.mul_le_mul (by omega) tl
  obtain ⟨p, hp⟩ := exB (rok H t f S)
  have e : f_X8_isAtRest N (nI S) (nI f) M = some (allI p (H 8 0)) := by
    unfold f_X8_isAtRest
    rw [k1, ten_m hN (by omega)]
    simp only [Option.bind_some]
    rw [jw_F (s := ((1 : Int32), (0 : Int32))) (n := N) (fun j => (allI p j, nI j)) (H 8 0) (r := allI p (H 8 0)) (by omega) rfl]
    · rcases all_s p (H 8 0) with ⟨a, -⟩ | ⟨a, -⟩ <;> rw [a] <;> rfl
    · intro j hj
      have hdr := dr_le hI j
      unfold X8_isAtRest_s19
      dsimp only
      rw [k0, if_neg (nI_ge hj (by omega)), li_m hI hT hs hj]
      simp only [Option.bind_some]
      have hpj := hp j
      by_cases hl : (t 1).testBit j = true
      · rw [liv1 hl]
        have hcl : clr S j < 64 := Nat.lt_of_le_of_lt (clr_le S j) hS
        simp only [oz, ↓reduceIte, dr_m hN hI hm hj, Option.bind_some, clr_i S hS j (show j < 6 by omega), on_m hN hcl, nI_l (show f < 2 ^ 31 by omega), k3, nI_l (show H 8 3 < 2 ^ 31 by omega), lN_mul, sg3, ea1, pop_z _ hcl, bit_li S hS j (show j < 6 by omega)]
        have hrs : (if clr S j = 0 then some (lN (f * 10 ^ H 8 1 + H 8 3 * 10 ^ H 8 1) - lN (dr H j)) else some (lN (f * 10 ^ H 8 1) - lN (dr H j))) = some (lN (rsum H f S j) - lN (dr H j)) := by
          unfold rsum
          by_cases hc : clr S j = 0
          · rw [if_pos hc, if_pos hc, Nat.add_mul]
          · rw [if_neg hc, if_neg hc]
        have hrl : rsum H f S j < 2 ^ 40 := by
          unfold rsum
          split
          · rw [Nat.add_mul]; omega
          · omega
        rw [hrs]
        simp only [Option.bind_some, sgP hrl (show dr H j < 2 ^ 40 by omega), sgN hrl (show dr H j < 2 ^ 40 by omega)]
        rw [allI]
        by_cases ha : allI p j = 0
        · simp only [ha, ↓reduceIte, Option.bind_some]
          by_cases hb : S.testBit j = true
          · rw [if_pos hb]; rfl
          · rw [if_neg hb]; rfl
        · simp only [if_neg ha]
          by_cases hb : S.testBit j = true
          · rw [if_pos hb]
            simp only [Option.bind_some, oz, ↓reduceIte]
            by_cases hr : rsum H f S j < dr H j
            · rw [if_pos hr, if_neg (fun c => by have := (hpj.mp c hl).1 hb; omega)]
              rfl
            · rw [if_neg hr, if_pos (hpj.mpr fun _ => ⟨fun _ => by omega, fun c => absurd hb c⟩)]
              rfl
          · rw [if_neg hb]
            simp only [Option.bind_some, ↓reduceIte]
            by_cases hr : dr H j < rsum H f S j
            · rw [if_pos hr, if_neg (fun c => by have := (hpj.mp c hl).2 hb; omega)]
              rfl
            · rw [if_neg hr, if_pos (hpj.mpr fun _ => ⟨fun c => absurd c hb, fun _ => by omega⟩)]
              rfl
      · rw [liv0 hl]
        simp only [↓reduceIte, Option.bind_some, ea1]
        rw [allI, if_pos (hpj.mpr fun c => absurd c hl)]
        rcases all_s p j with ⟨a, -⟩ | ⟨a, -⟩ <;> rw [a] <;> rfl
    · unfold X8_isAtRest_s19
      dsimp only
      rw [k0, if_pos (nI_le (Nat.le_refl _) (by omega))]
  rw [e]
  have hpr : (∀ i, i < H 8 0 → p i = true) ↔ rest H t f S := forall_congr' fun i => forall_congr' fun _ => hp i
  rcases all_s p (H 8 0) with ⟨a, b⟩ | ⟨a, b⟩
  · exact ⟨fun _ => by rw [a], fun c => absurd (hpr.mp b) c⟩
  · exact ⟨fun c => absurd (hpr.mpr c) b, fun _ => by rw [a]⟩

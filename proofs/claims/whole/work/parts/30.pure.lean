/-! PURE: loops, numbers, odds. -/
theorem jw_inl {S R : Type} {step : S → Option (S ⊕ R)} {s s' : S} {n : Nat} (h : step s = some (.inl s')) : jw step (n + 1) s = jw step n s' := by
  simp only [jw, h]
theorem jw_inr {S R : Type} {step : S → Option (S ⊕ R)} {s : S} {r : R} {n : Nat} (h : step s = some (.inr r)) : jw step (n + 1) s = some r := by
  simp only [jw, h]
theorem jw_run {S R : Type} {step : S → Option (S ⊕ R)} (F : Nat → S) : ∀ (B : Nat), (∀ j, j < B → step (F j) = some (.inl (F (j + 1)))) → ∀ n, jw step (n + B) (F 0) = jw step n (F B)
  | 0, _, n => rfl
  | B + 1, h, n => by
    rw [show n + (B + 1) = (n + 1) + B by omega, jw_run F B (fun j hj => h j (by omega)) (n + 1), jw_inl (h B (by omega))]
theorem jw_F {S R : Type} {step : S → Option (S ⊕ R)} (F : Nat → S) (B : Nat) {r : R} {s : S} {n : Nat} (hn : B < n) (h0 : s = F 0) (hs : ∀ j, j < B → step (F j) = some (.inl (F (j + 1)))) (he : step (F B) = some (.inr r)) : jw step n s = some r := by
  obtain ⟨k, rfl⟩ : ∃ k, n = (k + 1) + B := ⟨n - B - 1, by omega⟩
  rw [h0, jw_run F B hs, jw_inr he]
theorem njo {a n : Nat} (h : a < n) (hn : n < 2 ^ 31) : ¬ jo (nI a) n := nI_in h hn
theorem lt_lit {a : Nat} {k : Int32} (n : Nat) (hk : k = nI n) (h : a < n) (hn : n < 2 ^ 31) : ¬ k ≤ nI a := by
  rw [hk]; exact nI_ge h hn
theorem njz0 : ¬ jz 0 := by decide
theorem njz1 : ¬ jz 1 := by decide
theorem e4 (a : Nat) : (4 : Int32) * nI a = nI (4 * a) := pk_mul 4 a
theorem e3 (a : Nat) : (3 : Int32) * nI a = nI (3 * a) := pk_mul 3 a
theorem ea1 (a : Nat) : nI a + (1 : Int32) = nI (a + 1) := nI_add a 1
theorem ea2 (a : Nat) : nI a + (2 : Int32) = nI (a + 2) := nI_add a 2
theorem ea3 (a : Nat) : nI a + (3 : Int32) = nI (a + 3) := nI_add a 3
theorem e3a (a : Nat) : (3 : Int32) + nI a = nI (3 + a) := nI_add 3 a
theorem es1 {a : Nat} (h : 0 < a) : nI a - (1 : Int32) = nI (a - 1) := pk_sub h
theorem e10s {d : Nat} (h : d ≤ 10) : (10 : Int32) - nI d = nI (10 - d) := pk_sub h
theorem il {a : Nat} (h : a < 2 ^ 31) : (nI a).toInt64 = lN a := nI_l h
/-- danger, in tenths -/
def dgN (kind speed noise : Nat) : Nat :=
  let bare := min 10 (noise - speed)
  if kind = 1 then (if bare = 0 then 0 else min 10 (bare + 2)) else if kind = 2 then (if 5 < noise then 10 else bare) else if kind = 3 then bare - 1 else bare
theorem dg_c : ∀ k, k < 4 → ∀ s, s < 10 → ∀ n, n < 16 → f_X7_dangerOf (nI n) (nI k) (nI s) = some (nI (dgN k s n)) := by decide +kernel
theorem dg_m : ∀ k, k < 4 → ∀ s, s < 10 → ∀ n, n < 16 → f_X8_dangerBy (nI k) (nI s) (nI n) = some (nI (dgN k s n)) := by decide +kernel
theorem dg_10 : ∀ k, k < 4 → ∀ s, s < 10 → ∀ n, n < 16 → dgN k s n ≤ 10 := by decide +kernel
/-- powers -/
theorem pw_c {N b n : Nat} (hN : 8000 ≤ N) (hn : n < 100) (hb : b < 2 ^ 31) : f_X7_power N (nI b) (nI n) = some (lN (b ^ n)) := by
  unfold f_X7_power
  rw [jw_F (s := ((1 : Int64), (0 : Int32))) (n := N) (fun j => (lN (b ^ j), nI j)) n (r := lN (b ^ n)) (by omega) rfl]
  · rfl
  · intro j hj
    unfold X7_power_s5
    dsimp only
    rw [if_neg (nI_ge hj (by omega)), il hb, lN_mul, ea1, Nat.pow_succ]
  · unfold X7_power_s5
    dsimp only
    rw [if_pos (nI_le (Nat.le_refl n) (by omega))]
theorem ten_c {N n : Nat} (hN : 8000 ≤ N) (hn : n < 100) : f_X7_tenTo N (nI n) = some (lN (10 ^ n)) := by
  unfold f_X7_tenTo
  rw [show (10 : Int32) = nI 10 from rfl, pw_c hN hn (by omega)]
  rfl
theorem pw_m {N b n : Nat} (hN : 8000 ≤ N) (hn : n < 100) : f_X8_power N (lN b) (nI n) = some (lN (b ^ n)) := by
  unfold f_X8_power
  rw [jw_F (s := ((1 : Int64), (0 : Int32))) (n := N) (fun j => (lN (b ^ j), nI j)) n (r := lN (b ^ n)) (by omega) rfl]
  · rfl
  · intro j hj
    unfold X8_power_s5
    dsimp only
    rw [if_neg (nI_ge hj (by omega)), lN_mul, ea1, Nat.pow_succ]
  · unfold X8_power_s5
    dsimp only
    rw [if_pos (nI_le (Nat.le_refl n) (by omega))]
theorem ten_m {N n : Nat} (hN : 8000 ≤ N) (hn : n < 100) : f_X8_power N (10 : Int64) (nI n) = some (lN (10 ^ n)) := pw_m hN hn
/-- the common divisor: two rounds halve -/
theorem lN_ne {b : Nat} (h : 0 < b) (hb : b < 2 ^ 63) : ¬ lN b = (0 : Int64) := by
  intro e
  have := (pk_lEQ hb (by omega : 0 < 2 ^ 63)).mp (e.trans (show (0 : Int64) = lN 0 from rfl))
  omega
theorem half_mod {a b k : Nat} (h0 : 0 < b) (hb : b < 2 ^ (k + 1)) (h1 : 0 < a % b) : b % (a % b) < 2 ^ k := by
  have hr : a % b < b := Nat.mod_lt a h0
  generalize a % b = r at h1 hr
  have h2 : b % r < r := Nat.mod_lt b h1
  rw [Nat.pow_succ] at hb
  by_cases h : 2 * r ≤ b
  · omega
  · have h3 : b % r = b - r := by
      rw [Nat.mod_eq_sub_mod (by omega), Nat.mod_eq_of_lt (by omega)]
    omega
theorem gcd_step (a b : Nat) : Nat.gcd b (a % b) = Nat.gcd a b := by
  rw [Nat.gcd_comm b, ← Nat.gcd_rec, Nat.gcd_comm]
theorem gcd_m_aux : ∀ (k b a : Nat), a < 2 ^ 63 → b < 2 ^ 63 → b < 2 ^ k → ∀ n, 2 * k < n → jw X8_gcd_s6 n (lN a, lN b) = some (lN (Nat.gcd a b)) := by
  intro k
  induction k with
  | zero =>
    intro b a ha hb hk n hn
    obtain ⟨m, rfl⟩ : ∃ m, n = m + 1 := ⟨n - 1, by omega⟩
    obtain rfl : b = 0 := by omega
    rw [Nat.gcd_zero_right]
    exact jw_inr (by unfold X8_gcd_s6; dsimp only; rw [if_pos (show lN 0 = 0 from rfl)])
  | succ k ih =>
    intro b a ha hb hk n hn
    obtain ⟨m, rfl⟩ : ∃ m, n = m + 1 + 1 := ⟨n - 2, by omega⟩
    rcases Nat.eq_zero_or_pos b with rfl | h0
    · rw [Nat.gcd_zero_right]
      exact jw_inr (by unfold X8_gcd_s6; dsimp only; rw [if_pos (show lN 0 = 0 from rfl)])
    · have hr : a % b < b := Nat.mod_lt a h0
      have st : ∀ a b : Nat, a < 2 ^ 63 → b < 2 ^ 63 → 0 < b → X8_gcd_s6 (lN a, lN b) = some (.inl (lN b, lN (a % b))) := by
        intro a b ha hb h0
        unfold X8_gcd_s6
        dsimp only
        rw [if_neg (lN_ne h0 hb), if_neg (lN_ne h0 hb)]
        rw [pk_lRem ha h0 hb]
      rw [jw_inl (st a b ha hb h0), ← gcd_step a b]
      rcases Nat.eq_zero_or_pos (a % b) with h1 | h1
      · rw [h1, Nat.gcd_zero_right]
        exact jw_inr (by unfold X8_gcd_s6; dsimp only; rw [if_pos (show lN 0 = 0 from rfl)])
      · rw [jw_inl (st b (a % b) hb (by omega) h1), ih _ _ (by omega) (by have := half_mod h0 hk h1; have := Nat.mod_lt b h1; omega) (half_mod h0 hk h1) m (by omega), gcd_step]
theorem gcd_m {N a b : Nat} (hN : 8000 ≤ N) (ha : a < 2 ^ 63) (hb : b < 2 ^ 63) : f_X8_gcd N (lN a) (lN b) = some (lN (Nat.gcd a b)) := by
  unfold f_X8_gcd
  rw [gcd_m_aux 63 b a ha hb hb N (by omega)]
  rfl
theorem gcd_c_aux : ∀ (k b a c : Nat), a < 2 ^ 63 → b < 2 ^ 63 → b < 2 ^ k → c + 2 * k < 200 → ∀ n, 2 * k < n → jw X7_commonDivisor_s9 n (lN a, lN b, nI c) = some (lN (Nat.gcd a b)) := by
  intro k
  have st0 : ∀ a c : Nat, c < 200 → X7_commonDivisor_s9 (lN a, lN 0, nI c) = some (.inr (lN a)) := by
    intro a c hc
    unfold X7_commonDivisor_s9
    dsimp only
    rw [if_neg (lt_lit (k := 200) 200 rfl hc (by omega)), if_pos (show lN 0 = 0 from rfl)]
  induction k with
  | zero =>
    intro b a c ha hb hk hc n hn
    obtain ⟨m, rfl⟩ : ∃ m, n = m + 1 := ⟨n - 1, by omega⟩
    obtain rfl : b = 0 := by omega
    rw [Nat.gcd_zero_right]
    exact jw_inr (st0 a c (by omega))
  | succ k ih =>
    intro b a c ha hb hk hc n hn
    obtain ⟨m, rfl⟩ : ∃ m, n = m + 1 + 1 := ⟨n - 2, by omega⟩
    rcases Nat.eq_zero_or_pos b with rfl | h0
    · rw [Nat.gcd_zero_right]
      exact jw_inr (st0 a c (by omega))
    · have hr : a % b < b := Nat.mod_lt a h0
      have st : ∀ a b c : Nat, a < 2 ^ 63 → b < 2 ^ 63 → 0 < b → c < 200 → X7_commonDivisor_s9 (lN a, lN b, nI c) = some (.inl (lN b, lN (a % b), nI (c + 1))) := by
        intro a b c ha hb h0 hc
        unfold X7_commonDivisor_s9
        dsimp only
        rw [if_neg (lt_lit (k := 200) 200 rfl hc (by omega)), if_neg (lN_ne h0 hb), if_neg (lN_ne h0 hb)]
        rw [pk_lRem ha h0 hb, ea1]
      rw [jw_inl (st a b c ha hb h0 (by omega)), ← gcd_step a b]
      rcases Nat.eq_zero_or_pos (a % b) with h1 | h1
      · rw [h1, Nat.gcd_zero_right]
        exact jw_inr (st0 b (c + 1) (by omega))
      · rw [jw_inl (st b (a % b) (c + 1) hb (by omega) h1 (by omega)), ih _ _ _ (by omega) (by have := half_mod h0 hk h1; have := Nat.mod_lt b h1; omega) (half_mod h0 hk h1) (by omega) m (by omega), gcd_step]
theorem gcd_c {N a b : Nat} (hN : 8000 ≤ N) (ha : a < 2 ^ 63) (hb : b < 2 ^ 63) : f_X7_commonDivisor N (lN a) (lN b) = some (lN (Nat.gcd a b)) := by
  unfold f_X7_commonDivisor
  rw [show (0 : Int32) = nI 0 from rfl, gcd_c_aux 63 b a 0 ha hb hb (by omega) N (by omega)]
  rfl
/-- in lowest terms -/
theorem part_eq {N a b : Nat} (hN : 8000 ≤ N) (ha : a < 2 ^ 63) (h0 : 0 < b) (hb : b < 2 ^ 63) (p : Int32) : ∃ r : Int64, f_X7_partOf N (lN a) (lN b) p = some r ∧ f_X8_part N (lN a) (lN b) p = some r := by
  have hg : 0 < Nat.gcd a b := Nat.gcd_pos_of_pos_right a h0
  have hl : Nat.gcd a b < 2 ^ 63 := Nat.lt_of_le_of_lt (Nat.gcd_le_right a h0) hb
  have hne := lN_ne hg hl
  unfold f_X7_partOf f_X8_part
  rw [gcd_c hN ha hb, gcd_m hN ha hb]
  simp only [Option.bind_some, if_neg hne]
  by_cases hp : p = 0
  · simp only [if_pos hp, Option.bind_some]
    exact ⟨_, rfl, rfl⟩
  · simp only [if_neg hp, Option.bind_some]
    exact ⟨_, rfl, rfl⟩

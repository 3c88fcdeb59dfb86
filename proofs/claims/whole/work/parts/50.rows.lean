/-! PURE: the rows that could be. -/
theorem cnr_row {p r : Nat → Bool} {q : Bool} {a b : Nat} (h : ∀ d, d < b → p (a + d) = (q && r d)) : ∀ d, d ≤ b → cnr p (a + d) = cnr p a + (if q = true then cnr r d else 0)
  | 0, _ => by cases q <;> rfl
  | d + 1, hd => by
    rw [← Nat.add_assoc, cnr, cnr_row h d (by omega), h d (by omega)]
    cases q
    · rfl
    · rw [if_pos rfl, if_pos rfl, cnr, Bool.true_and, Nat.add_assoc]
theorem cnr_mul {p q r : Nat → Bool} {b : Nat} (h : ∀ k d, d < b → p (k * b + d) = (q k && r d)) : ∀ K, cnr p (K * b) = cnr q K * cnr r b
  | 0 => by rw [Nat.zero_mul]; simp [cnr]
  | K + 1 => by
    rw [Nat.succ_mul, cnr_row (h K) b (Nat.le_refl b), cnr_mul h K, cnr, Nat.add_mul]
    cases q K
    · simp
    · simp
def okR (pos : Nat → Nat → Bool) (b : Nat) : Nat → Nat → Bool
  | 0, _ => true
  | n + 1, w => okR pos b n (w / b) && pos n (w % b)
def dig (b : Nat) : Nat → Nat → Nat → Nat
  | 0, _, _ => 0
  | n + 1, w, s => if s = n then w % b else dig b n (w / b) s
def prodC (pos : Nat → Nat → Bool) (b : Nat) : Nat → Nat
  | 0 => 1
  | n + 1 => prodC pos b n * cnr (pos n) b
theorem okR_c (pos : Nat → Nat → Bool) (b : Nat) : ∀ n, cnr (okR pos b n) (b ^ n) = prodC pos b n
  | 0 => rfl
  | n + 1 => by
    rw [Nat.pow_succ, prodC, ← okR_c pos b n]
    refine cnr_mul (fun k d hd => ?_) (b ^ n)
    rw [okR, Nat.mul_comm, Nat.mul_add_div (by omega), Nat.div_eq_of_lt hd, Nat.add_zero, Nat.mul_add_mod, Nat.mod_eq_of_lt hd]
theorem okR_i (pos : Nat → Nat → Bool) (b : Nat) : ∀ n w, (okR pos b n w = true ↔ ∀ s, s < n → pos s (dig b n w s) = true)
  | 0, w => ⟨fun _ s hs => absurd hs (by omega), fun _ => rfl⟩
  | n + 1, w => by
    rw [okR, Bool.and_eq_true, okR_i pos b n]
    constructor
    · rintro ⟨h1, h2⟩ s hs
      unfold dig
      by_cases e : s = n
      · rw [if_pos e, e]; exact h2
      · rw [if_neg e]; exact h1 s (by omega)
    · intro h
      refine ⟨fun s hs => ?_, ?_⟩
      · have := h s (by omega)
        unfold dig at this
        rwa [if_neg (by omega)] at this
      · have := h n (by omega)
        unfold dig at this
        rwa [if_pos rfl] at this
theorem dig_lt {b : Nat} (hb : 0 < b) : ∀ n w s, dig b n w s < b
  | 0, _, _ => hb
  | n + 1, w, s => by
    unfold dig
    split
    · exact Nat.mod_lt _ hb
    · exact dig_lt hb n _ s
/-- the way of a row -/
def enc (b : Nat) (g : Nat → Nat) : Nat → Nat
  | 0 => 0
  | n + 1 => enc b g n * b + g n
theorem enc_dig {b : Nat} {g : Nat → Nat} : ∀ n, (∀ s, s < n → g s < b) → ∀ s, s < n → dig b n (enc b g n) s = g s
  | 0, _, s, hs => absurd hs (by omega)
  | n + 1, hg, s, hs => by
    have hn := hg n (by omega)
    unfold dig enc
    rw [Nat.mul_comm, Nat.mul_add_div (by omega), Nat.div_eq_of_lt hn, Nat.add_zero, Nat.mul_add_mod, Nat.mod_eq_of_lt hn]
    by_cases e : s = n
    · rw [if_pos e, e]
    · rw [if_neg e]
      exact enc_dig n (fun s hs => hg s (by omega)) s (by omega)
theorem enc_lt {b : Nat} {g : Nat → Nat} : ∀ n, (∀ s, s < n → g s < b) → enc b g n < b ^ n
  | 0, _ => Nat.one_pos
  | n + 1, hg => by
    have h1 := enc_lt n (fun s hs => hg s (by omega))
    have h2 := hg n (by omega)
    have h3 : (enc b g n + 1) * b ≤ b ^ n * b := Nat.mul_le_mul_right b h1
    rw [Nat.succ_mul] at h3
    rw [enc, Nat.pow_succ]
    omega
theorem enc_le {b : Nat} {g : Nat → Nat} : ∀ n w, (∀ s, s < n → g s ≤ dig b n w s) → enc b g n ≤ w
  | 0, w, _ => Nat.zero_le w
  | n + 1, w, h => by
    have h1 := enc_le n (w / b) (fun s hs => by
      have := h s (by omega)
      unfold dig at this
      rwa [if_neg (by omega)] at this)
    have h2 := h n (by omega)
    unfold dig at h2
    rw [if_pos rfl] at h2
    have h3 := Nat.mul_le_mul_right b h1
    have h4 := Nat.div_add_mod' w b
    rw [enc]
    omega
theorem prod_pos {pos : Nat → Nat → Bool} {b : Nat} : ∀ n, (prodC pos b n = 0 ↔ ∃ s, s < n ∧ cnr (pos s) b = 0)
  | 0 => ⟨fun h => absurd (show (1 : Nat) = 0 from h) (by decide), fun ⟨s, hs, _⟩ => absurd hs (by omega)⟩
  | n + 1 => by
    rw [prodC, Nat.mul_eq_zero, prod_pos n]
    constructor
    · rintro (⟨s, hs, h⟩ | h)
      · exact ⟨s, by omega, h⟩
      · exact ⟨n, by omega, h⟩
    · rintro ⟨s, hs, h⟩
      by_cases e : s = n
      · exact Or.inr (e ▸ h)
      · exact Or.inl ⟨s, by omega, h⟩
theorem cnr_0 {p : Nat → Bool} : ∀ n, (cnr p n = 0 ↔ ∀ i, i < n → ¬ p i = true)
  | 0 => ⟨fun _ i hi => absurd hi (by omega), fun _ => rfl⟩
  | n + 1 => by
    rw [cnr, Nat.add_eq_zero_iff, cnr_0 n]
    constructor
    · rintro ⟨h1, h2⟩ i hi
      by_cases e : i = n
      · subst e
        intro c
        rw [if_pos c] at h2
        exact absurd h2 (by decide)
      · exact h1 i (by omega)
    · intro h
      exact ⟨fun i hi => h i (by omega), if_neg (h n (by omega))⟩
theorem rw_le {b n : Nat} (hb : b ≤ 6) (hn : n ≤ 5) : b ^ n ≤ 7776 := Nat.le_trans (Nat.pow_le_pow_left hb n) (Nat.pow_le_pow_right (j := 5) (by omega) hn)

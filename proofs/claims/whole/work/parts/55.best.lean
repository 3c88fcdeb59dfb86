/-! PURE: the best row, by numbers alone. -/
def fb (ok : Nat → Bool) (val : Nat → Nat) (lo : Nat) : Nat → Nat × Nat → Nat × Nat
  | 0, st => st
  | c + 1, st => if ok (lo + c) = true ∧ (fb ok val lo c st).1 < val (lo + c) + 1 then (val (lo + c) + 1, lo + c) else fb ok val lo c st
theorem fb_add (ok : Nat → Bool) (val : Nat → Nat) (lo c : Nat) (st : Nat × Nat) : ∀ d, fb ok val lo (c + d) st = fb ok val (lo + c) d (fb ok val lo c st)
  | 0 => rfl
  | d + 1 => by rw [← Nat.add_assoc, fb, fb_add ok val lo c st d, fb, Nat.add_assoc]
theorem fb_none {ok : Nat → Bool} {val : Nat → Nat} {lo : Nat} {st : Nat × Nat} : ∀ c, (∀ i, i < c → ok (lo + i) = true → val (lo + i) + 1 ≤ st.1) → fb ok val lo c st = st
  | 0, _ => rfl
  | c + 1, h => by
    rw [fb, fb_none c fun i hi => h i (by omega), if_neg]
    rintro ⟨h1, h2⟩
    have := h c (by omega) h1
    omega
def vlp (dgf : Nat → Nat → Nat) (b : Nat) : Nat → Nat → Nat
  | 0, _ => 1
  | k + 1, v => vlp dgf b k (v / b) * (10 - dgf k (v % b))
def okQ (L : Nat) (D : Prop) (b : Nat) : Nat → Nat → Prop
  | 0, _ => True
  | k + 1, v => okQ L D b k (v / b) ∧ L.testBit (v % b) = true ∧ (D → ¬ (rset (dig b k (v / b)) k).testBit (v % b) = true)
theorem okQ_pre {L : Nat} {D : Prop} {b n : Nat} : ∀ d w, d ≤ n → okQ L D b n w → okQ L D b (n - d) (w / b ^ d)
  | 0, w, _, h => by rw [Nat.pow_zero, Nat.div_one]; exact h
  | d + 1, w, hd, h => by
    have := okQ_pre d w (by omega) h
    rw [show n - d = (n - (d + 1)) + 1 by omega, okQ] at this
    rw [Nat.pow_succ, ← Nat.div_div_eq_div_mul]
    exact this.1
theorem vlp_le {dgf : Nat → Nat → Nat} {b n : Nat} : ∀ d w, d ≤ n → vlp dgf b n w ≤ vlp dgf b (n - d) (w / b ^ d) * 10 ^ d
  | 0, w, _ => by rw [Nat.pow_zero, Nat.div_one, Nat.pow_zero, Nat.mul_one]; exact Nat.le_refl _
  | d + 1, w, hd => by
    have := vlp_le (dgf := dgf) (b := b) (n := n) d w (by omega)
    refine Nat.le_trans this ?_
    rw [show n - d = (n - (d + 1)) + 1 by omega, vlp, Nat.div_div_eq_div_mul, ← Nat.pow_succ, Nat.pow_succ 10, Nat.mul_comm (10 ^ d) 10, ← Nat.mul_assoc]
    exact Nat.mul_le_mul_right _ (Nat.mul_le_mul_left _ (by omega))
theorem dig_pre {b n k w s : Nat} (hk : k ≤ n) (hs : s < k) : dig b k (w / b ^ (n - k)) s = dig b n w s := by
  rw [dig_at b k _ s hs, dig_at b n w s (by omega), Nat.div_div_eq_div_mul, ← Nat.pow_add, show n - k + (k - 1 - s) = n - 1 - s by omega]
theorem rset_cg {r q : Nat → Nat} : ∀ n, (∀ s, s < n → r s = q s) → rset r n = rset q n
  | 0, _ => rfl
  | n + 1, h => by rw [rset, rset, rset_cg n fun s hs => h s (by omega), h n (by omega)]
theorem in_iv {b d v i : Nat} (hi : i < b ^ d) : (v * b ^ d + i) / b ^ d = v := by
  rw [Nat.mul_comm, Nat.mul_add_div (by omega), Nat.div_eq_of_lt hi, Nat.add_zero]
/-- all ways that begin alike, mouse by mouse -/
def fbm (ok : Nat → Bool) (val : Nat → Nat) (lo e : Nat) : Nat → Nat × Nat → Nat × Nat
  | 0, st => st
  | m + 1, st => fb ok val (lo + m * e) e (fbm ok val lo e m st)
theorem fbm_fb (ok : Nat → Bool) (val : Nat → Nat) (lo e : Nat) (st : Nat × Nat) : ∀ m, fbm ok val lo e m st = fb ok val lo (m * e) st
  | 0 => by rw [Nat.zero_mul]; rfl
  | m + 1 => by rw [fbm, fbm_fb ok val lo e st m, Nat.succ_mul, fb_add]
theorem vlp_10 {dgf : Nat → Nat → Nat} {b : Nat} (k v : Nat) : vlp dgf b k v ≤ 10 ^ k := by
  have := vlp_le (dgf := dgf) (b := b) (n := k) k v (Nat.le_refl k)
  rw [Nat.sub_self, vlp, Nat.one_mul] at this
  exact this
theorem ext_div {b v m : Nat} (hm : m < b) : (v * b + m) / b = v ∧ (v * b + m) % b = m := by
  rw [Nat.mul_comm, Nat.mul_add_div (by omega), Nat.div_eq_of_lt hm, Nat.mul_add_mod, Nat.mod_eq_of_lt hm]
  exact ⟨rfl, rfl⟩

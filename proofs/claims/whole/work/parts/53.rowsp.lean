def accA (ok : Nat → Bool) (rs : Nat → Nat) : Nat → Nat
  | 0 => 63
  | w + 1 => if ok w = true then accA ok rs w &&& rs w else accA ok rs w
theorem accA_lt {ok : Nat → Bool} {rs : Nat → Nat} : ∀ w, accA ok rs w < 64
  | 0 => by show 63 < 64; omega
  | w + 1 => by
    rw [accA]
    split
    · exact Nat.lt_of_le_of_lt Nat.and_le_left (accA_lt w)
    · exact accA_lt w
theorem accA_b {ok : Nat → Bool} {rs : Nat → Nat} {i : Nat} (hi : i < 6) : ∀ W, ((accA ok rs W).testBit i = true ↔ ∀ w, w < W → ok w = true → (rs w).testBit i = true)
  | 0 => ⟨fun _ w hw => absurd hw (by omega), fun _ => m63 i hi⟩
  | W + 1 => by
    rw [accA]
    by_cases h : ok W = true
    · rw [if_pos h, Nat.testBit_and, Bool.and_eq_true, accA_b hi W]
      constructor
      · rintro ⟨h1, h2⟩ w hw ho
        by_cases e : w = W
        · rw [e]; exact h2
        · exact h1 w (by omega) ho
      · intro g
        exact ⟨fun w hw => g w (by omega), g W (by omega) h⟩
    · rw [if_neg h, accA_b hi W]
      constructor
      · intro g w hw ho
        by_cases e : w = W
        · exact absurd (e ▸ ho) h
        · exact g w (by omega) ho
      · intro g w hw
        exact g w (by omega)
theorem cnr_u {p : Nat → Bool} : ∀ n, (∀ i j, i < n → j < n → p i = true → p j = true → i = j) → cnr p n ≤ 1
  | 0, _ => by show 0 ≤ 1; omega
  | n + 1, h => by
    rw [cnr]
    by_cases hp : p n = true
    · have : cnr p n = 0 := (cnr_0 n).mpr fun i hi c => by have := h i n (by omega) (by omega) c hp; omega
      rw [this, if_pos hp]
      omega
    · rw [if_neg hp]
      exact cnr_u n fun i j hi hj => h i j (by omega) (by omega)
theorem cnr_1 {p : Nat → Bool} : ∀ n, cnr p n = 1 → ∀ i j, i < n → j < n → p i = true → p j = true → i = j
  | 0, h, _, _, _, _, _, _ => absurd (show 0 = 1 from h) (by decide)
  | n + 1, h, i, j, hi, hj, pi, pj => by
    rw [cnr] at h
    by_cases hp : p n = true
    · rw [if_pos hp] at h
      have hz := (cnr_0 n).mp (show cnr p n = 0 by omega)
      have e1 : i = n := Classical.byContradiction fun c => hz i (by omega) pi
      have e2 : j = n := Classical.byContradiction fun c => hz j (by omega) pj
      rw [e1, e2]
    · rw [if_neg hp] at h
      have e1 : i ≠ n := fun c => hp (c ▸ pi)
      have e2 : j ≠ n := fun c => hp (c ▸ pj)
      exact cnr_1 n (by omega) i j (by omega) (by omega) pi pj
theorem forc_b {pos : Nat → Nat → Bool} {b i : Nat} : ∀ n, ((forc pos b n).testBit i = true ↔ ∃ s, s < n ∧ cnr (pos s) b = 1 ∧ i < b ∧ pos s i = true)
  | 0 => ⟨fun h => absurd h (by show ¬ (0 : Nat).testBit i = true; rw [Nat.zero_testBit]; decide), fun ⟨s, hs, _⟩ => absurd hs (by omega)⟩
  | n + 1 => by
    rw [forc, Nat.testBit_or, Bool.or_eq_true, forc_b n]
    constructor
    · rintro (⟨s, hs, h⟩ | h)
      · exact ⟨s, by omega, h⟩
      · by_cases c : cnr (pos n) b = 1
        · rw [if_pos c] at h
          exact ⟨n, by omega, c, mk_y.mp h⟩
        · rw [if_neg c, Nat.zero_testBit] at h
          exact absurd h (by decide)
    · rintro ⟨s, hs, h1, h2⟩
      by_cases e : s = n
      · subst e
        rw [if_pos h1]
        exact Or.inr (mk_y.mpr h2)
      · exact Or.inl ⟨s, by omega, h1, h2⟩
theorem acc_forc {pos : Nat → Nat → Bool} {b n : Nat} (hb : b ≤ 6) (hz : prodC pos b n ≠ 0) : accA (okR pos b n) (fun w => rset (dig b n w) n) (b ^ n) = forc pos b n := by
  refine Nat.eq_of_testBit_eq fun i => ?_
  rcases Nat.lt_or_ge i 6 with hi | hi
  · refine Bool.eq_iff_iff.mpr ?_
    rw [accA_b hi, forc_b]
    constructor
    · intro h
      refine Classical.byContradiction fun hc => ?_
      have ch : ∀ s, ∃ m, s < n → m < b ∧ pos s m = true ∧ m ≠ i := fun s => Classical.byContradiction fun c => by
        have hs : s < n := Classical.byContradiction fun d => c ⟨0, fun e => absurd e d⟩
        have hall : ∀ m, m < b → pos s m = true → m = i := fun m hm hp => Classical.byContradiction fun d => c ⟨m, fun _ => ⟨hm, hp, d⟩⟩
        have hne : cnr (pos s) b ≠ 0 := fun d => hz ((prod_pos n).mpr ⟨s, hs, d⟩)
        have hle := cnr_u (p := pos s) b fun x y hx hy px py => by rw [hall x hx px, hall y hy py]
        have hex : ∃ m, m < b ∧ pos s m = true := Classical.byContradiction fun d => hne ((cnr_0 b).mpr fun m hm hp => d ⟨m, hm, hp⟩)
        obtain ⟨m, hm, hp⟩ := hex
        have := hall m hm hp
        subst this
        exact hc ⟨s, hs, by omega, hm, hp⟩
      obtain ⟨g, hg⟩ := Classical.skolem.mp ch
      have hlt : ∀ s, s < n → g s < b := fun s hs => (hg s hs).1
      have hd := enc_dig n hlt
      have := h (enc b g n) (enc_lt n hlt) ((okR_i pos b n _).mpr fun s hs => by rw [hd s hs]; exact (hg s hs).2.1)
      obtain ⟨s, hs, e⟩ := (rset_b n).mp this
      rw [hd s hs] at e
      exact (hg s hs).2.2 e
    · rintro ⟨s, hs, h1, h2, h3⟩ w hw ho
      refine (rset_b n).mpr ⟨s, hs, ?_⟩
      have hp := (okR_i pos b n w).mp ho s hs
      exact cnr_1 b h1 _ _ (dig_lt (by omega) n w s) h2 hp h3
  · have h2 : 64 ≤ 2 ^ i := Nat.pow_le_pow_right (n := 2) (i := 6) (by omega) hi
    rw [Nat.testBit_lt_two_pow (Nat.lt_of_lt_of_le (accA_lt _) h2), Nat.testBit_lt_two_pow (Nat.lt_of_lt_of_le (forc_lt hb n) h2)]
def gA (b n : Nat) (f : Nat → Int32) : Nat → Nat → Int32
  | 0 => f
  | w + 1 => rowG b n w (gA b n f w) n
theorem way_m {N : Nat} (hN : 8000 ≤ N) {H : Nat → Nat → Nat} {A : Nat → Nat → Int32} {B : Nat → Int32} (hI : HI H) (hm : RHm A 0 H) {sn : Nat} {ss sv : Nat → Nat} (h6 : sn ≤ 6) (g0 : B 10 = nI sn) (hg : ∀ i, i < sn → ss i < H 8 1 ∧ sv i < H 8 0 ∧ A 9 i = nI (ss i) ∧ A 10 i = nI (sv i)) {pos : Nat → Nat → Bool} (hp : ∀ s m, pos s m = true ↔ posP H sn ss sv s m) {w : Nat} (hw : w < H 8 0 ^ H 8 1) (g : Nat → Int32) :
    f_X8_rowOf N (nI w) (va_up A 11 g, B) = some (va_up A 11 (rowG (H 8 0) (H 8 1) w g (H 8 1)), B) ∧ (okR pos (H 8 0) (H 8 1) w = true → f_X8_couldBe N (va_up A 11 (rowG (H 8 0) (H 8 1) w g (H 8 1)), B) = some 1) ∧ (¬ okR pos (H 8 0) (H 8 1) w = true → f_X8_couldBe N (va_up A 11 (rowG (H 8 0) (H 8 1) w g (H 8 1)), B) = some 0) ∧ f_X8_rowSet N (va_up A 11 (rowG (H 8 0) (H 8 1) w g (H 8 1)), B) = some (nI (rset (dig (H 8 0) (H 8 1) w) (H 8 1))) ∧ ∀ s, s < H 8 1 → rowG (H 8 0) (H 8 1) w g (H 8 1) s = nI (dig (H 8 0) (H 8 1) w s) := by
  have hm6 := hI.1
  have h5 := hI.2.1
  have hle := rw_le hm6 h5
  have h0 : H 8 1 = 0 ∨ 0 < H 8 0 := by
    rcases Nat.eq_zero_or_pos (H 8 0) with c | c
    · rcases Nat.eq_zero_or_pos (H 8 1) with d | d
      · exact Or.inl d
      · rw [c, Nat.zero_pow d] at hw
        omega
    · exact Or.inr c
  have k0 : A 4 0 = nI (H 8 0) := hm.1 0 (by omega)
  have k1 : A 4 1 = nI (H 8 1) := hm.1 1 (by omega)
  have hrow : ∀ s, s < H 8 1 → rowG (H 8 0) (H 8 1) w g (H 8 1) s = nI (dig (H 8 0) (H 8 1) w s) := fun s hs => by
    unfold rowG
    rw [if_pos (by omega)]
  have hdl : ∀ s, s < H 8 1 → dig (H 8 0) (H 8 1) w s < H 8 0 := fun s hs => dig_lt (by omega) _ w s
  have hc := cbe_m hN (M := (va_up A 11 (rowG (H 8 0) (H 8 1) w g (H 8 1)), B)) hI hm h6 g0 hg (r := dig (H 8 0) (H 8 1) w) (fun s hs => ⟨hdl s hs, hrow s hs⟩)
  have hk : okR pos (H 8 0) (H 8 1) w = true ↔ ∀ s, s < H 8 1 → posP H sn ss sv s (dig (H 8 0) (H 8 1) w s) := by
    rw [okR_i]
    exact forall_congr' fun s => forall_congr' fun _ => hp s _
  refine ⟨?_, fun h => hc.1 (hk.mp h), fun h => hc.2 (fun c => h (hk.mpr c)), rs_m hN h5 k1 (fun s hs => ⟨by have := hdl s hs; omega, hrow s hs⟩), hrow⟩
  rw [row_m hN hm6 h5 h0 (by omega) (A := va_up A 11 g) k0 k1, bx_uu]
  rfl

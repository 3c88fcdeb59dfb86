theorem liv_n {H : Nat → Nat → Nat} {t : Nat → Nat} (hT : TI H t) {i : Nat} (hi : (t 1).testBit i = true) : i < H 8 0 := by
  rcases Nat.lt_or_ge i (H 8 0) with c | c
  · exact c
  · rw [Nat.testBit_lt_two_pow (Nat.lt_of_lt_of_le hT.2.1 (Nat.pow_le_pow_right (by omega) c))] at hi
    exact absurd hi (by decide)
theorem rs_le (H : Nat → Nat → Nat) (f S m : Nat) : pl H f ≤ rsum H f S m ∧ rsum H f S m ≤ gl H f := by
  have : f * 10 ^ H 8 1 ≤ (f + H 8 3) * 10 ^ H 8 1 := Nat.mul_le_mul_right _ (by omega)
  unfold rsum pl gl
  split <;> omega
theorem ex_S {H : Nat → Nat → Nat} {t : Nat → Nat} (hI : HI H) (hT : TI H t) (f : Nat) : (∃ S, 1 ≤ S ∧ S < 2 ^ H 8 0 ∧ atR H t f S) ↔ ∃ m, m < H 8 0 ∧ (t 1).testBit m = true ∧ dr H m ≤ gl H f := by
  have h6 := hI.1
  have h64 := two6 h6
  constructor
  · rintro ⟨S, h1, h2, hs, hr⟩
    have : ∃ i, i < 6 ∧ S.testBit i = true := by
      refine Classical.byContradiction fun c => ?_
      have := (z_b S (by omega)).mpr fun i hi => by
        cases e : S.testBit i
        · rfl
        · exact absurd ⟨i, hi, e⟩ c
      omega
    obtain ⟨i, hi, hb⟩ := this
    have hl := hs i hi hb
    exact ⟨i, liv_n hT hl, hl, Nat.le_trans ((hr i (liv_n hT hl) hl).1 hb) (rs_le H f S i).2⟩
  · rintro ⟨m, hm, hl, hd⟩
    by_cases hz : mk (fun m => (t 1).testBit m && decide (dr H m < pl H f)) (H 8 0) = 0
    · have hall : ∀ i, i < H 8 0 → (t 1).testBit i = true → pl H f ≤ dr H i := fun i hi hli => Nat.not_lt.mp fun c => by
        have : (mk (fun m => (t 1).testBit m && decide (dr H m < pl H f)) (H 8 0)).testBit i = true := mk_y.mpr ⟨hi, by rw [hli, decide_eq_true c]; rfl⟩
        rw [hz, Nat.zero_testBit] at this
        exact absurd this (by decide)
      have hp : 0 < 2 ^ m := Nat.pow_pos (by omega)
      have hbit : ∀ i, (2 ^ m).testBit i = true → i = m := fun i h => Classical.byContradiction fun c => by
        rw [Nat.testBit_two_pow_of_ne (Ne.symm c)] at h
        exact absurd h (by decide)
      refine ⟨2 ^ m, hp, Nat.pow_lt_pow_right (by omega) hm, fun i hi hb => by rw [hbit i hb]; exact hl, fun i hi hli => ⟨fun hb => ?_, fun hb => ?_⟩⟩
      · have := hbit i hb
        subst this
        unfold rsum clr
        rw [if_pos hb, Nat.sub_self, if_pos rfl]
        exact hd
      · unfold rsum clr
        rw [if_neg hb, if_neg (by omega)]
        exact hall i hi hli
    · refine ⟨mk (fun m => (t 1).testBit m && decide (dr H m < pl H f)) (H 8 0), Nat.pos_of_ne_zero hz, mk_lt _ _, fun i hi hb => ?_, fun i hi hli => ⟨fun hb => ?_, fun hb => ?_⟩⟩
      · have := (mk_y.mp hb).2
        rw [Bool.and_eq_true] at this
        exact this.1
      · have := (mk_y.mp hb).2
        rw [Bool.and_eq_true] at this
        have := of_decide_eq_true this.2
        have := (rs_le H f (mk (fun m => (t 1).testBit m && decide (dr H m < pl H f)) (H 8 0)) i).1
        omega
      · unfold rsum clr
        rw [if_neg hb, if_neg hz]
        exact Nat.not_lt.mp fun c => hb (mk_y.mpr ⟨hi, by rw [hli, Bool.true_and]; exact decide_eq_true c⟩)
theorem nm64 : ∀ k, k < 64 → (nI k = (-1 : Int32)) = False := by decide
theorem p_fund {N : Nat} (hN : 8000 ≤ N) : ∀ (X : BX) (M : Mo), Rel X M → ∃ (r : Int32) (M1 : Mo), f_X7_fund N X = some r ∧ f_X8_fund N M = some (r, M1) ∧ Rel X M1 := by
  intro X M hR
  obtain ⟨H, t, hI, hh, hm, hT, ht, hs, hU, hK, hS, hX⟩ := id hR
  have hm' : RHm (M.1, va_up M.2 0 (0 : Int32)).1 0 H := hm
  have hs' : RTm ((M.1, va_up M.2 0 (0 : Int32)).1 5) 0 t := hs
  have h6 := hI.1
  have h5 := hI.2.1
  have h99 := hI.2.2.2.1
  have h64 := two6 h6
  have c1 : (X.1 1).2 1 = nI (H 8 1) := hh.1 1 (by omega)
  have c3 : (X.1 1).2 3 = nI (H 8 3) := hh.1 3 (by omega)
  have mno : ∀ f, f < 100 → (¬ ∃ m, m < H 8 0 ∧ (t 1).testBit m = true ∧ dr H m ≤ gl H f) → X8_fund_s7 N M (nI f) = some (.inl (nI (f + 1))) := fun f hf h => by
    unfold X8_fund_s7
    rw [if_neg (lt_lit (k := 100) 100 rfl hf (by omega)), show f_X8_leastAtRest N (nI f) 1 (M.1, va_up M.2 0 0) = some (-1) from (la_m hN hI hT hm' hs' (f := f) (s0 := 1) hf (Or.inr rfl)).1 (fun S h1 h2 c => h ((ex_S hI hT f).mp ⟨S, h1, h2, c⟩))]
    simp only [Option.bind_some, ↓reduceIte, ea1]
  have mye : ∀ f, f < 100 → (∃ m, m < H 8 0 ∧ (t 1).testBit m = true ∧ dr H m ≤ gl H f) → X8_fund_s7 N M (nI f) = some (.inr (.inr (nI f, (M.1, va_up M.2 0 0)))) := fun f hf h => by
    obtain ⟨k, ⟨k1, k2, k3⟩, hlt⟩ := pk_least _ ((ex_S hI hT f).mpr h)
    unfold X8_fund_s7
    rw [if_neg (lt_lit (k := 100) 100 rfl hf (by omega)), show f_X8_leastAtRest N (nI f) 1 (M.1, va_up M.2 0 0) = some (nI k) from (la_m hN hI hT hm' hs' (f := f) (s0 := 1) hf (Or.inr rfl)).2 k k1 k2 k3 (fun j j1 j2 c => hlt j j2 ⟨j1, by omega, c⟩)]
    simp only [Option.bind_some, nm64 k (by omega), ↓reduceIte]
  have mend : X8_fund_s7 N M (nI 100) = some (.inr (.inl ())) := rfl
  rcases la_spec H t (H 8 0) with ⟨l0, ln⟩ | ⟨l0, lb, ll, lm⟩
  · refine ⟨-1, _, ?_, ?_, Rel_th hR⟩
    · unfold f_X7_fund
      rw [la_c hN hI hh hT ht, l0, c1, ten_c hN (by omega)]
      simp only [Option.bind_some]
      rw [jw_F (s := (0 : Int32)) (n := N) (fun j => nI j) 0 (r := .inl ()) (by omega) rfl (fun j hj => absurd hj (by omega)) rfl]
      rfl
    · unfold f_X8_fund
      rw [jw_F (s := (0 : Int32)) (n := N) (fun j => nI j) 100 (r := .inl ()) (by omega) rfl (fun j hj => mno j hj (fun ⟨m, h1, h2, _⟩ => ln m h1 h2)) mend]
      rfl
  · have eb : nI (la H t (H 8 0)) - 1 = nI (la H t (H 8 0) - 1) := es1 l0
    have hdr := dr_le hI (la H t (H 8 0) - 1)
    have iff1 : ∀ f, (∃ m, m < H 8 0 ∧ (t 1).testBit m = true ∧ dr H m ≤ gl H f) ↔ dr H (la H t (H 8 0) - 1) ≤ gl H f := fun f => ⟨fun ⟨m, h1, h2, h3⟩ => Nat.le_trans (lm m h1 h2).1 h3, fun h => ⟨_, lb, ll, h⟩⟩
    have cst : ∀ f, f < 100 → X7_fund_s19 N X (nI (la H t (H 8 0) - 1)) (lN (10 ^ H 8 1)) (nI f) = if gl H f < dr H (la H t (H 8 0) - 1) then some (.inl (nI (f + 1))) else some (.inr (.inr (nI f))) := fun f hf => by
      have := (pl_lt hI hf).2
      unfold X7_fund_s19
      rw [if_neg (show ¬ (99 : Int32) < nI f from nI_nlt (a := 99) (by omega) (by omega)), dr_c hN hI hh lb, c3]
      simp only [d6 _ (show la H t (H 8 0) - 1 < 6 by omega), ↓reduceIte, Option.bind_some, nI_add, nI_l (show f + H 8 3 < 2 ^ 31 by omega), lN_mul, show (f + H 8 3) * 10 ^ H 8 1 = gl H f from rfl, pk_lLT (show gl H f < 2 ^ 63 by omega) (show dr H (la H t (H 8 0) - 1) < 2 ^ 63 by omega), ea1]
    by_cases hex : ∃ f, f < 100 ∧ dr H (la H t (H 8 0) - 1) ≤ gl H f
    · obtain ⟨f, ⟨hf, hd⟩, hlt⟩ := pk_least _ hex
      refine ⟨nI f, _, ?_, ?_, Rel_th hR⟩
      · unfold f_X7_fund
        rw [la_c hN hI hh hT ht, eb, c1, ten_c hN (by omega)]
        simp only [Option.bind_some]
        rw [jw_F (s := (0 : Int32)) (n := N) (fun j => nI j) f (r := .inr (nI f)) (by omega) rfl (fun j hj => by rw [cst j (by omega), if_pos (Nat.not_le.mp fun c => hlt j hj ⟨by omega, c⟩)]) (by rw [cst f hf, if_neg (by omega)])]
        rfl
      · unfold f_X8_fund
        rw [jw_F (s := (0 : Int32)) (n := N) (fun j => nI j) f (by omega) rfl (fun j hj => mno j (by omega) (fun c => hlt j hj ⟨by omega, (iff1 j).mp c⟩)) (mye f hf ((iff1 f).mpr hd))]
        rfl
    · refine ⟨-1, _, ?_, ?_, Rel_th hR⟩
      · unfold f_X7_fund
        rw [la_c hN hI hh hT ht, eb, c1, ten_c hN (by omega)]
        simp only [Option.bind_some]
        rw [jw_F (s := (0 : Int32)) (n := N) (fun j => nI j) 100 (r := .inl ()) (by omega) rfl (fun j hj => by rw [cst j (by omega), if_pos (Nat.not_le.mp fun c => hex ⟨j, by omega, c⟩)]) rfl]
        rfl
      · unfold f_X8_fund
        rw [jw_F (s := (0 : Int32)) (n := N) (fun j => nI j) 100 (r := .inl ()) (by omega) rfl (fun j hj => mno j hj (fun c => hex ⟨j, hj, (iff1 j).mp c⟩)) mend]
        rfl

def gdP (H : Nat → Nat → Nat) (ss sv : Nat → Nat) (s m i : Nat) : Prop := (ss i = s → sv i = m ∧ 0 < dg H s m) ∧ (s < ss i → dg H s m < 10)
def posP (H : Nat → Nat → Nat) (sn : Nat) (ss sv : Nat → Nat) (s m : Nat) : Prop := ∀ i, i < sn → gdP H ss sv s m i
theorem exB2 (P : Nat → Nat → Prop) : ∃ p : Nat → Nat → Bool, ∀ i j, p i j = true ↔ P i j := ⟨fun i j => @decide (P i j) (Classical.propDecidable _), fun i j => @decide_eq_true_iff (P i j) (Classical.propDecidable _)⟩
theorem ip_c {N : Nat} (hN : 8000 ≤ N) {H : Nat → Nat → Nat} {sn : Nat} {ss sv : Nat → Nat} {G : Mo} (hI : HI H) (h6 : sn ≤ 6) (g0 : G.2 0 = nI sn) (hg : ∀ i, i < sn → ss i < H 8 1 ∧ sv i < H 8 0 ∧ G.1 0 i = nI (ss i) ∧ G.1 1 i = nI (sv i)) {s m : Nat} (hs : s < H 8 1) (hm : m < H 8 0) : (posP H sn ss sv s m → f_X3_isPossible N (nI s) (nI m) (nI (dg H s m)) G = some 1) ∧ (¬ posP H sn ss sv s m → f_X3_isPossible N (nI s) (nI m) (nI (dg H s m)) G = some 0) := by
  have hm6 := hI.1
  have hs5 := hI.2.1
  have hd := dg_le hI s m
  have step : ∀ i, i < sn → X3_isPossible_s3 (nI s) (nI m) (nI (dg H s m)) G (nI i) = if ss i = s then (if sv i = m then (if dg H s m = 0 then some (.inr (.inr 0)) else (if ss i ≤ s then some (.inl (nI (i + 1))) else (if dg H s m < 10 then some (.inl (nI (i + 1))) else some (.inr (.inr 0))))) else some (.inr (.inr 0))) else (if ss i ≤ s then some (.inl (nI (i + 1))) else (if dg H s m < 10 then some (.inl (nI (i + 1))) else some (.inr (.inr 0)))) := by
    intro i hi
    obtain ⟨b1, b2, b3, b4⟩ := hg i hi
    unfold X3_isPossible_s3
    simp only [g0, if_neg (nI_ge hi (show sn < 2 ^ 31 by omega)), if_neg (lt_lit (k := 6) 6 rfl (show i < 6 by omega) (by omega)), if_neg (njo (show i < 6 by omega) (by omega)), nI_clamp (show i < 2 ^ 31 by omega), b3, b4, nI_eq (show ss i < 2 ^ 31 by omega) (show s < 2 ^ 31 by omega), nI_eq (show sv i < 2 ^ 31 by omega) (show m < 2 ^ 31 by omega), nI_leI (show ss i < 2 ^ 31 by omega) (show s < 2 ^ 31 by omega), show (nI (dg H s m) = (0 : Int32)) ↔ dg H s m = 0 from nI_eq (b := 0) (by omega) (by omega), show (nI (dg H s m) < (10 : Int32)) ↔ dg H s m < 10 from nI_ltI (b := 10) (by omega) (by omega), ea1]
  have good : ∀ i, i < sn → gdP H ss sv s m i → X3_isPossible_s3 (nI s) (nI m) (nI (dg H s m)) G (nI i) = some (.inl (nI (i + 1))) := by
    intro i hi ⟨h1, h2⟩
    rw [step i hi]
    by_cases e : ss i = s
    · rw [if_pos e, if_pos (h1 e).1, if_neg (by have := (h1 e).2; omega), if_pos (by omega)]
    · rw [if_neg e]
      by_cases l : ss i ≤ s
      · rw [if_pos l]
      · rw [if_neg l, if_pos (h2 (by omega))]
  have bad : ∀ i, i < sn → ¬ gdP H ss sv s m i → X3_isPossible_s3 (nI s) (nI m) (nI (dg H s m)) G (nI i) = some (.inr (.inr 0)) := by
    intro i hi h
    rw [step i hi]
    by_cases e : ss i = s
    · rw [if_pos e]
      by_cases v : sv i = m
      · rw [if_pos v]
        by_cases z : dg H s m = 0
        · rw [if_pos z]
        · exact absurd ⟨fun _ => ⟨v, by omega⟩, fun c => by omega⟩ h
      · rw [if_neg v]
    · rw [if_neg e]
      by_cases l : ss i ≤ s
      · exact absurd ⟨fun c => absurd c e, fun c => by omega⟩ h
      · rw [if_neg l, if_neg (fun c => h ⟨fun c => absurd c e, fun _ => c⟩)]
  constructor
  · intro h
    unfold f_X3_isPossible
    rw [jw_F (s := (0 : Int32)) (n := N) (fun j => nI j) sn (r := .inl ()) (by omega) rfl (fun i hi => good i hi (h i hi))]
    · rfl
    · unfold X3_isPossible_s3
      rw [g0, if_pos (nI_le (Nat.le_refl _) (by omega))]
  · intro h
    have hx : ∃ i, i < sn ∧ ¬ gdP H ss sv s m i := Classical.byContradiction fun c => h fun i hi => Classical.byContradiction fun d => c ⟨i, hi, d⟩
    obtain ⟨i, ⟨hi, hb⟩, hlt⟩ := pk_least _ hx
    unfold f_X3_isPossible
    rw [jw_F (s := (0 : Int32)) (n := N) (fun j => nI j) i (r := .inr 0) (by omega) rfl (fun j hj => good j (by omega) (Classical.byContradiction fun d => hlt j hj ⟨by omega, d⟩)) (bad i hi hb)]
    rfl
theorem cnr_cg {p q : Nat → Bool} : ∀ n, (∀ i, i < n → p i = q i) → cnr p n = cnr q n
  | 0, _ => rfl
  | n + 1, h => by rw [cnr, cnr, cnr_cg n (fun i hi => h i (by omega)), h n (by omega)]
theorem pop_cn : ∀ S, S < 64 → pop S = cnr (fun i => S.testBit i) 6 := by decide +kernel
theorem pop_mk {p : Nat → Bool} {n : Nat} (hn : n ≤ 6) : pop (mk p n) = cnr p n := by
  rw [pop_cn _ (Nat.lt_of_lt_of_le (mk_lt p n) (two6 hn))]
  have h1 : cnr (fun i => (mk p n).testBit i) (n + (6 - n)) = cnr (fun i => (mk p n).testBit i) n := cnr_ext (fun k hk c => by have := (mk_y.mp c).1; omega) _
  rw [show n + (6 - n) = 6 by omega] at h1
  rw [h1]
  exact cnr_cg n fun i hi => by rw [mk_b, decide_eq_true hi, Bool.true_and]
theorem cnr_le (p : Nat → Bool) : ∀ n, cnr p n ≤ n
  | 0 => Nat.le_refl 0
  | n + 1 => by
    have := cnr_le p n
    rw [cnr]
    split <;> omega
theorem pa_c {N : Nat} (hN : 8000 ≤ N) {H : Nat → Nat → Nat} {sn : Nat} {ss sv : Nat → Nat} {G h : Mo} (hI : HI H) (hh : RHc h H) (h6 : sn ≤ 6) (g0 : G.2 0 = nI sn) (hg : ∀ i, i < sn → ss i < H 8 1 ∧ sv i < H 8 0 ∧ G.1 0 i = nI (ss i) ∧ G.1 1 i = nI (sv i)) {pos : Nat → Nat → Bool} (hp : ∀ s m, pos s m = true ↔ posP H sn ss sv s m) {s : Nat} (hs : s < H 8 1) : f_X3_possibleAt N (nI s) G h = some (nI (mk (pos s) (H 8 0))) := by
  have hm6 := hI.1
  have c0 : h.2 0 = nI (H 8 0) := hh.1 0 (by omega)
  unfold f_X3_possibleAt
  rw [jw_F (s := ((0 : Int32), (0 : Int32))) (n := N) (fun j => (nI (mk (pos s) j), nI j)) (H 8 0) (r := nI (mk (pos s) (H 8 0))) (by omega) rfl]
  · rfl
  · intro j hj
    unfold X3_possibleAt_s5
    dsimp only
    rw [c0, if_neg (nI_ge hj (by omega)), dAt_c hI hh hs hj]
    simp only [Option.bind_some]
    have hi := ip_c hN hI h6 g0 hg hs hj
    rw [← or_mk (p := pos s) (show j < 6 by omega)]
    by_cases hq : pos s j = true
    · rw [hi.1 ((hp s j).mp hq), if_pos hq]
      simp only [Option.bind_some, oz, ↓reduceIte, ea1]
    · rw [hi.2 (fun c => hq ((hp s j).mpr c)), if_neg hq]
      simp only [Option.bind_some, ↓reduceIte, ea1]
  · unfold X3_possibleAt_s5
    dsimp only
    rw [c0, if_pos (nI_le (Nat.le_refl _) (by omega))]
theorem rcnt_c {N : Nat} (hN : 8000 ≤ N) {H : Nat → Nat → Nat} {sn : Nat} {ss sv : Nat → Nat} {G h : Mo} (hI : HI H) (hh : RHc h H) (h6 : sn ≤ 6) (g0 : G.2 0 = nI sn) (hg : ∀ i, i < sn → ss i < H 8 1 ∧ sv i < H 8 0 ∧ G.1 0 i = nI (ss i) ∧ G.1 1 i = nI (sv i)) {pos : Nat → Nat → Bool} (hp : ∀ s m, pos s m = true ↔ posP H sn ss sv s m) : f_X3_rowCount N G h = some (nI (prodC pos (H 8 0) (H 8 1))) := by
  have hm6 := hI.1
  have hs5 := hI.2.1
  have c1 : h.2 1 = nI (H 8 1) := hh.1 1 (by omega)
  unfold f_X3_rowCount
  rw [jw_F (s := ((1 : Int32), (0 : Int32))) (n := N) (fun j => (nI (prodC pos (H 8 0) j), nI j)) (H 8 1) (r := nI (prodC pos (H 8 0) (H 8 1))) (by omega) rfl]
  · rfl
  · intro j hj
    unfold X3_rowCount_s4
    dsimp only
    rw [c1, if_neg (nI_ge hj (by omega)), pa_c hN hI hh h6 g0 hg hp hj]
    simp only [Option.bind_some]
    rw [bc_c _ (Nat.lt_of_lt_of_le (mk_lt _ _) (two6 hm6)), pop_mk hm6]
    simp only [Option.bind_some, pk_mul, ea1]
    rfl
  · unfold X3_rowCount_s4
    dsimp only
    rw [c1, if_pos (nI_le (Nat.le_refl _) (by omega))]
def forc (pos : Nat → Nat → Bool) (b : Nat) : Nat → Nat
  | 0 => 0
  | n + 1 => forc pos b n ||| (if cnr (pos n) b = 1 then mk (pos n) b else 0)
theorem forc_lt {pos : Nat → Nat → Bool} {b : Nat} (hb : b ≤ 6) : ∀ n, forc pos b n < 64
  | 0 => by show 0 < 64; omega
  | n + 1 => by
    rw [forc]
    refine Nat.or_lt_two_pow (n := 6) (forc_lt hb n) ?_
    split
    · exact Nat.lt_of_lt_of_le (mk_lt _ _) (two6 hb)
    · omega
theorem orr_i : ∀ a, a < 64 → ∀ b, b < 64 → nI a ||| nI b = nI (a ||| b) := by decide +kernel
theorem iar_c {N : Nat} (hN : 8000 ≤ N) {H : Nat → Nat → Nat} {sn : Nat} {ss sv : Nat → Nat} {G h : Mo} (hI : HI H) (hh : RHc h H) (h6 : sn ≤ 6) (g0 : G.2 0 = nI sn) (hg : ∀ i, i < sn → ss i < H 8 1 ∧ sv i < H 8 0 ∧ G.1 0 i = nI (ss i) ∧ G.1 1 i = nI (sv i)) {pos : Nat → Nat → Bool} (hp : ∀ s m, pos s m = true ↔ posP H sn ss sv s m) : f_X3_inAllRows N G h = some (if prodC pos (H 8 0) (H 8 1) = 0 then 0 else nI (forc pos (H 8 0) (H 8 1))) := by
  have hm6 := hI.1
  have hs5 := hI.2.1
  have c1 : h.2 1 = nI (H 8 1) := hh.1 1 (by omega)
  have hle : prodC pos (H 8 0) (H 8 1) ≤ 7776 := by
    rw [← okR_c]
    exact Nat.le_trans (cnr_le _ _) (rw_le hm6 hs5)
  unfold f_X3_inAllRows
  rw [rcnt_c hN hI hh h6 g0 hg hp]
  simp only [Option.bind_some, show (nI (prodC pos (H 8 0) (H 8 1)) = (0 : Int32)) ↔ prodC pos (H 8 0) (H 8 1) = 0 from nI_eq (b := 0) (by omega) (by omega)]
  by_cases hz : prodC pos (H 8 0) (H 8 1) = 0
  · rw [if_pos hz, if_pos hz]
  · rw [if_neg hz, if_neg hz, jw_F (s := ((0 : Int32), (0 : Int32))) (n := N) (fun j => (nI (forc pos (H 8 0) j), nI j)) (H 8 1) (r := nI (forc pos (H 8 0) (H 8 1))) (by omega) rfl]
    · rfl
    · intro j hj
      have hl : mk (pos j) (H 8 0) < 64 := Nat.lt_of_lt_of_le (mk_lt _ _) (two6 hm6)
      have hc := cnr_le (pos j) (H 8 0)
      unfold X3_inAllRows_s14
      dsimp only
      rw [c1, if_neg (nI_ge hj (by omega)), pa_c hN hI hh h6 g0 hg hp hj]
      simp only [Option.bind_some]
      rw [bc_c _ hl, pop_mk hm6]
      simp only [Option.bind_some, ea1, show (nI (cnr (pos j) (H 8 0)) = (1 : Int32)) ↔ cnr (pos j) (H 8 0) = 1 from nI_eq (b := 1) (by omega) (by omega)]
      rw [forc]
      by_cases h1 : cnr (pos j) (H 8 0) = 1
      · rw [if_pos h1, if_pos h1]
        simp only [Option.bind_some, orr_i _ (forc_lt hm6 j) _ hl]
      · rw [if_neg h1, if_neg h1]
        simp only [Option.bind_some, Nat.or_zero]
        rw [show nI (forc pos (H 8 0) j) ||| 0 = nI (forc pos (H 8 0) j) from Int32.or_zero]
    · unfold X3_inAllRows_s14
      dsimp only
      rw [c1, if_pos (nI_le (Nat.le_refl _) (by omega))]

def kW (i : Nat) : Int64 := [482854660462, 1684365670, 109330395394660, 422825784933, 1937007984, 7496052, 1734437230, 448546567013, 487301145972].getD i 0
theorem kW_b : ∀ i, i < 9 → ∀ j, j < wl i → (((kW i) >>> (((8 : Int32) * ((nI (wl i) - (1 : Int32)) - nI j)).toInt64 &&& 63)) &&& (255 : Int64)).toInt32 = nI (wch i j) := by decide +kernel
theorem iw_m {N : Nat} (hN : 8000 ≤ N) {A : Nat → Nat → Int32} {B : Nat → Int32} {n : Nat} {c : Nat → Nat} (h : TM A B n c) {s e i : Nat} (hi : i < 9) (h2 : B 2 = nI e) (h4 : B 4 = nI s) (hse : s ≤ e) (hen : e ≤ n) : (isW c s e i → f_X8_isWord N (kW i) (nI (wl i)) (A, B) = some 1) ∧ (¬ isW c s e i → f_X8_isWord N (kW i) (nI (wl i)) (A, B) = some 0) := by
  have hn := h.1
  have hwl := wl_le i hi
  have step : ∀ j, j < wl i → s + j < n → X8_isWord_s23 (kW i) (nI (wl i)) (A, B) ((1 : Int32), nI j) = some (.inl ((if c (s + j) = wch i j then 1 else 0), nI (j + 1))) := fun j hj hjn => by
    have hc := h.2.2 (s + j) hjn
    have g2 := (sch_n i hi j hj).2
    unfold X8_isWord_s23
    dsimp only
    rw [if_neg (nI_ge hj (by omega)), if_neg (by decide), h4, nI_add, let_m h hjn]
    simp only [Option.bind_some, kW_b i hi j hj, nI_eq (show c (s + j) < 2 ^ 31 by omega) (show wch i j < 2 ^ 31 by omega), ea1]
    by_cases g : c (s + j) = wch i j
    · rw [if_pos g, if_pos g]; rfl
    · rw [if_neg g, if_neg g]; rfl
  have zero : ∀ j, X8_isWord_s23 (kW i) (nI (wl i)) (A, B) ((0 : Int32), nI j) = some (.inr 0) := fun j => by
    unfold X8_isWord_s23
    dsimp only
    rw [if_pos rfl, ite_self]
  unfold f_X8_isWord
  simp only [h2, h4, pk_sub hse]
  by_cases hl : e - s = wl i
  case neg =>
    rw [if_neg (show ¬ nI (e - s) = nI (wl i) from fun d => hl ((nI_eq (show e - s < 2 ^ 31 by omega) (show wl i < 2 ^ 31 by omega)).mp d))]
    simp only [Option.bind_some]
    rw [jw_F (s := ((0 : Int32), (0 : Int32))) (n := N) (fun j => ((0 : Int32), nI j)) 0 (by omega) rfl (fun j hj => absurd hj (by omega)) (zero 0)]
    exact ⟨fun d => absurd d.1 hl, fun _ => rfl⟩
  rw [if_pos (show nI (e - s) = nI (wl i) by rw [hl])]
  simp only [Option.bind_some]
  constructor
  · intro hw
    rw [jw_F (s := ((1 : Int32), (0 : Int32))) (n := N) (fun j => ((1 : Int32), nI j)) (wl i) (r := 1) (by omega) rfl (fun j hj => by rw [step j hj (by omega), if_pos (hw.2 j hj)])]
    · rfl
    · unfold X8_isWord_s23
      dsimp only
      rw [if_pos (nI_le (Nat.le_refl _) (by omega))]
  · intro hw
    have hx : ∃ j, j < wl i ∧ ¬ c (s + j) = wch i j := Classical.byContradiction fun d => hw ⟨hl, fun j hj => Classical.byContradiction fun g => d ⟨j, hj, g⟩⟩
    obtain ⟨j, ⟨hj, hb⟩, hlt⟩ := pk_least _ hx
    rw [jw_F (s := ((1 : Int32), (0 : Int32))) (n := N) (fun k => ((if k ≤ j then (1 : Int32) else 0), nI k)) (j + 1) (r := 0) (by omega) rfl (fun k hk => by
      rw [if_pos (show k ≤ j by omega), step k (by omega) (by omega)]
      by_cases g : k = j
      · rw [g, if_neg hb, if_neg (by omega)]
      · rw [if_pos (Classical.byContradiction fun d => hlt k (by omega) ⟨by omega, d⟩), if_pos (by omega)]) (by rw [if_neg (by omega)]; exact zero _)]
    rfl

def wl (i : Nat) : Nat := lenJS.getD i 0
def wch (i k : Nat) : Nat := (sch i k).toNatClampNeg
theorem wl_le : ∀ i, i < 9 → wl i ≤ 6 := by decide
theorem sch_n : ∀ i, i < 9 → ∀ j, j < wl i → sch i j = nI (wch i j) ∧ wch i j < 256 := by decide +kernel
/-- from s to e stands word i -/
def isW (c : Nat → Nat) (s e i : Nat) : Prop := e - s = wl i ∧ ∀ j, j < wl i → c (s + j) = wch i j
theorem ih_c {N : Nat} (hN : 8000 ≤ N) {x : Mo} {n : Nat} {c : Nat → Nat} (h : TX x n c) {s e i : Nat} (hi : i < 9) (h2 : x.2 2 = nI s) (h3 : x.2 3 = nI e) (hse : s ≤ e) (hen : e ≤ n) : (isW c s e i → f_X5_isHere N i x = some 1) ∧ (¬ isW c s e i → f_X5_isHere N i x = some 0) := by
  have hn := h.1
  have hwl := wl_le i hi
  have step : ∀ j, j < wl i → s + j < n → X5_isHere_s20 i x (nI j) = if c (s + j) = wch i j then some (.inl (nI (j + 1))) else some (.inr (.inr 0)) := fun j hj hjn => by
    have hc := h.2.2 (s + j) hjn
    obtain ⟨g1, g2⟩ := sch_n i hi j hj
    unfold X5_isHere_s20
    rw [if_neg (nI_ge (show j < lenJS.getD i 0 from hj) (show lenJS.getD i 0 < 2 ^ 31 by show wl i < _; omega)), h2, nI_add, let_c h hjn]
    simp only [Option.bind_some]
    rw [if_neg (by rintro (q | q); exact nI_pos (show j < 2 ^ 31 by omega) q; exact nI_ge (show j < lenJS.getD i 0 from hj) (show lenJS.getD i 0 < 2 ^ 31 by show wl i < _; omega) q), nI_clamp (by omega), g1, ea1]
    simp only [nI_eq (show c (s + j) < 2 ^ 31 by omega) (show wch i j < 2 ^ 31 by omega)]
  unfold f_X5_isHere
  rw [h2, h3, pk_sub hse]
  by_cases hl : e - s = wl i
  case neg =>
    rw [if_neg (show ¬ nI (e - s) = nI (lenJS.getD i 0) from fun d => hl ((nI_eq (show e - s < 2 ^ 31 by omega) (show wl i < 2 ^ 31 by omega)).mp d))]
    exact ⟨fun d => absurd d.1 hl, fun _ => rfl⟩
  rw [if_pos (show nI (e - s) = nI (lenJS.getD i 0) by rw [hl]; rfl)]
  constructor
  · intro hw
    rw [jw_F (s := (0 : Int32)) (n := N) (fun j => nI j) (wl i) (r := .inl ()) (by omega) rfl (fun j hj => by rw [step j hj (by omega), if_pos (hw.2 j hj)])]
    · rfl
    · unfold X5_isHere_s20
      rw [if_pos (show nI (lenJS.getD i 0) ≤ nI (wl i) from nI_le (Nat.le_refl _) (by omega))]
  · intro hw
    have hx : ∃ j, j < wl i ∧ ¬ c (s + j) = wch i j := Classical.byContradiction fun d => hw ⟨hl, fun j hj => Classical.byContradiction fun g => d ⟨j, hj, g⟩⟩
    obtain ⟨j, ⟨hj, hb⟩, hlt⟩ := pk_least _ hx
    rw [jw_F (s := (0 : Int32)) (n := N) (fun j => nI j) j (r := .inr 0) (by omega) rfl (fun k hk => by rw [step k (by omega) (by omega), if_pos (Classical.byContradiction fun g => hlt k hk ⟨by omega, g⟩)]) (by rw [step j hj (by omega), if_neg hb])]
    rfl

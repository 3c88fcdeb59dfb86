/-! PURE: the parser: both at one token; a number read by both. -/
theorem nm1 {a : Nat} (h : a < 2 ^ 31) : ¬ nI a = (-1 : Int32) := fun q => by
  have h1 := nI_pos h
  rw [q] at h1
  exact h1 (by decide)
abbrev setA (A : Nat → Nat → Int32) (q p : Nat) (v : Int32) : Nat → Nat → Int32 := va_up A q (upd (A q) p v)
theorem setA_y (A : Nat → Nat → Int32) (q p : Nat) (v : Int32) : setA A q p v q p = v := by
  rw [setA, va_up_self]
  exact pk_us
theorem setA_n {A : Nat → Nat → Int32} {q p r i : Nat} {v : Int32} (h : r ≠ q ∨ i ≠ p) : setA A q p v r i = A r i := by
  by_cases h1 : r = q
  · subst h1
    rw [setA, va_up_self]
    exact pk_un (h.resolve_left (fun c => c rfl))
  · rw [setA, va_up_ne _ _ h1]
/-- the model's arrays but for its draft -/
def FM (A A0 : Nat → Nat → Int32) : Prop := (∀ j, j < 24 → A 1 j = A0 1 j) ∧ (∀ j, j < 5 → A 2 j = A0 2 j) ∧ (∀ j, j < 12 → A 3 j = A0 3 j) ∧ (∀ j, j < 4 → A 4 j = A0 4 j) ∧ ∀ q, q ≠ 1 → q ≠ 2 → q ≠ 3 → q ≠ 4 → A q = A0 q
theorem FM_refl (A : Nat → Nat → Int32) : FM A A := ⟨fun _ _ => rfl, fun _ _ => rfl, fun _ _ => rfl, fun _ _ => rfl, fun _ _ _ _ _ => rfl⟩
theorem FM_set {A A0 : Nat → Nat → Int32} (h : FM A A0) {q p : Nat} {v : Int32} (hq : (q = 1 ∧ 24 ≤ p) ∨ (q = 2 ∧ 5 ≤ p) ∨ (q = 3 ∧ 12 ≤ p) ∨ (q = 4 ∧ 4 ≤ p)) : FM (setA A q p v) A0 :=
  ⟨fun j hj => (setA_n (by omega)).trans (h.1 j hj), fun j hj => (setA_n (by omega)).trans (h.2.1 j hj), fun j hj => (setA_n (by omega)).trans (h.2.2.1 j hj), fun j hj => (setA_n (by omega)).trans (h.2.2.2.1 j hj), fun r h1 h2 h3 h4 => (va_up_ne _ _ (by omega)).trans (h.2.2.2.2 r h1 h2 h3 h4)⟩
theorem FM_trans {A A1 A2 : Nat → Nat → Int32} (h : FM A A1) (g : FM A1 A2) : FM A A2 :=
  ⟨fun j hj => (h.1 j hj).trans (g.1 j hj), fun j hj => (h.2.1 j hj).trans (g.2.1 j hj), fun j hj => (h.2.2.1 j hj).trans (g.2.2.1 j hj), fun j hj => (h.2.2.2.1 j hj).trans (g.2.2.2.1 j hj), fun r h1 h2 h3 h4 => (h.2.2.2.2 r h1 h2 h3 h4).trans (g.2.2.2.2 r h1 h2 h3 h4)⟩
/-- class and model look at one token, from s to e, of kind k, the word w -/
def At (n : Nat) (c : Nat → Nat) (x : Mo) (A : Nat → Nat → Int32) (B : Nat → Int32) (s e k w : Nat) : Prop :=
  (∃ i, TK n c i s e k) ∧ TX x n c ∧ TM A B n c ∧ x.2 2 = nI s ∧ x.2 3 = nI e ∧ B 2 = nI e ∧ B 3 = nI k ∧ B 4 = nI s ∧ (k = 1 → B 5 = nI w ∧ ((w < 9 ∧ isW c s e w) ∨ (w = 9 ∧ ∀ i, i < 9 → ¬ isW c s e i))) ∧ (k = 2 → B 5 = nI (num2 c s (e - s)) ∧ B 6 = nI (e - s))
theorem tk_k {n : Nat} {c : Nat → Nat} {i s e k : Nat} (h : TK n c i s e k) : k < 5 ∧ s ≤ n := by
  obtain ⟨h1, h2, -, -, h5⟩ := h
  rcases h5 with ⟨a, -⟩ | ⟨a, -⟩ | ⟨a, -⟩ | ⟨a, -⟩ | ⟨a, -⟩ <;> omega
theorem At_b {n : Nat} {c : Nat → Nat} {x : Mo} {A : Nat → Nat → Int32} {B : Nat → Int32} {s e k w : Nat} (h : At n c x A B s e k w) : k < 5 ∧ s ≤ n ∧ s ≤ e ∧ e ≤ n ∧ n ≤ 160 := by
  obtain ⟨⟨i, hk⟩, hx, -⟩ := h
  exact ⟨(tk_k hk).1, (tk_k hk).2, (tk_e hk).1, (tk_e hk).2, hx.1⟩
theorem At_A {n : Nat} {c : Nat → Nat} {x : Mo} {A A1 : Nat → Nat → Int32} {B : Nat → Int32} {s e k w : Nat} (h : At n c x A B s e k w) (hA : A1 0 = A 0) : At n c x A1 B s e k w := by
  obtain ⟨h1, h2, h3, h4⟩ := h
  exact ⟨h1, h2, ⟨h3.1, h3.2.1, fun i hi => ⟨(h3.2.2 i hi).1, by rw [hA]; exact (h3.2.2 i hi).2⟩⟩, h4⟩
theorem adv {N : Nat} (hN : 8000 ≤ N) {x : Mo} {A : Nat → Nat → Int32} {B : Nat → Int32} {n : Nat} {c : Nat → Nat} {i : Nat} (hx : TX x n c) (hm : TM A B n c) (hi : i ≤ n) (h3 : x.2 3 = nI i) (h2 : B 2 = nI i) : ∃ (s e k w : Nat) (B1 : Nat → Int32), f_X5_nextToken N x = some (x.1, va_up (va_up x.2 2 (nI s)) 3 (nI e)) ∧ f_X8_advances N (A, B) = some (A, B1) ∧ At n c (x.1, va_up (va_up x.2 2 (nI s)) 3 (nI e)) A B1 s e k w ∧ ∀ q, (q < 2 ∨ 6 < q) → B1 q = B q := by
  obtain ⟨s, e, k, hk⟩ := tk_ex c hi
  obtain ⟨q1, q2⟩ := tk_e hk
  have hw : ∃ w, ((w < 9 ∧ isW c s e w) ∨ (w = 9 ∧ ∀ i, i < 9 → ¬ isW c s e i)) ∧ ∀ B1 : Nat → Int32, B1 1 = B 1 → B1 2 = nI e → B1 4 = nI s → f_X8_wordOf N (A, B1) = some (nI w) := by
    by_cases hex : ∃ w, w < 9 ∧ isW c s e w
    · obtain ⟨w, w1, w2⟩ := hex
      refine ⟨w, Or.inl ⟨w1, w2⟩, fun B1 b1 b2 b4 => ?_⟩
      obtain ⟨w', f, o⟩ := wof_m hN (A := A) (B := B1) ⟨hm.1, b1.trans hm.2.1, hm.2.2⟩ b2 b4 q1 q2
      rcases o with ⟨o1, o2⟩ | ⟨-, o2⟩
      · rw [f, isW_one o1 w1 o2 w2]
      · exact absurd w2 (o2 w w1)
    · have no : ∀ i, i < 9 → ¬ isW c s e i := fun i h9 hw => hex ⟨i, h9, hw⟩
      refine ⟨9, Or.inr ⟨rfl, no⟩, fun B1 b1 b2 b4 => ?_⟩
      obtain ⟨w', f, o⟩ := wof_m hN (A := A) (B := B1) ⟨hm.1, b1.trans hm.2.1, hm.2.2⟩ b2 b4 q1 q2
      rcases o with ⟨o1, o2⟩ | ⟨o1, -⟩
      · exact absurd o2 (no w' o1)
      · rw [f, o1]
  obtain ⟨w, w1, w2⟩ := hw
  obtain ⟨B1, a1, a2, a3, a4, a5, a6, a7⟩ := av_m hN hm h2 hk (W := nI w) (fun _ => w2)
  refine ⟨s, e, k, w, B1, nt_c hN hx h3 hk, a1, ⟨⟨i, hk⟩, hx, ⟨hm.1, (a7 1 (by decide) (by decide) (by decide) (by decide) (by decide)).trans hm.2.1, hm.2.2⟩, rfl, rfl, a2, a3, a4, fun k1 => ⟨a5 k1, w1⟩, a6⟩, fun q hq => a7 q (by omega) (by omega) (by omega) (by omega) (by omega)⟩
theorem nu_f {N : Nat} {A : Nat → Nat → Int32} {B : Nat → Int32} {m : Int32} (h8 : ¬ B 8 = -1) : f_X8_number N m (A, B) = some (0, (A, B)) := by
  have hf : f_X8_fails (A, B) = some (A, B) := by
    unfold f_X8_fails
    simp only [if_neg h8, Option.bind_some, va_id]
  unfold f_X8_number
  by_cases h3 : B 3 = 2
  · by_cases h6 : 2 < B 6
    · simp only [h3, if_pos h6, hf, ↓reduceIte, Option.bind_some, if_neg h8]
    · by_cases h5 : B 5 ≤ m
      · simp only [h3, if_neg h6, if_pos h5, ↓reduceIte, Option.bind_some, if_neg h8]
      · simp only [h3, if_neg h6, if_neg h5, hf, ↓reduceIte, Option.bind_some, if_neg h8]
  · simp only [if_neg h3, hf, Option.bind_some, if_neg h8]
theorem num_step {N : Nat} (hN : 8000 ≤ N) {n : Nat} {c : Nat → Nat} {x : Mo} {A : Nat → Nat → Int32} {B : Nat → Int32} {s e k w : Nat} (h : At n c x A B s e k w) (h8 : B 8 = -1) {m : Nat} (hm : m < 100) : (∃ v, v ≤ m ∧ f_X5_numberHere N x = some (nI v) ∧ f_X8_number N (nI m) (A, B) = (f_X8_advances N (A, B)).bind (fun z => some (nI v, z))) ∨ (∃ r : Int32, f_X5_numberHere N x = some r ∧ (r < 0 ∨ (¬ r < 0 ∧ ¬ r ≤ nI m)) ∧ f_X8_number N (nI m) (A, B) = some (0, (A, va_up B 8 (nI s)))) := by
  obtain ⟨g1, g2, g3, g4, g5⟩ := At_b h
  obtain ⟨⟨i, hk⟩, hx, hm', x2, x3, b2, b3, b4, -, h5⟩ := h
  obtain ⟨y1, y2, y3⟩ := nh_c hN hx x2 x3 hk
  have n4 : ¬ B 4 = -1 := by rw [b4]; exact nm1 (by omega)
  by_cases k2 : k = 2
  · obtain ⟨e5, e6⟩ := h5 k2
    rcases Nat.lt_or_ge 2 (e - s) with hl | hl
    · refine Or.inr ⟨-1, y2 k2 hl, Or.inl (by decide), ?_⟩
      rw [nu_n (Or.inr (Or.inl (by rw [e6]; exact nI_lt (a := 2) hl (by omega)))) h8 n4, b4]
    · have hs : s < n := by
        obtain ⟨-, -, -, -, t5⟩ := hk
        rcases t5 with ⟨a, -⟩ | ⟨a, -⟩ | ⟨-, a, -⟩ | ⟨a, -⟩ | ⟨a, -⟩ <;> omega
      have hb : num2 c s (e - s) < 10000 := by
        have c1 := (hx.2.2 s hs).1
        unfold num2
        split
        · omega
        · split
          · omega
          · have c2 := (hx.2.2 (s + 1) (by omega)).1
            omega
      by_cases hv : num2 c s (e - s) ≤ m
      · refine Or.inl ⟨_, hv, y1 k2 hl, ?_⟩
        rw [nu_y (by rw [b3, k2]; rfl) (by rw [e6]; exact nI_nlt (a := 2) hl (by omega)) (by rw [e5]; exact nI_le hv (by omega)) h8, e5]
      · refine Or.inr ⟨_, y1 k2 hl, Or.inr ⟨nI_pos (by omega), nI_ge (by omega) (by omega)⟩, ?_⟩
        rw [nu_n (Or.inr (Or.inr (by rw [e5]; exact nI_ge (by omega) (by omega)))) h8 n4, b4]
  · refine Or.inr ⟨-1, y3 k2, Or.inl (by decide), ?_⟩
    rw [nu_n (Or.inl (by rw [b3]; exact fun q => k2 ((nI_eq (b := 2) (by omega) (by omega)).mp q))) h8 n4, b4]

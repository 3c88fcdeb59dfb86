/-! PURE: a clause read by both, its word and its end. -/
def tailM (z13 : Mo) : Option (Int32 × Mo) := ((if (z13.2 3) = (3 : Int32) then some (1 : Int32) else some (0 : Int32)).bind (fun z14 => (if z14 = (0 : Int32) then (if (z13.2 3) = (0 : Int32) then some (z14, (z13.1, va_up z13.2 7 ((z13.2 7) + (1 : Int32)))) else ((f_X8_fails (z13.1, va_up z13.2 7 ((z13.2 7) + (1 : Int32)))).bind (fun z18 => some (z14, z18)))) else some (z14, (z13.1, va_up z13.2 7 ((z13.2 7) + (1 : Int32)))))))
def bodyM (N : Nat) (z5 : Mo) : Option (Int32 × Mo) := (if (z5.2 3) = (1 : Int32) then ((f_X8_canStand (z5.2 5) z5).bind (fun z10 => (if z10 = (0 : Int32) then ((f_X8_fails z5).bind (fun z19 => some ((1 : Int32), z19))) else ((f_X8_advances N z5).bind (fun z12 => ((f_X8_clause N (z5.2 5) z12).bind (fun z13 => tailM z13))))))) else ((f_X8_fails z5).bind (fun z9 => some ((1 : Int32), z9))))
theorem rs_b {N : Nat} {A : Nat → Nat → Int32} {B B1 : Nat → Int32} {j : Nat} (h8 : B 8 = -1) (ha : f_X8_advances N (A, B) = some (A, B1)) (h7 : B1 7 = nI j) (hj : j < 14) : X8_reads_s21 N ((1 : Int32), (A, B)) = (bodyM N (A, B1)).bind (fun z6 => some (.inl (z6.1, z6.2))) := by
  have e : X8_reads_s21 N ((1 : Int32), (A, B)) = (if (1 : Int32) = 0 then some (.inr (A, B)) else (if (B 8) = (-1 : Int32) then ((f_X8_advances N (A, B)).bind (fun z5 => ((if (z5.2 7) = (14 : Int32) then some ((1 : Int32), (z5.1, va_up z5.2 8 (B 4))) else bodyM N z5).bind (fun z6 => some (.inl (z6.1, z6.2)))))) else some (.inr (A, B)))) := rfl
  rw [e]
  simp only [oz, h8, ha, h7, ↓reduceIte, Option.bind_some, if_neg (show ¬ nI j = (14 : Int32) from fun q => absurd ((nI_eq (b := 14) (by omega) (by omega)).mp q) (by omega))]
theorem rs_14 {N : Nat} {A : Nat → Nat → Int32} {B B1 : Nat → Int32} (h8 : B 8 = -1) (ha : f_X8_advances N (A, B) = some (A, B1)) (h7 : B1 7 = nI 14) : X8_reads_s21 N ((1 : Int32), (A, B)) = some (.inl ((1 : Int32), (A, va_up B1 8 (B 4)))) := by
  have e : X8_reads_s21 N ((1 : Int32), (A, B)) = (if (1 : Int32) = 0 then some (.inr (A, B)) else (if (B 8) = (-1 : Int32) then ((f_X8_advances N (A, B)).bind (fun z5 => ((if (z5.2 7) = (14 : Int32) then some ((1 : Int32), (z5.1, va_up z5.2 8 (B 4))) else bodyM N z5).bind (fun z6 => some (.inl (z6.1, z6.2)))))) else some (.inr (A, B)))) := rfl
  rw [e]
  simp only [oz, h8, ha, h7, ↓reduceIte, Option.bind_some, if_pos (show nI 14 = (14 : Int32) from rfl)]
theorem rs_0 {N : Nat} (M : Mo) : X8_reads_s21 N ((0 : Int32), M) = some (.inr M) := rfl
theorem rs_f {N : Nat} {A : Nat → Nat → Int32} {B : Nat → Int32} (h8 : ¬ B 8 = -1) (z : Int32) : X8_reads_s21 N (z, (A, B)) = some (.inr (A, B)) := by
  unfold X8_reads_s21
  by_cases h : z = 0
  · simp only [h, ↓reduceIte]
  · simp only [if_neg h, if_neg h8]
theorem fa_f {A : Nat → Nat → Int32} {B : Nat → Int32} (h8 : ¬ B 8 = -1) : f_X8_fails (A, B) = some (A, B) := by
  unfold f_X8_fails
  simp only [if_neg h8, Option.bind_some, va_id]
theorem tail_f {A : Nat → Nat → Int32} {B : Nat → Int32} (h8 : ¬ B 8 = -1) : ∃ (z : Int32) (B1 : Nat → Int32), tailM (A, B) = some (z, (A, B1)) ∧ ∀ q, q ≠ 7 → B1 q = B q := by
  have k : ¬ (va_up B 7 (B 7 + 1)) 8 = -1 := h8
  unfold tailM
  by_cases h3 : B 3 = 3
  · simp only [h3, ↓reduceIte, Option.bind_some, oz]
    exact ⟨_, _, rfl, fun q hq => va_up_ne _ _ hq⟩
  · by_cases h0 : B 3 = 0
    · simp only [h0, ↓reduceIte, Option.bind_some, if_neg (show ¬ (0 : Int32) = 3 by decide)]
      exact ⟨_, _, rfl, fun q hq => va_up_ne _ _ hq⟩
    · simp only [if_neg h3, if_neg h0, ↓reduceIte, Option.bind_some, fa_f k]
      exact ⟨_, _, rfl, fun q hq => va_up_ne _ _ hq⟩
theorem no_word {n : Nat} {c : Nat → Nat} {i s e k : Nat} (h : TK n c i s e k) (hk : k ≠ 1) : ∀ i, i < 9 → ¬ isW c s e i := by
  have hs : ∀ i, i < 9 → smlB (wch i 0) = true := by decide +kernel
  intro i hi hw
  have p := wl_pos i hi
  have c0 := hw.2 0 p
  rw [Nat.add_zero] at c0
  have c1 := hs i hi
  rw [← c0] at c1
  have l := hw.1
  obtain ⟨-, -, -, -, h5⟩ := h
  rcases h5 with ⟨-, a, b⟩ | ⟨a, -⟩ | ⟨-, -, a, -⟩ | ⟨-, -, a, -⟩ | ⟨-, -, a, -⟩
  · omega
  · exact hk a
  · exact a c1
  · exact a c1
  · exact a c1
theorem fill_ex {N : Nat} (hN : 8000 ≤ N) (v : Int32) {n : Nat} (hn : n ≤ 100) (f : Nat → Int32) : f_J7_fill_53178 N v n f = some (fillG f 0 (fun _ => v) n) := by
  unfold f_J7_fill_53178
  rw [jw_F (s := ((0 : Int32), f)) (n := N) (fun j => (nI j, fillG f 0 (fun _ => v) j)) n (r := fillG f 0 (fun _ => v) n) (by omega) rfl]
  · rfl
  · intro j hj
    unfold J7_fill_53178_s5
    dsimp only
    rw [if_neg (show ¬ Int32.ofNat n ≤ nI j from nI_ge hj (by omega)), if_neg (njo hj (by omega)), nI_clamp (by omega), ea1, fillG, Nat.zero_add]
  · unfold J7_fill_53178_s5
    dsimp only
    rw [if_pos (show Int32.ofNat n ≤ nI n from nI_le (Nat.le_refl _) (by omega))]
theorem canS_m {w : Nat} (hw : w < 4) (A : Nat → Nat → Int32) (B : Nat → Int32) : f_X8_canStand (nI w) (A, B) = if (6 : Int32) ≤ A 4 4 then some 0 else some 1 := by
  unfold f_X8_canStand
  rw [if_neg (show ¬ (4 : Int32) ≤ nI w from nI_ge (b := 4) hw (by omega))]
theorem canS_4 (A : Nat → Nat → Int32) (B : Nat → Int32) : f_X8_canStand (nI 4) (A, B) = if (5 : Int32) ≤ A 4 5 then some 0 else some 1 := rfl
theorem canS_5 (A : Nat → Nat → Int32) (B : Nat → Int32) : f_X8_canStand (nI 5) (A, B) = if (4 : Int32) ≤ A 4 6 then some 0 else some 1 := rfl
theorem canS_9 (A : Nat → Nat → Int32) (B : Nat → Int32) : f_X8_canStand (nI 6) (A, B) = some 1 ∧ f_X8_canStand (nI 7) (A, B) = some 1 ∧ f_X8_canStand (nI 8) (A, B) = some 1 ∧ f_X8_canStand (nI 9) (A, B) = some 0 := ⟨rfl, rfl, rfl, rfl⟩
/-- a clause of both: a fault, or done -/
def Cls (N n : Nat) (c : Nat → Nat) (x h : Mo) (A0 A : Nat → Nat → Int32) (B : Nat → Int32) : Prop :=
  (∃ (x1 : Mo) (s1 : Nat) (z : Int32) (A1 : Nat → Nat → Int32) (B1 : Nat → Int32), s1 ≤ 160 ∧ f_X5_readClause N x h = some (0, x1, h) ∧ bodyM N (A, B) = some (z, (A1, B1)) ∧ TX x1 n c ∧ x1.2 2 = nI s1 ∧ B1 8 = nI s1 ∧ FM A1 A0 ∧ ∀ q, (q < 2 ∨ 8 < q) → B1 q = B q) ∨
  (∃ (x1 h1 : Mo) (A1 : Nat → Nat → Int32) (B1 : Nat → Int32) (H1 : Nat → Nat → Nat) (s1 e1 k1 w1 : Nat), f_X5_readClause N x h = some (1, x1, h1) ∧ bodyM N (A, B) = tailM (A1, B1) ∧ At n c x1 A1 B1 s1 e1 k1 w1 ∧ HI H1 ∧ RHc h1 H1 ∧ RHm A1 1 H1 ∧ FM A1 A0 ∧ ∀ q, (q < 2 ∨ 6 < q) → B1 q = B q)
/-- the word may stand: its numbers, and what it does -/
theorem cls_y {N : Nat} (hN : 8000 ≤ N) {n : Nat} {c : Nat → Nat} {x h : Mo} {A A0 : Nat → Nat → Int32} {B : Nat → Int32} {s e w : Nat} (hAt : At n c x A B s e 1 w) (h8 : B 8 = -1) (hw : w < 9) (hc : f_X0_takes (nI w) h = some 1) (hm : f_X8_canStand (nI w) (A, B) = some 1) (ho : ∀ (x1 : Mo) (B1 : Nat → Int32) (s1 e1 k1 w1 : Nat), At n c x1 A B1 s1 e1 k1 w1 → B1 8 = -1 → Out n c h A0 B1 (RCc N w x1 h) (f_X8_clause N (nI w) (A, B1))) : Cls N n c x h A0 A B := by
  obtain ⟨g1, g2, g3, g4, g5⟩ := At_b hAt
  obtain ⟨⟨i, hk⟩, hx, hmm, x2, x3, b2, b3, b4, h1, -⟩ := hAt
  obtain ⟨b5, hor⟩ := h1 rfl
  have hW : isW c s e w := by
    rcases hor with ⟨-, q⟩ | ⟨q, -⟩
    · exact q
    · omega
  have hwh := (whe_c hN hx x2 x3 g3 g4).1 w hw hW
  obtain ⟨s1, e1, k1, w1, B1, a1, a2, a3, a4⟩ := adv hN hx hmm g4 x3 b2
  have i8 : B1 8 = -1 := (a4 8 (by omega)).trans h8
  have rc : f_X5_readClause N x h = RCc N w (va_up x.1 1 (fillG (x.1 1) 0 (fun _ => 0) 3), va_up (va_up x.2 2 (nI s1)) 3 (nI e1)) h := by
    unfold f_X5_readClause
    simp only [hwh, hc, a1, fill_ex hN (0 : Int32) (show 3 ≤ 100 by omega) (x.1 1), Option.bind_some, oz, ↓reduceIte]
    rfl
  have bm : bodyM N (A, B) = (f_X8_clause N (nI w) (A, B1)).bind (fun z13 => tailM z13) := by
    unfold bodyM
    simp only [b3, b5, hm, a2, Option.bind_some, oz, ↓reduceIte, if_pos (show nI 1 = (1 : Int32) from rfl)]
  have a3' : At n c (va_up x.1 1 (fillG (x.1 1) 0 (fun _ => 0) 3), va_up (va_up x.2 2 (nI s1)) 3 (nI e1)) A B1 s1 e1 k1 w1 := a3
  rcases ho _ _ _ _ _ _ a3' i8 with ⟨y, t, A1, B2, o1, o2, o3, o4, o5, o6, o7, o8⟩ | ⟨y, h1, A1, B2, H1, t1, t2, t3, t4, o1, o2, o3, o4, o5, o6, o7, o8⟩
  · have n8 : ¬ B2 8 = -1 := by rw [o6]; exact nm1 (by omega)
    obtain ⟨z, B3, z1, z2⟩ := tail_f (A := A1) n8
    refine Or.inl ⟨y, t, z, A1, B3, o1, rc.trans o2, ?_, o4, o5, (z2 8 (by decide)).trans o6, o7, fun q hq => (z2 q (by omega)).trans ((o8 q hq).trans (a4 q (by omega)))⟩
    rw [bm, o3, Option.bind_some, z1]
  · refine Or.inr ⟨y, h1, A1, B2, H1, t1, t2, t3, t4, rc.trans o1, ?_, o3, o4, o5, o6, o7, fun q hq => (o8 q hq).trans (a4 q hq)⟩
    rw [bm, o2, Option.bind_some]
/-- no word, or one that may not stand -/
theorem cls_n {N n : Nat} {c : Nat → Nat} {x h : Mo} {A A0 : Nat → Nat → Int32} {B : Nat → Int32} {s e k w : Nat} (hAt : At n c x A B s e k w) (h8 : B 8 = -1) (hF : FM A A0) (hc : f_X5_readClause N x h = some (0, x, h)) (hm : ¬ k = 1 ∨ f_X8_canStand (B 5) (A, B) = some 0) : Cls N n c x h A0 A B := by
  obtain ⟨g1, g2, g3, g4, g5⟩ := At_b hAt
  have b4 : B 4 = nI s := hAt.2.2.2.2.2.2.2.1
  have b3 : B 3 = nI k := hAt.2.2.2.2.2.2.1
  refine Or.inl ⟨x, s, 1, A, va_up B 8 (nI s), by omega, hc, ?_, hAt.2.1, hAt.2.2.2.1, va_up_self _ _ _, hF, fun q hq => va_up_ne _ _ (by omega)⟩
  unfold bodyM
  by_cases h1 : k = 1
  · rcases hm with q | q
    · exact absurd h1 q
    · simp only [b3, h1, if_pos (show nI 1 = (1 : Int32) from rfl), q, Option.bind_some, ↓reduceIte, fa_m h8, b4]
  · simp only [b3, if_neg (show ¬ nI k = (1 : Int32) from fun q => h1 ((nI_eq (b := 1) (by omega) (by omega)).mp q)), Option.bind_some, fa_m h8, b4]
theorem cls {N : Nat} (hN : 8000 ≤ N) {n : Nat} {c : Nat → Nat} {x h : Mo} {A A0 : Nat → Nat → Int32} {B : Nat → Int32} {s e k w : Nat} {H : Nat → Nat → Nat} (hAt : At n c x A B s e k w) (h8 : B 8 = -1) (hI : HI H) (hh : RHc h H) (hm : RHm A 1 H) (hF : FM A A0) : Cls N n c x h A0 A B := by
  have hAt' := hAt
  obtain ⟨g1, g2, g3, g4, g5⟩ := At_b hAt
  obtain ⟨⟨i, hk⟩, hx, hmm, x2, x3, b2, b3, b4, h1, -⟩ := hAt
  have hno : (∀ i, i < 9 → ¬ isW c s e i) → f_X5_readClause N x h = some (0, x, h) := fun q => by
    unfold f_X5_readClause
    simp only [(whe_c hN hx x2 x3 g3 g4).2 q, (takes_9 h).2.2.2, Option.bind_some, ↓reduceIte]
  by_cases k1 : k = 1
  · subst k1
    obtain ⟨b5, hor⟩ := h1 rfl
    rcases hor with ⟨hw, hW⟩ | ⟨rfl, hW⟩
    · have hwh := (whe_c hN hx x2 x3 g3 g4).1 w hw hW
      have hz : f_X0_takes (nI w) h = some 0 → f_X5_readClause N x h = some (0, x, h) := fun q => by
        unfold f_X5_readClause
        simp only [hwh, q, Option.bind_some, ↓reduceIte]
      rcases Nat.lt_or_ge w 4 with w4 | w4
      · have c0 : h.2 0 = nI (H 8 0) := hh.1 0 (by omega)
        have d0 : A 4 4 = nI (H 8 0) := hm.1 0 (by omega)
        have h6 := hI.1
        rcases Nat.lt_or_ge (H 8 0) 6 with r | r
        · have q : ¬ (6 : Int32) ≤ nI (H 8 0) := lt_lit (k := 6) 6 rfl r (by omega)
          exact cls_y hN hAt' h8 hw (by rw [takes_m w w4, c0, if_neg q]) (by rw [canS_m w4, d0, if_neg q]) (fun x1 B1 s1 e1 k1 w1 t t8 => cl_mouse hN w4 t t8 hI hh hm hF r)
        · have q : (6 : Int32) ≤ nI (H 8 0) := nI_le (a := 6) r (by omega)
          exact cls_n hAt' h8 hF (hz (by rw [takes_m w w4, c0, if_pos q])) (Or.inr (by rw [b5, canS_m w4, d0, if_pos q]))
      · rcases (show w = 4 ∨ w = 5 ∨ w = 6 ∨ w = 7 ∨ w = 8 by omega) with rfl | rfl | rfl | rfl | rfl
        · have c0 : h.2 1 = nI (H 8 1) := hh.1 1 (by omega)
          have d0 : A 4 5 = nI (H 8 1) := hm.1 1 (by omega)
          have h6 := hI.2.1
          rcases Nat.lt_or_ge (H 8 1) 5 with r | r
          · have q : ¬ (5 : Int32) ≤ nI (H 8 1) := lt_lit (k := 5) 5 rfl r (by omega)
            exact cls_y hN hAt' h8 hw (by rw [takes_4, c0, if_neg q]) (by rw [canS_4, d0, if_neg q]) (fun x1 B1 s1 e1 k1 w1 t t8 => cl_step hN t t8 hI hh hm hF r)
          · have q : (5 : Int32) ≤ nI (H 8 1) := nI_le (a := 5) r (by omega)
            exact cls_n hAt' h8 hF (hz (by rw [takes_4, c0, if_pos q])) (Or.inr (by rw [b5, canS_4, d0, if_pos q]))
        · have c0 : h.2 2 = nI (H 8 2) := hh.1 2 (by omega)
          have d0 : A 4 6 = nI (H 8 2) := hm.1 2 (by omega)
          have h6 := hI.2.2.1
          rcases Nat.lt_or_ge (H 8 2) 4 with r | r
          · have q : ¬ (4 : Int32) ≤ nI (H 8 2) := lt_lit (k := 4) 4 rfl r (by omega)
            exact cls_y hN hAt' h8 hw (by rw [takes_5, c0, if_neg q]) (by rw [canS_5, d0, if_neg q]) (fun x1 B1 s1 e1 k1 w1 t t8 => cl_rat hN t t8 hI hh hm hF r)
          · have q : (4 : Int32) ≤ nI (H 8 2) := nI_le (a := 4) r (by omega)
            exact cls_n hAt' h8 hF (hz (by rw [takes_5, c0, if_pos q])) (Or.inr (by rw [b5, canS_5, d0, if_pos q]))
        · exact cls_y hN hAt' h8 hw (takes_9 h).1 (canS_9 A B).1 (fun x1 B1 s1 e1 k1 w1 t t8 => cl_gain hN t t8 hI hh hm hF)
        · exact cls_y hN hAt' h8 hw (takes_9 h).2.1 (canS_9 A B).2.1 (fun x1 B1 s1 e1 k1 w1 t t8 => cl_house hN t hI hF)
        · exact cls_y hN hAt' h8 hw (takes_9 h).2.2.1 (canS_9 A B).2.2.1 (fun x1 B1 s1 e1 k1 w1 t t8 => cl_quiet hN t hI hh hm hF)
    · exact cls_n hAt' h8 hF (hno hW) (Or.inr (by rw [b5]; exact (canS_9 A B).2.2.2))
  · exact cls_n hAt' h8 hF (hno (no_word hk k1)) (Or.inl k1)

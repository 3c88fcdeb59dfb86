theorem p_teams {N : Nat} (hN : 8000 ≤ N) : ∀ (a1 : Int32) (X : BX) (M : Mo), Rel X M → ∃ (r : Int32) (M1 : Mo), f_X7_teams N a1 X = some r ∧ f_X8_teams N a1 M = some (r, M1) ∧ Rel X M1 := by
  intro a1 X M hR
  obtain ⟨H, t, hI, hh, hm, hT, ht, hs, hU, hK, ⟨sn, ss, sv, h6, q0, q1, hq⟩, hX⟩ := id hR
  have hm6 := hI.1
  have h5 := hI.2.1
  have hle := rw_le hm6 h5
  rcases wi_or a1 1 with ⟨w, -⟩ | ⟨w, -⟩
  · exact ⟨-3, _, by simp only [f_X7_teams, w, Option.bind_some, ↓reduceIte], by simp only [f_X8_teams, wi_in, w, Option.bind_some, ↓reduceIte], Rel_th hR⟩
  obtain ⟨k, hk, ha⟩ := few (n := 1) (by omega) w
  subst ha
  have w' : f_X7_within (nI k) 1 = some 1 := w
  obtain ⟨pos, hp⟩ := exB2 (posP H sn ss sv)
  have hgc : ∀ i, i < sn → ss i < H 8 1 ∧ sv i < H 8 0 ∧ (X.1 6).1 0 i = nI (ss i) ∧ (X.1 6).1 1 i = nI (sv i) := fun i hi => ⟨(hq i hi).1, (hq i hi).2.1, (hq i hi).2.2.1, (hq i hi).2.2.2.1⟩
  have hgm : ∀ i, i < sn → ss i < H 8 1 ∧ sv i < H 8 0 ∧ M.1 9 i = nI (ss i) ∧ M.1 10 i = nI (sv i) := fun i hi => ⟨(hq i hi).1, (hq i hi).2.1, (hq i hi).2.2.2.2.1, (hq i hi).2.2.2.2.2⟩
  have k0 : M.1 4 0 = nI (H 8 0) := hm.1 0 (by omega)
  have k1 : M.1 4 1 = nI (H 8 1) := hm.1 1 (by omega)
  have qb : (va_up M.2 0 (0 : Int32)) 10 = nI sn := q1
  have hcnt := okR_c pos (H 8 0) (H 8 1)
  have hcl := cnr_le (okR pos (H 8 0) (H 8 1)) (H 8 0 ^ H 8 1)
  have eloop : jw (X8_teams_s25 N) N ((0 : Int32), (63 : Int32), (0 : Int32), (M.1, va_up M.2 0 (0 : Int32))) = some (nI (prodC pos (H 8 0) (H 8 1)), nI (accA (okR pos (H 8 0) (H 8 1)) (fun w => rset (dig (H 8 0) (H 8 1) w) (H 8 1)) (H 8 0 ^ H 8 1)), (va_up M.1 11 (gA (H 8 0) (H 8 1) (M.1 11) (H 8 0 ^ H 8 1)), va_up M.2 0 (0 : Int32))) := by
    rw [← hcnt]
    refine jw_F (fun w => (nI (cnr (okR pos (H 8 0) (H 8 1)) w), nI (accA (okR pos (H 8 0) (H 8 1)) (fun w => rset (dig (H 8 0) (H 8 1) w) (H 8 1)) w), nI w, (va_up M.1 11 (gA (H 8 0) (H 8 1) (M.1 11) w), va_up M.2 0 (0 : Int32)))) (H 8 0 ^ H 8 1) (by omega) ?_ ?_ ?_
    · show _ = (nI 0, nI 63, nI 0, (va_up M.1 11 (M.1 11), va_up M.2 0 (0 : Int32)))
      rw [va_id]
      rfl
    · intro w hw
      obtain ⟨y1, y2, y3, y4, -⟩ := way_m hN (A := M.1) (B := va_up M.2 0 (0 : Int32)) hI hm h6 qb hgm hp hw (gA (H 8 0) (H 8 1) (M.1 11) w)
      unfold X8_teams_s25
      dsimp only
      rw [show va_up M.1 11 (gA (H 8 0) (H 8 1) (M.1 11) w) 4 0 = nI (H 8 0) from k0, show va_up M.1 11 (gA (H 8 0) (H 8 1) (M.1 11) w) 4 1 = nI (H 8 1) from k1, rows_m hN h5]
      simp only [Option.bind_some]
      rw [if_neg (nI_ge hw (by omega)), y1]
      simp only [Option.bind_some, cnr, accA, gA]
      by_cases ho : okR pos (H 8 0) (H 8 1) w = true
      · rw [y2 ho, if_pos ho, if_pos ho, y4]
        have hrl : rset (dig (H 8 0) (H 8 1) w) (H 8 1) < 64 := rset_lt _ fun s hs => Nat.lt_of_lt_of_le (dig_lt (Nat.pos_of_ne_zero fun c => by rw [c, Nat.zero_pow (by omega)] at hw; omega) _ w s) hm6
        simp only [Option.bind_some, oz, ↓reduceIte, ea1, and_i _ (accA_lt _) _ hrl]
      · rw [y3 ho, if_neg ho, if_neg ho]
        simp only [Option.bind_some, ↓reduceIte, ea1, Nat.add_zero]
    · unfold X8_teams_s25
      dsimp only
      rw [show va_up M.1 11 (gA (H 8 0) (H 8 1) (M.1 11) (H 8 0 ^ H 8 1)) 4 0 = nI (H 8 0) from k0, show va_up M.1 11 (gA (H 8 0) (H 8 1) (M.1 11) (H 8 0 ^ H 8 1)) 4 1 = nI (H 8 1) from k1, rows_m hN h5]
      simp only [Option.bind_some]
      rw [if_pos (nI_le (Nat.le_refl _) (by omega))]
  have hpz : (nI (prodC pos (H 8 0) (H 8 1)) = (0 : Int32)) ↔ prodC pos (H 8 0) (H 8 1) = 0 := nI_eq (b := 0) (by omega) (by omega)
  rcases (show k = 0 ∨ k = 1 by omega) with rfl | rfl
  · refine ⟨nI (prodC pos (H 8 0) (H 8 1)), (va_up M.1 11 (gA (H 8 0) (H 8 1) (M.1 11) (H 8 0 ^ H 8 1)), va_up M.2 0 (0 : Int32)), ?_, ?_, hR⟩
    · unfold f_X7_teams
      simp only [w', Option.bind_some, oz, ↓reduceIte, show (nI 0 = (0 : Int32)) = True by decide, rcnt_c hN hI hh h6 q0 hgc hp]
    · unfold f_X8_teams
      simp only [wi_in, w', Option.bind_some, oz, ↓reduceIte, show (nI 0 = (0 : Int32)) = True by decide, eloop]
  · refine ⟨(if prodC pos (H 8 0) (H 8 1) = 0 then 0 else nI (forc pos (H 8 0) (H 8 1))), (va_up M.1 11 (gA (H 8 0) (H 8 1) (M.1 11) (H 8 0 ^ H 8 1)), va_up M.2 0 (0 : Int32)), ?_, ?_, hR⟩
    · unfold f_X7_teams
      simp only [w', Option.bind_some, oz, ↓reduceIte, show (nI 1 = (0 : Int32)) = False by decide, iar_c hN hI hh h6 q0 hgc hp]
    · unfold f_X8_teams
      simp only [wi_in, w', Option.bind_some, oz, ↓reduceIte, show (nI 1 = (0 : Int32)) = False by decide, eloop, hpz]
      by_cases hz : prodC pos (H 8 0) (H 8 1) = 0
      · rw [if_pos hz, if_pos hz]
      · rw [if_neg hz, if_neg hz, acc_forc hm6 hz]
theorem lo_c {N : Nat} (hN : 8000 ≤ N) {S k : Nat} (hS : S < 64) (hk : k < 6) (hb : S.testBit k = true) (hlt : ∀ j, j < k → ¬ S.testBit j = true) : f_X7_leastOf N (nI S) = some (nI k) := by
  unfold f_X7_leastOf
  rw [jw_F (s := (0 : Int32)) (n := N) (fun j => nI j) k (r := .inr (nI k)) (by omega) rfl]
  · rfl
  · intro j hj
    unfold X7_leastOf_s2
    rw [if_neg (lt_lit (k := 6) 6 rfl (show j < 6 by omega) (by omega)), if_neg (fun c => hlt j hj ((bit_li S hS j (by omega)).mp c)), ea1]
  · unfold X7_leastOf_s2
    rw [if_neg (lt_lit (k := 6) 6 rfl hk (by omega)), if_pos ((bit_li S hS k hk).mpr hb)]
theorem p_teamOf {N : Nat} (hN : 8000 ≤ N) : ∀ (a1 : Int32) (X : BX) (M : Mo), Rel X M → ∃ (r : Int32) (M1 : Mo), f_X7_teamOf N a1 X = some r ∧ f_X8_teamOf N a1 M = some (r, M1) ∧ Rel X M1 := by
  intro a1 X M hR
  obtain ⟨H, t, hI, hh, hm, hT, ht, hs, hU, hK, ⟨sn, ss, sv, h6, q0, q1, hq⟩, hX⟩ := id hR
  have hm' : RHm (M.1, va_up M.2 0 (0 : Int32)).1 0 H := hm
  have hm6 := hI.1
  have h5 := hI.2.1
  have hle := rw_le hm6 h5
  rcases ix_or a1 (show H 8 1 < 2 ^ 31 by omega) with c | ⟨s0, hs0, c⟩
  · exact ⟨-2, _, by simp only [f_X7_teamOf, hs_n hh c, Option.bind_some, ↓reduceIte], by simp only [f_X8_teamOf, is_n hI hm' c, Option.bind_some, ↓reduceIte], Rel_th hR⟩
  subst c
  obtain ⟨pos, hp⟩ := exB2 (posP H sn ss sv)
  have hgc : ∀ i, i < sn → ss i < H 8 1 ∧ sv i < H 8 0 ∧ (X.1 6).1 0 i = nI (ss i) ∧ (X.1 6).1 1 i = nI (sv i) := fun i hi => ⟨(hq i hi).1, (hq i hi).2.1, (hq i hi).2.2.1, (hq i hi).2.2.2.1⟩
  have hgm : ∀ i, i < sn → ss i < H 8 1 ∧ sv i < H 8 0 ∧ M.1 9 i = nI (ss i) ∧ M.1 10 i = nI (sv i) := fun i hi => ⟨(hq i hi).1, (hq i hi).2.1, (hq i hi).2.2.2.2.1, (hq i hi).2.2.2.2.2⟩
  have k0 : M.1 4 0 = nI (H 8 0) := hm.1 0 (by omega)
  have k1 : M.1 4 1 = nI (H 8 1) := hm.1 1 (by omega)
  have qb : (va_up M.2 0 (0 : Int32)) 10 = nI sn := q1
  have hcnt := okR_c pos (H 8 0) (H 8 1)
  have hcl := cnr_le (okR pos (H 8 0) (H 8 1)) (H 8 0 ^ H 8 1)
  have hpz : (nI (prodC pos (H 8 0) (H 8 1)) = (0 : Int32)) ↔ prodC pos (H 8 0) (H 8 1) = 0 := nI_eq (b := 0) (by omega) (by omega)
  have est : ∀ w, w < H 8 0 ^ H 8 1 → ¬ okR pos (H 8 0) (H 8 1) w = true → X8_teamOf_s18 N (nI s0) (nI w, (va_up M.1 11 (gA (H 8 0) (H 8 1) (M.1 11) w), va_up M.2 0 (0 : Int32))) = some (.inl (nI (w + 1), (va_up M.1 11 (gA (H 8 0) (H 8 1) (M.1 11) (w + 1)), va_up M.2 0 (0 : Int32)))) := fun w hw ho => by
    obtain ⟨y1, y2, y3, y4, -⟩ := way_m hN (A := M.1) (B := va_up M.2 0 (0 : Int32)) hI hm h6 qb hgm hp hw (gA (H 8 0) (H 8 1) (M.1 11) w)
    unfold X8_teamOf_s18
    dsimp only
    rw [show va_up M.1 11 (gA (H 8 0) (H 8 1) (M.1 11) w) 4 0 = nI (H 8 0) from k0, show va_up M.1 11 (gA (H 8 0) (H 8 1) (M.1 11) w) 4 1 = nI (H 8 1) from k1, rows_m hN h5]
    simp only [Option.bind_some]
    rw [if_neg (nI_ge hw (by omega)), y1]
    simp only [Option.bind_some, gA]
    rw [y3 ho]
    simp only [Option.bind_some, ↓reduceIte, ea1]
  have h0e : ((0 : Int32), (M.1, va_up M.2 0 (0 : Int32))) = (nI 0, (va_up M.1 11 (gA (H 8 0) (H 8 1) (M.1 11) 0), va_up M.2 0 (0 : Int32))) := by
    show _ = (nI 0, (va_up M.1 11 (M.1 11), va_up M.2 0 (0 : Int32)))
    rw [va_id]
    rfl
  by_cases hz : prodC pos (H 8 0) (H 8 1) = 0
  · refine ⟨-1, (va_up M.1 11 (gA (H 8 0) (H 8 1) (M.1 11) (H 8 0 ^ H 8 1)), va_up M.2 0 (0 : Int32)), ?_, ?_, hR⟩
    · unfold f_X7_teamOf
      rw [hs_y hI hh hs0, rcnt_c hN hI hh h6 q0 hgc hp]
      simp only [Option.bind_some, oz, ↓reduceIte]
      rw [if_pos (hpz.mpr hz)]
    · have hno := (cnr_0 _).mp (hcnt.trans hz)
      unfold f_X8_teamOf
      rw [is_y hI hm' hs0]
      simp only [Option.bind_some, oz, ↓reduceIte]
      rw [jw_F (s := ((0 : Int32), (M.1, va_up M.2 0 (0 : Int32)))) (n := N) (fun w => (nI w, (va_up M.1 11 (gA (H 8 0) (H 8 1) (M.1 11) w), va_up M.2 0 (0 : Int32)))) (H 8 0 ^ H 8 1) (r := .inl (va_up M.1 11 (gA (H 8 0) (H 8 1) (M.1 11) (H 8 0 ^ H 8 1)), va_up M.2 0 (0 : Int32))) (by omega) h0e (fun w hw => est w hw (hno w hw))]
      · rfl
      · unfold X8_teamOf_s18
        dsimp only
        rw [show va_up M.1 11 (gA (H 8 0) (H 8 1) (M.1 11) (H 8 0 ^ H 8 1)) 4 0 = nI (H 8 0) from k0, show va_up M.1 11 (gA (H 8 0) (H 8 1) (M.1 11) (H 8 0 ^ H 8 1)) 4 1 = nI (H 8 1) from k1, rows_m hN h5]
        simp only [Option.bind_some]
        rw [if_pos (nI_le (Nat.le_refl _) (by omega))]
  · have hex : ∃ w, w < H 8 0 ^ H 8 1 ∧ okR pos (H 8 0) (H 8 1) w = true := Classical.byContradiction fun d => hz (hcnt.symm.trans ((cnr_0 _).mpr fun w hw ho => d ⟨w, hw, ho⟩))
    obtain ⟨w, ⟨hw, ho⟩, hlt⟩ := pk_least _ hex
    have hb : 0 < H 8 0 := Nat.pos_of_ne_zero fun c => by rw [c, Nat.zero_pow (by omega)] at hw; omega
    have hdl : ∀ s, dig (H 8 0) (H 8 1) w s < H 8 0 := fun s => dig_lt hb _ w s
    have hpos := (okR_i pos (H 8 0) (H 8 1) w).mp ho
    have hmin : ∀ j, j < dig (H 8 0) (H 8 1) w s0 → ¬ pos s0 j = true := fun j hj hpj => by
      have hgl : ∀ s, s < H 8 1 → (if s = s0 then j else dig (H 8 0) (H 8 1) w s) < H 8 0 := fun s _ => by
        have := hdl s0
        have := hdl s
        split <;> omega
      have hd := enc_dig (g := fun s => if s = s0 then j else dig (H 8 0) (H 8 1) w s) (H 8 1) hgl
      have hok : okR pos (H 8 0) (H 8 1) (enc (H 8 0) (fun s => if s = s0 then j else dig (H 8 0) (H 8 1) w s) (H 8 1)) = true := (okR_i _ _ _ _).mpr fun s hs => by
        rw [hd s hs]
        by_cases e : s = s0
        · rw [if_pos e, e]; exact hpj
        · rw [if_neg e]; exact hpos s hs
      have hle2 : enc (H 8 0) (fun s => if s = s0 then j else dig (H 8 0) (H 8 1) w s) (H 8 1) ≤ w := enc_le _ _ fun s hs => by
        by_cases e : s = s0
        · rw [if_pos e, e]; omega
        · rw [if_neg e]; exact Nat.le_refl _
      have heq : enc (H 8 0) (fun s => if s = s0 then j else dig (H 8 0) (H 8 1) w s) (H 8 1) = w := by
        rcases Nat.lt_or_ge (enc (H 8 0) (fun s => if s = s0 then j else dig (H 8 0) (H 8 1) w s) (H 8 1)) w with c | c
        · exact absurd ⟨by omega, hok⟩ (hlt _ c)
        · omega
      have := hd s0 hs0
      rw [heq] at this
      rw [if_pos rfl] at this
      omega
    obtain ⟨y1, y2, y3, y4, y5⟩ := way_m hN (A := M.1) (B := va_up M.2 0 (0 : Int32)) hI hm h6 qb hgm hp hw (gA (H 8 0) (H 8 1) (M.1 11) w)
    refine ⟨nI (dig (H 8 0) (H 8 1) w s0), (va_up M.1 11 (rowG (H 8 0) (H 8 1) w (gA (H 8 0) (H 8 1) (M.1 11) w) (H 8 1)), va_up M.2 0 (0 : Int32)), ?_, ?_, hR⟩
    · have hl : mk (pos s0) (H 8 0) < 64 := Nat.lt_of_lt_of_le (mk_lt _ _) (two6 hm6)
      have hd0 := hdl s0
      unfold f_X7_teamOf
      rw [hs_y hI hh hs0, rcnt_c hN hI hh h6 q0 hgc hp]
      simp only [Option.bind_some, oz, ↓reduceIte, hpz, hz, pa_c hN hI hh h6 q0 hgc hp hs0]
      rw [lo_c hN hl (show dig (H 8 0) (H 8 1) w s0 < 6 by omega) (mk_y.mpr ⟨hd0, hpos s0 hs0⟩) (fun j hj c => hmin j hj (mk_y.mp c).2)]
      rfl
    · unfold f_X8_teamOf
      rw [is_y hI hm' hs0]
      simp only [Option.bind_some, oz, ↓reduceIte]
      rw [jw_F (s := ((0 : Int32), (M.1, va_up M.2 0 (0 : Int32)))) (n := N) (fun w => (nI w, (va_up M.1 11 (gA (H 8 0) (H 8 1) (M.1 11) w), va_up M.2 0 (0 : Int32)))) w (r := .inr (nI (dig (H 8 0) (H 8 1) w s0), (va_up M.1 11 (rowG (H 8 0) (H 8 1) w (gA (H 8 0) (H 8 1) (M.1 11) w) (H 8 1)), va_up M.2 0 (0 : Int32)))) (by omega) h0e (fun i hi => est i (by omega) (fun c => hlt i hi ⟨by omega, c⟩))]
      · rfl
      · unfold X8_teamOf_s18
        dsimp only
        rw [show va_up M.1 11 (gA (H 8 0) (H 8 1) (M.1 11) w) 4 0 = nI (H 8 0) from k0, show va_up M.1 11 (gA (H 8 0) (H 8 1) (M.1 11) w) 4 1 = nI (H 8 1) from k1, rows_m hN h5]
        simp only [Option.bind_some]
        rw [if_neg (nI_ge hw (by omega)), y1]
        simp only [Option.bind_some]
        rw [y2 ho]
        simp only [Option.bind_some, oz, ↓reduceIte, if_neg (njo (show s0 < 5 by omega) (by omega)), nI_clamp (show s0 < 2 ^ 31 by omega)]
        rw [show va_up M.1 11 (rowG (H 8 0) (H 8 1) w (gA (H 8 0) (H 8 1) (M.1 11) w) (H 8 1)) 11 s0 = _ from y5 s0 hs0]

theorem Rel_C {X : BX} {A C : Nat → Nat → Int32} {B : Nat → Int32} (hR : Rel X (A, B)) (h : ∀ i, i ≠ 11 → i ≠ 12 → C i = A i) : Rel X (C, B) := by
  obtain ⟨H, t, hI, hh, hm, hT, ht, hs, hU, hK, hS, hX⟩ := hR
  refine ⟨H, t, hI, hh, ?_, hT, ht, ?_, ?_, ?_, ?_, ?_⟩
  · unfold RHm at hm ⊢
    dsimp only at hm ⊢
    rw [h 4 (by omega) (by omega), h 1 (by omega) (by omega), h 2 (by omega) (by omega), h 3 (by omega) (by omega)]
    exact hm
  · dsimp only at hs ⊢; rw [h 5 (by omega) (by omega)]; exact hs
  · dsimp only at hU ⊢; rw [h 6 (by omega) (by omega)]; exact hU
  · dsimp only at hK ⊢; rw [h 7 (by omega) (by omega), h 8 (by omega) (by omega)]; exact hK
  · dsimp only at hS ⊢; rw [h 9 (by omega) (by omega), h 10 (by omega) (by omega)]; exact hS
  · dsimp only at hX ⊢; rw [h 0 (by omega) (by omega)]; exact hX
theorem v_next {b n s w : Nat} (hs : s < n) : w / b ^ (n - (s + 1)) / b = w / b ^ (n - s) ∧ w / b ^ (n - (s + 1)) % b = dig b n w s := by
  refine ⟨?_, ?_⟩
  · rw [Nat.div_div_eq_div_mul, ← Nat.pow_succ, show (n - (s + 1)).succ = n - s by omega]
  · rw [dig_at b n w s hs, show n - 1 - s = n - (s + 1) by omega]
theorem mg_m {N : Nat} (hN : 8000 ≤ N) {H : Nat → Nat → Nat} {t : Nat → Nat} {M : Mo} (hI : HI H) (hm : RHm M.1 0 H) (hT : TI H t) (hs : RTm (M.1 5) 0 t) {w : Nat} (hd : ∀ s, s < H 8 1 → dig (H 8 0) (H 8 1) w s < H 8 0) (hr : ∀ s, s < H 8 1 → M.1 11 s = nI (dig (H 8 0) (H 8 1) w s)) : (okQ (t 1) (H 8 1 ≤ pop (t 1)) (H 8 0) (H 8 1) w → f_X8_mayGo N M = some 1) ∧ (¬ okQ (t 1) (H 8 1 ≤ pop (t 1)) (H 8 0) (H 8 1) w → f_X8_mayGo N M = some 0) := by
  have h6 := hI.1
  have h5 := hI.2.1
  have hL := liv_lt hI hT
  have k1 : M.1 4 1 = nI (H 8 1) := hm.1 1 (by omega)
  have s1 : M.1 5 1 = nI (t 1) := hs 1 (by omega)
  have hpl : pop (t 1) < 2 ^ 31 := by rw [pop_cn _ hL]; have := cnr_le (fun i => (t 1).testBit i) 6; omega
  obtain ⟨q, hq⟩ := exB (fun s => okQ (t 1) (H 8 1 ≤ pop (t 1)) (H 8 0) s (w / H 8 0 ^ (H 8 1 - s)))
  obtain ⟨z2, ez, hz⟩ : ∃ z2 : Int32, (if nI (pop (t 1)) < nI (H 8 1) then some (0 : Int32) else some (1 : Int32)) = some z2 ∧ ((z2 = 0) ↔ ¬ H 8 1 ≤ pop (t 1)) := by
    by_cases c : pop (t 1) < H 8 1
    · exact ⟨0, if_pos ((nI_ltI hpl (by omega)).mpr c), ⟨fun _ => by omega, fun _ => rfl⟩⟩
    · exact ⟨1, if_neg (fun d => c ((nI_ltI hpl (by omega)).mp d)), ⟨fun d => absurd d (by decide), fun d => absurd (by omega) d⟩⟩
  have hend : q (H 8 1) = true ↔ okQ (t 1) (H 8 1 ≤ pop (t 1)) (H 8 0) (H 8 1) w := by
    rw [hq, Nat.sub_self, Nat.pow_zero, Nat.div_one]
  have e : f_X8_mayGo N M = some (if q (H 8 1) = true then 1 else 0) := by
    unfold f_X8_mayGo
    rw [s1, on_m hN hL, k1]
    simp only [Option.bind_some]
    rw [ez]
    simp only [Option.bind_some]
    rw [jw_F (s := ((0 : Int32), (1 : Int32), (0 : Int32))) (n := N) (fun s => (nI (rset (dig (H 8 0) (H 8 1) w) s), (if q s = true then 1 else 0), nI s)) (H 8 1) (r := (if q (H 8 1) = true then 1 else 0)) (by omega) (by rw [if_pos ((hq 0).mpr trivial)]; rfl)]
    · by_cases c : q (H 8 1) = true
      · rw [if_pos c]; rfl
      · rw [if_neg c]; rfl
    · intro s hs2
      have hds := hd s hs2
      have hrl : rset (dig (H 8 0) (H 8 1) w) s < 64 := rset_lt _ fun j hj => by have := hd j (by omega); omega
      obtain ⟨v1, v2⟩ := v_next (b := H 8 0) (w := w) hs2
      have hnx : q (s + 1) = true ↔ q s = true ∧ (t 1).testBit (dig (H 8 0) (H 8 1) w s) = true ∧ (H 8 1 ≤ pop (t 1) → ¬ (rset (dig (H 8 0) (H 8 1) w) s).testBit (dig (H 8 0) (H 8 1) w s) = true) := by
        rw [hq, okQ, v1, v2, rset_cg s (fun j hj => dig_pre (show s ≤ H 8 1 by omega) hj), ← hq s]
      unfold X8_mayGo_s31
      dsimp only
      simp only [k1, if_neg (nI_ge hs2 (show H 8 1 < 2 ^ 31 by omega)), if_neg (njo (show s < 5 by omega) (by omega)), nI_clamp (show s < 2 ^ 31 by omega), hr s hs2, li_m hI hT hs hds, Option.bind_some, or_i _ hrl _ (show dig (H 8 0) (H 8 1) w s < 6 by omega), bit_li _ hrl _ (show dig (H 8 0) (H 8 1) w s < 6 by omega), ea1, rset, hz]
      by_cases c : q s = true
      case neg =>
        rw [if_neg c, if_neg (fun d => c (hnx.mp d).1)]
        rfl
      rw [if_pos c]
      simp only [oz, ↓reduceIte]
      by_cases l : (t 1).testBit (dig (H 8 0) (H 8 1) w s) = true
      case neg =>
        rw [liv0 l, if_neg (fun d => l (hnx.mp d).2.1)]
        rfl
      rw [liv1 l]
      simp only [oz, ↓reduceIte]
      by_cases D : H 8 1 ≤ pop (t 1)
      case neg =>
        rw [if_pos D, if_pos (hnx.mpr ⟨c, l, fun d => absurd d D⟩)]
        rfl
      rw [if_neg (fun d => d D)]
      by_cases u : (rset (dig (H 8 0) (H 8 1) w) s).testBit (dig (H 8 0) (H 8 1) w s) = true
      · rw [if_pos u, if_neg (fun d => (hnx.mp d).2.2 D u)]
        rfl
      · rw [if_neg u, if_pos (hnx.mpr ⟨c, l, fun _ => u⟩)]
        rfl
    · unfold X8_mayGo_s31
      dsimp only
      rw [k1, if_pos (nI_le (Nat.le_refl _) (by omega))]
  rw [e]
  exact ⟨fun c => by rw [if_pos (hend.mpr c)], fun c => by rw [if_neg (fun d => c (hend.mp d))]⟩
theorem vl_m {N : Nat} (hN : 8000 ≤ N) {H : Nat → Nat → Nat} {M : Mo} (hI : HI H) (hm : RHm M.1 0 H) {w : Nat} (hd : ∀ s, s < H 8 1 → dig (H 8 0) (H 8 1) w s < H 8 0) (hr : ∀ s, s < H 8 1 → M.1 11 s = nI (dig (H 8 0) (H 8 1) w s)) : jw (X8_findsBest_s43 M) N ((1 : Int64), (0 : Int32)) = some (lN (vlp (dg H) (H 8 0) (H 8 1) w)) := by
  have h5 := hI.2.1
  have k1 : M.1 4 1 = nI (H 8 1) := hm.1 1 (by omega)
  refine jw_F (fun s => (lN (vlp (dg H) (H 8 0) s (w / H 8 0 ^ (H 8 1 - s))), nI s)) (H 8 1) (by omega) rfl ?_ ?_
  · intro s hs2
    obtain ⟨v1, v2⟩ := v_next (b := H 8 0) (w := w) hs2
    unfold X8_findsBest_s43
    dsimp only
    simp only [k1, if_neg (nI_ge hs2 (show H 8 1 < 2 ^ 31 by omega)), if_neg (njo (show s < 5 by omega) (by omega)), nI_clamp (show s < 2 ^ 31 by omega), hr s hs2, dTo_m hI hm hs2 (hd s hs2), Option.bind_some, tl hI, lN_mul, ea1]
    rw [vlp, v1, v2]
  · unfold X8_findsBest_s43
    dsimp only
    rw [k1, if_pos (nI_le (Nat.le_refl _) (by omega)), Nat.sub_self, Nat.pow_zero, Nat.div_one]
theorem cp_m {N : Nat} (hN : 8000 ≤ N) {n : Nat} (hn : n ≤ 5) {C : Nat → Nat → Int32} {B : Nat → Int32} (k1 : C 4 1 = nI n) : jw (X8_findsBest_s95) N ((0 : Int32), (C, B)) = some (va_up C 12 (fillG (C 12) 0 (C 11) n), B) := by
  refine jw_F (fun j => (nI j, (va_up C 12 (fillG (C 12) 0 (C 11) j), B))) n (by omega) ?_ ?_ ?_
  · show _ = (nI 0, (va_up C 12 (C 12), B))
    rw [va_id]
    rfl
  · intro j hj
    unfold X8_findsBest_s95
    dsimp only
    simp only [show va_up C 12 (fillG (C 12) 0 (C 11) j) 4 1 = nI n from k1, if_neg (nI_ge hj (show n < 2 ^ 31 by omega)), if_neg (njo (show j < 5 by omega) (by omega)), nI_clamp (show j < 2 ^ 31 by omega), bx_uu, ea1, fillG, Nat.zero_add]
    rfl
  · unfold X8_findsBest_s95
    dsimp only
    exact if_pos (show va_up C 12 (fillG (C 12) 0 (C 11) n) 4 1 ≤ nI n from k1 ▸ nI_le (Nat.le_refl _) (by omega))

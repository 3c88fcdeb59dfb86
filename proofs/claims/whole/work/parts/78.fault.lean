theorem RHc_cp {h g : Mo} {H : Nat → Nat → Nat} (hI : HI H) (hh : RHc g H) (q1 : ∀ k, k < 4 → h.2 k = g.2 k) (q2 : ∀ j, j < 6 → ∀ k, k < 4 → h.1 k j = g.1 k j) (q3 : ∀ j, j < 5 → h.1 4 j = g.1 4 j) (q4 : ∀ j, j < 4 → ∀ k, k < 3 → h.1 (5 + k) j = g.1 (5 + k) j) : RHc h H := by
  have h6 := hI.1
  have h5 := hI.2.1
  have h4 := hI.2.2.1
  exact ⟨fun k hk => (q1 k hk).trans (hh.1 k hk), fun j hj k hk => (q2 j (by omega) k hk).trans (hh.2.1 j hj k hk), fun j hj => (q3 j (by omega)).trans (hh.2.2.1 j hj), fun j hj k hk => (q4 j (by omega) k hk).trans (hh.2.2.2 j hj k hk)⟩
theorem RHm_cp {m m1 : Nat → Nat → Int32} {o o1 : Nat} {H : Nat → Nat → Nat} (hI : HI H) (hm : RHm m o H) (q1 : ∀ j, j < 24 → m1 1 (24 * o1 + j) = m 1 (24 * o + j)) (q2 : ∀ j, j < 5 → m1 2 (5 * o1 + j) = m 2 (5 * o + j)) (q3 : ∀ j, j < 12 → m1 3 (12 * o1 + j) = m 3 (12 * o + j)) (q4 : ∀ j, j < 4 → m1 4 (4 * o1 + j) = m 4 (4 * o + j)) : RHm m1 o1 H := by
  have h6 := hI.1
  have h5 := hI.2.1
  have h4 := hI.2.2.1
  exact ⟨fun k hk => (q4 k hk).trans (hm.1 k hk), fun j hj k hk => (q1 (4 * j + k) (by omega)).trans (hm.2.1 j hj k hk), fun j hj => (q2 j (by omega)).trans (hm.2.2.1 j hj), fun j hj k hk => (q3 (3 * j + k) (by omega)).trans (hm.2.2.2 j hj k hk)⟩
theorem RX_tx {x : Mo} {f : Nat → Int32} {v : Int32} (h : RX x f v) : ∃ (n : Nat) (c : Nat → Nat), TX x n c ∧ v = nI n ∧ ∀ i, i < n → c i < 256 ∧ f i = nI (c i) := by
  obtain ⟨n, hn, x1, x2, x3⟩ := h
  have hc : ∃ c : Nat → Nat, ∀ i, i < n → c i < 256 ∧ x.1 0 i = nI (c i) ∧ f i = nI (c i) := by
    refine ⟨fun i => if h : i < n then (x3 i h).choose else 0, fun i hi => ?_⟩
    dsimp only
    rw [dif_pos hi]
    exact (x3 i hi).choose_spec
  obtain ⟨c, hc⟩ := hc
  exact ⟨n, c, ⟨hn, x1, fun i hi => ⟨(hc i hi).1, (hc i hi).2.1⟩⟩, x2, fun i hi => ⟨(hc i hi).1, (hc i hi).2.2⟩⟩
theorem rd_both {N : Nat} (hN : 8000 ≤ N) {X : BX} {M : Mo} (hR : Rel X M) : ∃ (r : Int32) (x1 h1 : Mo) (A3 : Nat → Nat → Int32) (B3 : Nat → Int32), f_X7_readDraft N X = some (r, (va_up (va_up X.1 0 x1) 2 h1, X.2.1, X.2.2.1, X.2.2.2)) ∧ f_X8_reads N (M.1, va_up M.2 0 (0 : Int32)) = some (A3, B3) ∧ B3 8 = r ∧ FM A3 M.1 ∧ (∀ q, (q < 2 ∨ 8 < q) → B3 q = va_up M.2 0 (0 : Int32) q) ∧ RX x1 (M.1 0) (M.2 1) ∧ (r = -1 → ∃ H1, HI H1 ∧ RHc h1 H1 ∧ RHm A3 1 H1 ∧ x1.2 1 = B3 7) := by
  obtain ⟨H, t, hI, hh, hm, hT, ht, hs, hU, hK, hS, hX⟩ := id hR
  obtain ⟨n, c, tx, hv, hf⟩ := RX_tx hX
  obtain ⟨h0, c0, c1, c2, c3, c4⟩ := cf_c hN (X.1 2) (X.1 1)
  obtain ⟨A1, d0, dF, d1, d2, d3, d4⟩ := drf_m hN (M.1, va_up M.2 0 (0 : Int32))
  have hh0 : RHc h0 H := RHc_cp hI hh c1 c2 c3 c4
  have hm1 : RHm A1 1 H := RHm_cp hI hm (fun j hj => by rw [Nat.mul_one, Nat.mul_zero, Nat.zero_add]; exact d1 j hj) (fun j hj => by rw [Nat.mul_one, Nat.mul_zero, Nat.zero_add]; exact d2 j hj) (fun j hj => by rw [Nat.mul_one, Nat.mul_zero, Nat.zero_add]; exact d3 j hj) (fun j hj => by rw [Nat.mul_one, Nat.mul_zero, Nat.zero_add]; exact d4 j hj)
  have a0 : A1 0 = M.1 0 := dF.2.2.2.2 0 (by decide) (by decide) (by decide) (by decide)
  have tm : TM A1 (va_up M.2 0 (0 : Int32)) n c := ⟨tx.1, hv, fun i hi => ⟨(hf i hi).1, by rw [a0]; exact (hf i hi).2⟩⟩
  obtain ⟨r, x1, h1, A3, B3, q1, q2, q3, q4, q5, q6, q7⟩ := read_both hN tx tm hI hh0 hm1 dF
  refine ⟨r, x1, h1, A3, B3, ?_, ?_, q3, q4, q5, ⟨n, q6.1, q6.2.1, hv, fun i hi => ⟨c i, (hf i hi).1, (q6.2.2 i hi).2, (hf i hi).2⟩⟩, q7⟩
  · unfold f_X7_readDraft
    simp only [c0, q1, Option.bind_some]
  · unfold f_X8_reads
    rw [d0, Option.bind_some]
    show (jw (X8_reads_s21 N) N ((1 : Int32), (A1, va_up (va_up (va_up (va_up M.2 0 (0 : Int32)) 2 (0 : Int32)) 7 (0 : Int32)) 8 (-1 : Int32)))).bind _ = _
    rw [q2, Option.bind_some]
theorem Rel_read {X : BX} {M : Mo} (hR : Rel X M) {x1 h1 : Mo} {A3 : Nat → Nat → Int32} {B3 : Nat → Int32} (hF : FM A3 M.1) (hB : ∀ q, (q < 2 ∨ 8 < q) → B3 q = va_up M.2 0 (0 : Int32) q) (hx : RX x1 (M.1 0) (M.2 1)) : Rel (va_up (va_up X.1 0 x1) 2 h1, X.2.1, X.2.2.1, X.2.2.2) (A3, B3) := by
  obtain ⟨H, t, hI, hh, hm, hT, ht, hs, hU, hK, hS, hX⟩ := hR
  have e : ∀ q, 5 ≤ q ∨ q = 0 → A3 q = M.1 q := fun q hq => hF.2.2.2.2 q (by omega) (by omega) (by omega) (by omega)
  have b1 : B3 1 = M.2 1 := hB 1 (by omega)
  have b9 : B3 9 = M.2 9 := hB 9 (by omega)
  have b10 : B3 10 = M.2 10 := hB 10 (by omega)
  refine ⟨H, t, hI, hh, RHm_cp hI hm (fun j hj => by rw [Nat.mul_zero, Nat.zero_add]; exact hF.1 j hj) (fun j hj => by rw [Nat.mul_zero, Nat.zero_add]; exact hF.2.1 j hj) (fun j hj => by rw [Nat.mul_zero, Nat.zero_add]; exact hF.2.2.1 j hj) (fun j hj => by rw [Nat.mul_zero, Nat.zero_add]; exact hF.2.2.2.1 j hj), hT, ht, ?_, ?_, ?_, ?_, ?_⟩
  · show RTm (A3 5) 0 t
    rw [e 5 (by omega)]; exact hs
  · show RU H (X.1 4) X.2.1 (A3 6) (B3 9)
    rw [e 6 (by omega), b9]; exact hU
  · show RK H ((X.1 5).1 0) X.2.2.1 (A3 7) (A3 8)
    rw [e 7 (by omega), e 8 (by omega)]; exact hK
  · show RS H (X.1 6) (A3 9) (A3 10) (B3 10)
    rw [e 9 (by omega), e 10 (by omega), b10]; exact hS
  · show RX x1 (A3 0) (B3 1)
    rw [e 0 (by omega), b1]; exact hx
theorem p_fault {N : Nat} (hN : 8000 ≤ N) : ∀ (X : BX) (M : Mo), Rel X M → ∃ (r : Int32) (X1 : BX) (M1 : Mo), f_X7_fault N X = some (r, X1) ∧ f_X8_fault N M = some (r, M1) ∧ Rel X1 M1 := by
  intro X M hR
  obtain ⟨r, x1, h1, A3, B3, q1, q2, q3, q4, q5, q6, q7⟩ := rd_both hN hR
  refine ⟨r, _, (A3, B3), ?_, ?_, Rel_read (h1 := h1) hR q4 q5 q6⟩
  · unfold f_X7_fault
    rw [q1, Option.bind_some]
  · unfold f_X8_fault
    rw [q2, Option.bind_some]
    show some (B3 8, (A3, B3)) = _
    rw [q3]

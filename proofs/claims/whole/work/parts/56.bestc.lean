theorem jw_I {S R : Type} {step : S → Option (S ⊕ R)} (I : Nat → S → Prop) (Q : R → Prop) (B : Nat) (hs : ∀ j x, j < B → I j x → ∃ y, step x = some (.inl y) ∧ I (j + 1) y) (he : ∀ x, I B x → ∃ r, step x = some (.inr r) ∧ Q r) : ∀ d j x n, j + d = B → d < n → I j x → ∃ r, jw step n x = some r ∧ Q r
  | 0, j, x, n, hj, hn, h => by
    obtain ⟨r, e, q⟩ := he x (by rw [← hj, Nat.add_zero]; exact h)
    obtain ⟨n, rfl⟩ : ∃ m, n = m + 1 := ⟨n - 1, by omega⟩
    exact ⟨r, jw_inr e, q⟩
  | d + 1, j, x, n, hj, hn, h => by
    obtain ⟨y, e, q⟩ := hs j x (by omega) h
    obtain ⟨n, rfl⟩ : ∃ m, n = m + 1 := ⟨n - 1, by omega⟩
    obtain ⟨r, e2, q2⟩ := jw_I I Q B hs he d (j + 1) y n (by omega) (by omega) q
    exact ⟨r, (jw_inl e).trans e2, q2⟩
theorem bl_T {s : Nat} (hs : s < 2 ^ 40) : (lN s - lN 1).toInt = (s : Int) - 1 := by
  rw [Int64.toInt_sub, pk_lT (by omega), pk_lT (by omega)]
  exact Int.bmod_eq_of_le (by omega) (by omega)
theorem bl_le {x s : Nat} (hx : x < 2 ^ 40) (hs : s < 2 ^ 40) : lN x ≤ lN s - lN 1 ↔ x + 1 ≤ s := by
  rw [Int64.le_iff_toInt_le, bl_T hs, pk_lT (by omega)]
  omega
theorem bl_lt {x s : Nat} (hx : x < 2 ^ 40) (hs : s < 2 ^ 40) : lN s - lN 1 < lN x ↔ s < x + 1 := by
  rw [Int64.lt_iff_toInt_lt, bl_T hs, pk_lT (by omega)]
  omega
theorem bl_of (x : Nat) : lN (x + 1) - lN 1 = lN x := lN_sub (by omega)
theorem bit_l0 : ∀ L, L < 64 → ∀ d, d < 6 → ((((nI L >>> (nI d &&& 31)) &&& 1) = (0 : Int32)) ↔ ¬ L.testBit d = true) := by decide +kernel
def Inv (b n : Nat) (g : Nat → Int32) (st : Nat × Nat) : Prop := st.1 ≤ 1000000 ∧ (st.1 = 0 → ∀ s, s < 5 → g s = -1) ∧ (0 < st.1 → ∀ s, s < n → g s = nI (dig b n st.2 s))
theorem dig_ex {b k v m s : Nat} (hm : m < b) (hs : s < k) : dig b (k + 1) (v * b + m) s = dig b k v s := by
  rw [dig, if_neg (by omega), (ext_div hm).1]
theorem dig_last {b k v m : Nat} (hm : m < b) : dig b (k + 1) (v * b + m) k = m := by
  rw [dig, if_pos rfl, (ext_div hm).2]
theorem rset_ex {b k v m : Nat} (hm : m < b) : rset (dig b (k + 1) (v * b + m)) (k + 1) = rset (dig b k v) k ||| 2 ^ m := by
  rw [rset, dig_last hm, rset_cg k fun s hs => dig_ex hm hs]
theorem tf_c {N : Nat} (hN : 8000 ≤ N) {H : Nat → Nat → Nat} {t : Nat → Nat} {h T : Mo} (hI : HI H) (hh : RHc h H) (hT : TI H t) (ht : RTc T t) {D : Prop} {ok : Nat → Bool} (hok : ∀ w, ok w = true ↔ okQ (t 1) D (H 8 0) (H 8 1) w) :
    ∀ dd k v st (vsr : Mo), k ≤ H 8 1 → H 8 1 - k < dd → okQ (t 1) D (H 8 0) k v → Inv (H 8 0) (H 8 1) (vsr.1 1) st → ((vsr.2 0 = 0) ↔ D) → (∀ s, s < k → vsr.1 0 s = nI (dig (H 8 0) k v s)) →
    ∃ vsr' : Mo, f_X2_tryFrom N dd (nI k) (lN (vlp (dg H) (H 8 0) k v)) (nI (rset (dig (H 8 0) k v) k)) vsr (lN st.1 - lN 1) h T = some (vsr', lN (fb ok (vlp (dg H) (H 8 0) (H 8 1)) (v * H 8 0 ^ (H 8 1 - k)) (H 8 0 ^ (H 8 1 - k)) st).1 - lN 1) ∧ Inv (H 8 0) (H 8 1) (vsr'.1 1) (fb ok (vlp (dg H) (H 8 0) (H 8 1)) (v * H 8 0 ^ (H 8 1 - k)) (H 8 0 ^ (H 8 1 - k)) st) ∧ vsr'.2 = vsr.2 ∧ ∀ s, s < k → vsr'.1 0 s = vsr.1 0 s
  | 0, k, v, st, vsr, hk, hd, _, _, _, _ => absurd hd (by omega)
  | dd + 1, k, v, st, vsr, hk, hd, hq, hi, hf, hr => by
    have h6 := hI.1
    have h5 := hI.2.1
    have c0 : h.2 0 = nI (H 8 0) := hh.1 0 (by omega)
    have c1 : h.2 1 = nI (H 8 1) := hh.1 1 (by omega)
    have hv10 : vlp (dg H) (H 8 0) k v ≤ 10 ^ k := vlp_10 k v
    have hsl := hi.1
    rcases Nat.lt_or_ge k (H 8 1) with hlt | hge
    case inr =>
      have hkn : k = H 8 1 := by omega
      subst hkn
      have hvl : vlp (dg H) (H 8 0) (H 8 1) v ≤ 100000 := Nat.le_trans hv10 (ten_le h5)
      rw [Nat.sub_self, Nat.pow_zero, Nat.mul_one]
      rw [fb, fb]
      simp only [Nat.add_zero]
      rw [f_X2_tryFrom]
      dsimp only
      rw [hs_n hh (Or.inr (nI_le (Nat.le_refl _) (by omega)))]
      simp only [Option.bind_some, ↓reduceIte]
      unfold f_X2_takeIfBetter
      simp only [bl_le (show vlp (dg H) (H 8 0) (H 8 1) v < 2 ^ 40 by omega) (show st.1 < 2 ^ 40 by omega)]
      by_cases hc : vlp (dg H) (H 8 0) (H 8 1) v + 1 ≤ st.1
      · rw [if_pos hc, if_neg (fun c => by omega)]
        exact ⟨vsr, rfl, hi, rfl, fun _ _ => rfl⟩
      · rw [if_neg hc, if_pos ⟨(hok v).mpr hq, by omega⟩]
        refine ⟨(va_up vsr.1 1 (va_cpy (vsr.1 0) (vsr.1 1) 0 0 5), vsr.2), ?_, ⟨by show vlp _ _ _ v + 1 ≤ _; omega, fun c => absurd c (by show vlp _ _ _ v + 1 ≠ 0; omega), fun _ s hs => ?_⟩, rfl, fun _ _ => rfl⟩
        · rw [bl_of]
          rfl
        · show va_cpy (vsr.1 0) (vsr.1 1) 0 0 5 s = _
          rw [pk_cpy_in (by omega) (by omega), Nat.zero_add, Nat.sub_zero]
          exact hr s hs
    have hkt : vlp (dg H) (H 8 0) k v * 10 ^ (H 8 1 - k) ≤ 100000 := by
      refine Nat.le_trans (Nat.mul_le_mul_right _ hv10) ?_
      rw [← Nat.pow_add, show k + (H 8 1 - k) = H 8 1 by omega]
      exact ten_le h5
    rw [f_X2_tryFrom]
    dsimp only
    rw [hs_y hI hh hlt, c1]
    simp only [Option.bind_some, oz, ↓reduceIte, pk_sub hk, ten_c hN (show H 8 1 - k < 100 by omega), lN_mul, bl_lt (show vlp (dg H) (H 8 0) k v * 10 ^ (H 8 1 - k) < 2 ^ 40 by omega) (show st.1 < 2 ^ 40 by omega)]
    by_cases hc : st.1 < vlp (dg H) (H 8 0) k v * 10 ^ (H 8 1 - k) + 1
    case neg =>
      rw [if_neg hc, fb_none]
      · exact ⟨vsr, rfl, hi, rfl, fun _ _ => rfl⟩
      · intro i hi2 _
        have := vlp_le (dgf := dg H) (b := H 8 0) (n := H 8 1) (H 8 1 - k) (v * H 8 0 ^ (H 8 1 - k) + i) (by omega)
        rw [in_iv hi2, show H 8 1 - (H 8 1 - k) = k by omega] at this
        omega
    rw [if_pos hc]
    have hpw : H 8 0 ^ (H 8 1 - k) = H 8 0 * H 8 0 ^ (H 8 1 - (k + 1)) := by
      rw [show H 8 1 - k = (H 8 1 - (k + 1)) + 1 by omega, Nat.pow_succ, Nat.mul_comm]
    have hlo : ∀ m, v * H 8 0 ^ (H 8 1 - k) + m * H 8 0 ^ (H 8 1 - (k + 1)) = (v * H 8 0 + m) * H 8 0 ^ (H 8 1 - (k + 1)) := fun m => by
      rw [hpw, ← Nat.mul_assoc, Nat.add_mul]
    have hwhole : fb ok (vlp (dg H) (H 8 0) (H 8 1)) (v * H 8 0 ^ (H 8 1 - k)) (H 8 0 ^ (H 8 1 - k)) st = fbm ok (vlp (dg H) (H 8 0) (H 8 1)) (v * H 8 0 ^ (H 8 1 - k)) (H 8 0 ^ (H 8 1 - (k + 1))) (H 8 0) st := by
      rw [fbm_fb, ← hpw]
    have skip : ∀ m st', m < H 8 0 → ¬ okQ (t 1) D (H 8 0) (k + 1) (v * H 8 0 + m) → fb ok (vlp (dg H) (H 8 0) (H 8 1)) (v * H 8 0 ^ (H 8 1 - k) + m * H 8 0 ^ (H 8 1 - (k + 1))) (H 8 0 ^ (H 8 1 - (k + 1))) st' = st' := fun m st' hm hn => by
      refine fb_none _ fun i hi2 ho => ?_
      rw [hlo] at ho
      have := okQ_pre (H 8 1 - (k + 1)) _ (by omega) ((hok _).mp ho)
      rw [in_iv hi2, show H 8 1 - (H 8 1 - (k + 1)) = k + 1 by omega] at this
      exact absurd this hn
    have hrl : rset (dig (H 8 0) k v) k < 64 := by
      rcases Nat.eq_zero_or_pos k with c | c
      · subst c
        show 0 < 64
        omega
      · rcases Nat.eq_zero_or_pos (H 8 0) with z | z
        · obtain ⟨k', rfl⟩ : ∃ k', k = k' + 1 := ⟨k - 1, by omega⟩
          have := liv_n hT hq.2.1
          omega
        · exact rset_lt _ fun s _ => Nat.lt_of_lt_of_le (dig_lt z _ v s) h6
    suffices key : ∃ r, jw (X2_tryFrom_s45 (f_X2_tryFrom N dd) (nI k) (lN (vlp (dg H) (H 8 0) k v)) (nI (rset (dig (H 8 0) k v) k)) h T) N ((0 : Int32), vsr, lN st.1 - lN 1) = some r ∧ (r.2 = lN (fbm ok (vlp (dg H) (H 8 0) (H 8 1)) (v * H 8 0 ^ (H 8 1 - k)) (H 8 0 ^ (H 8 1 - (k + 1))) (H 8 0) st).1 - lN 1 ∧ Inv (H 8 0) (H 8 1) (r.1.1 1) (fbm ok (vlp (dg H) (H 8 0) (H 8 1)) (v * H 8 0 ^ (H 8 1 - k)) (H 8 0 ^ (H 8 1 - (k + 1))) (H 8 0) st) ∧ r.1.2 = vsr.2 ∧ ∀ s, s < k → r.1.1 0 s = vsr.1 0 s) by
      obtain ⟨r, e, q1, q2, q3, q4⟩ := key
      refine ⟨r.1, ?_, ?_, q3, q4⟩
      · rw [e, hwhole, ← q1]
        rfl
      · rw [hwhole]; exact q2
    refine jw_I (fun (m : Nat) (x : Int32 × Mo × Int64) => x.1 = nI m ∧ x.2.2 = lN (fbm ok (vlp (dg H) (H 8 0) (H 8 1)) (v * H 8 0 ^ (H 8 1 - k)) (H 8 0 ^ (H 8 1 - (k + 1))) m st).1 - lN 1 ∧ Inv (H 8 0) (H 8 1) (x.2.1.1 1) (fbm ok (vlp (dg H) (H 8 0) (H 8 1)) (v * H 8 0 ^ (H 8 1 - k)) (H 8 0 ^ (H 8 1 - (k + 1))) m st) ∧ x.2.1.2 = vsr.2 ∧ ∀ s, s < k → x.2.1.1 0 s = vsr.1 0 s) (fun (r : Mo × Int64) => r.2 = lN (fbm ok (vlp (dg H) (H 8 0) (H 8 1)) (v * H 8 0 ^ (H 8 1 - k)) (H 8 0 ^ (H 8 1 - (k + 1))) (H 8 0) st).1 - lN 1 ∧ Inv (H 8 0) (H 8 1) (r.1.1 1) (fbm ok (vlp (dg H) (H 8 0) (H 8 1)) (v * H 8 0 ^ (H 8 1 - k)) (H 8 0 ^ (H 8 1 - (k + 1))) (H 8 0) st) ∧ r.1.2 = vsr.2 ∧ ∀ s, s < k → r.1.1 0 s = vsr.1 0 s) (H 8 0) ?_ ?_ (H 8 0) 0 _ N (by omega) (by omega) ⟨rfl, rfl, hi, rfl, fun _ _ => rfl⟩
    · rintro m ⟨x1, y, x3⟩ hm ⟨i1, i2, i3, i4, i5⟩
      dsimp only at i1 i2 i3 i4 i5
      subst i1 i2
      have hdm := dg_le hI k m
      have hsk : ∀ z : Int32 × Mo × Int64, ¬ okQ (t 1) D (H 8 0) (k + 1) (v * H 8 0 + m) → z = (nI (m + 1), y, lN (fbm ok (vlp (dg H) (H 8 0) (H 8 1)) (v * H 8 0 ^ (H 8 1 - k)) (H 8 0 ^ (H 8 1 - (k + 1))) m st).1 - lN 1) → z.1 = nI (m + 1) ∧ z.2.2 = lN (fbm ok (vlp (dg H) (H 8 0) (H 8 1)) (v * H 8 0 ^ (H 8 1 - k)) (H 8 0 ^ (H 8 1 - (k + 1))) (m + 1) st).1 - lN 1 ∧ Inv (H 8 0) (H 8 1) (z.2.1.1 1) (fbm ok (vlp (dg H) (H 8 0) (H 8 1)) (v * H 8 0 ^ (H 8 1 - k)) (H 8 0 ^ (H 8 1 - (k + 1))) (m + 1) st) ∧ z.2.1.2 = vsr.2 ∧ ∀ s, s < k → z.2.1.1 0 s = vsr.1 0 s := fun z hn hz => by
        subst hz
        rw [fbm, skip m _ hm hn]
        exact ⟨rfl, rfl, i3, i4, i5⟩
      unfold X2_tryFrom_s45
      dsimp only
      rw [c0, if_neg (nI_ge hm (by omega)), li_c hI hT ht hm]
      simp only [Option.bind_some, ea1]
      by_cases hl : (t 1).testBit m = true
      case neg =>
        rw [liv0 hl]
        simp only [↓reduceIte, Option.bind_some]
        exact ⟨_, rfl, hsk _ (fun c => hl (by have := c.2.1; rwa [(ext_div hm).2] at this)) rfl⟩
      rw [liv1 hl]
      simp only [oz, ↓reduceIte, if_neg (njo (show k < 5 by omega) (by omega)), nI_clamp (show k < 2 ^ 31 by omega), dAt_c hI hh hlt hm, Option.bind_some, tl hI k m, lN_mul, or_i _ hrl m (show m < 6 by omega), bit_l0 _ hrl m (show m < 6 by omega), ea1]
      by_cases hu : D ∧ (rset (dig (H 8 0) k v) k).testBit m = true
      · rw [if_pos (by rw [i4]; exact hf.mpr hu.1), if_neg (fun c => c hu.2)]
        exact ⟨_, rfl, hsk _ (fun c => by have := c.2.2 hu.1; rw [(ext_div hm).1, (ext_div hm).2] at this; exact this hu.2) rfl⟩
      · have hqn : okQ (t 1) D (H 8 0) (k + 1) (v * H 8 0 + m) := by
          rw [okQ, (ext_div hm).1, (ext_div hm).2]
          exact ⟨hq, hl, fun d c => hu ⟨d, c⟩⟩
        have hval : vlp (dg H) (H 8 0) k v * (10 - dg H k m) = vlp (dg H) (H 8 0) (k + 1) (v * H 8 0 + m) := by
          rw [vlp, (ext_div hm).1, (ext_div hm).2]
        obtain ⟨vs, e1, e2, e3, e4⟩ := tf_c hN hI hh hT ht hok dd (k + 1) (v * H 8 0 + m) (fbm ok (vlp (dg H) (H 8 0) (H 8 1)) (v * H 8 0 ^ (H 8 1 - k)) (H 8 0 ^ (H 8 1 - (k + 1))) m st) (va_up y.1 0 (upd (y.1 0) k (nI m)), y.2) (by omega) (by omega) hqn i3 (by rw [show (va_up y.1 0 (upd (y.1 0) k (nI m)), y.2).2 = vsr.2 from i4]; exact hf) (fun s hs => by
          show upd (y.1 0) k (nI m) s = _
          by_cases es : s = k
          · rw [es, pk_us, dig_last hm]
          · rw [pk_un es, i5 s (by omega), hr s (by omega), dig_ex hm (by omega)])
        rw [rset_ex hm, ← hval, ← hlo] at e1
        rw [← hlo] at e2
        have hpost : ∀ s, s < k → vs.1 0 s = vsr.1 0 s := fun s hs => by
          rw [e4 s (by omega)]
          show upd (y.1 0) k (nI m) s = _
          rw [pk_un (by omega), i5 s hs]
        refine ⟨(nI (m + 1), vs, lN (fbm ok (vlp (dg H) (H 8 0) (H 8 1)) (v * H 8 0 ^ (H 8 1 - k)) (H 8 0 ^ (H 8 1 - (k + 1))) (m + 1) st).1 - lN 1), ?_, rfl, rfl, e2, e3.trans i4, hpost⟩
        by_cases hf0 : y.2 0 = 0
        · rw [if_pos hf0, if_pos (fun c => hu ⟨hf.mp (by rw [← i4]; exact hf0), c⟩), e1]
          rfl
        · rw [if_neg hf0, e1]
          rfl
    · rintro ⟨x1, y, x3⟩ ⟨i1, i2, i3, i4, i5⟩
      dsimp only at i1 i2 i3 i4 i5
      subst i1 i2
      refine ⟨(y, _), ?_, rfl, i3, i4, i5⟩
      unfold X2_tryFrom_s45
      dsimp only
      rw [c0, if_pos (nI_le (Nat.le_refl _) (by omega))]

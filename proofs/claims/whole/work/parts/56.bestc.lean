theorem jw_I {S R : Type} {step : S → Option (S ⊕ R)} (I : Nat → S → Prop) (Q : R → Prop) (B : Nat) (hs : ∀ j x, j < B → I j x → ∃ y, step x = some (.inl y) ∧ I (j + 1) y) (he : ∀ x, I B x → ∃ r, step x = some (.inr r) ∧ Q r) : ∀ d j x n, j + d = B → d < n → I j x → ∃ r, jw step n x = some r ∧ Q r
  | 0, j, x, n, hj, hn, h => by
    obtain ⟨r, e, q⟩ := he x (by rw [← hj, Nat.add_zero]; exact h)
    obtain ⟨n, rfl⟩ : ∃ m, n = m + 1 := ⟨n - 1, by omega⟩
    exact ⟨r, jw_inr e, q⟩
  | d + 1, j, x, n, hj, hn, h => by
    obtain ⟨y, e, q⟩ := hs j x (by omega) h
    obtain ⟨n, rfl⟩ : ∃ m, n = m + 1 := ⟨n - 1, by omega⟩
    obtain ⟨r, e2, q2⟩ := jw_I I Q B hs he d (j + 1) y n (by omega) (by omega) q
    exact ⟨r, (jw_inl e).trans e2, q2⟩
theorem bl_T {s : Nat} (hs : s < 2 ^ 40) : (lN s - lN 1).toInt = (s : Int) - 1 := by
  rw [Int64.toInt_sub, pk_lT (by omega), pk_lT (by omega)]
  exact Int.bmod_eq_of_le (by omega) (by omega)
theorem bl_le {x s : Nat} (hx : x < 2 ^ 40) (hs : s < 2 ^ 40) : lN x ≤ lN s - lN 1 ↔ x + 1 ≤ s := by
  rw [Int64.le_iff_toInt_le, bl_T hs, pk_lT (by omega)]
  omega
theorem bl_lt {x s : Nat} (hx : x < 2 ^ 40) (hs : s < 2 ^ 40) : lN s - lN 1 < lN x ↔ s < x + 1 := by
  rw [Int64.lt_iff_toInt_lt, bl_T hs, pk_lT (by omega)]
  omega
theorem bl_of (x : Nat) : lN (x + 1) - lN 1 = lN x := lN_sub (by omega)
def lss (F m : Nat) : Nat := F &&& (63 ^^^ 2 ^ m)
theorem lss_i : ∀ F, F < 64 → ∀ m, m < 6 → nI F &&& (((1 : Int32) <<< (nI m &&& 31)) ^^^ (-1 : Int32)) = nI (lss F m) := by decide +kernel
theorem lss_lt : ∀ F, F < 64 → ∀ m, m < 6 → lss F m < 64 := by decide +kernel
theorem lss_b : ∀ F, F < 64 → ∀ m, m < 6 → ∀ j, j < 6 → ((lss F m).testBit j = true ↔ F.testBit j = true ∧ ¬ m = j) := by decide +kernel
theorem or_b {R m j : Nat} : (R ||| 2 ^ m).testBit j = true ↔ R.testBit j = true ∨ m = j := by
  rw [Nat.testBit_or, Bool.or_eq_true, Nat.testBit_two_pow, decide_eq_true_iff]
def Inv (b n : Nat) (g : Nat → Int32) (st : Nat × Nat) : Prop := st.1 ≤ 1000000 ∧ (st.1 = 0 → ∀ s, s < 5 → g s = -1) ∧ (0 < st.1 → ∀ s, s < n → g s = nI (dig b n st.2 s))
theorem dig_ex {b k v m s : Nat} (hm : m < b) (hs : s < k) : dig b (k + 1) (v * b + m) s = dig b k v s := by
  rw [dig, if_neg (by omega), (ext_div hm).1]
theorem dig_last {b k v m : Nat} (hm : m < b) : dig b (k + 1) (v * b + m) k = m := by
  rw [dig, if_pos rfl, (ext_div hm).2]
theorem rset_ex {b k v m : Nat} (hm : m < b) : rset (dig b (k + 1) (v * b + m)) (k + 1) = rset (dig b k v) k ||| 2 ^ m := by
  rw [rset, dig_last hm, rset_cg k fun s hs => dig_ex hm hs]
/-- who is free: lives, and, where nobody may go twice, hasn't gone yet -/
def Fre (L : Nat) (D : Prop) (b k v F : Nat) : Prop := F < 64 ∧ ∀ j, j < 6 → (F.testBit j = true ↔ L.testBit j = true ∧ (D → ¬ (rset (dig b k v) k).testBit j = true))
theorem Fre_y {L : Nat} {D : Prop} {b k v F m : Nat} (h : Fre L D b k v F) (hm : m < b) (h6 : m < 6) (d : D) : Fre L D b (k + 1) (v * b + m) (lss F m) := by
  refine ⟨lss_lt F h.1 m h6, fun j hj => ?_⟩
  rw [lss_b F h.1 m h6 j hj, h.2 j hj, rset_ex hm, or_b]
  exact ⟨fun ⟨⟨a, c⟩, e⟩ => ⟨a, fun d => fun x => x.elim (c d) e⟩, fun ⟨a, c⟩ => ⟨⟨a, fun d x => c d (Or.inl x)⟩, fun x => c d (Or.inr x)⟩⟩
theorem Fre_n {L : Nat} {D : Prop} {b k v F m : Nat} (h : Fre L D b k v F) (d : ¬ D) : Fre L D b (k + 1) (v * b + m) F := by
  refine ⟨h.1, fun j hj => ?_⟩
  rw [h.2 j hj]
  exact ⟨fun x => ⟨x.1, fun y => absurd y d⟩, fun x => ⟨x.1, fun y => absurd y d⟩⟩
theorem tf_c {N : Nat} (hN : 8000 ≤ N) {H : Nat → Nat → Nat} {L : Nat} {h : Mo} (hI : HI H) (hh : RHc h H) {D : Prop} {ok : Nat → Bool} (hok : ∀ w, ok w = true ↔ okQ L D (H 8 0) (H 8 1) w) :
    ∀ dd k v F st (vsr : Mo), k ≤ H 8 1 → H 8 1 - k < dd → okQ L D (H 8 0) k v → Fre L D (H 8 0) k v F → Inv (H 8 0) (H 8 1) (vsr.1 1) st → ((vsr.2 0 = 0) ↔ D) → (∀ s, s < k → vsr.1 0 s = nI (dig (H 8 0) k v s)) →
    ∃ vsr' : Mo, f_X2_tryFrom N dd (nI k) (lN (vlp (dg H) (H 8 0) k v)) (nI F) vsr (lN st.1 - lN 1) h = some (vsr', lN (fb ok (vlp (dg H) (H 8 0) (H 8 1)) (v * H 8 0 ^ (H 8 1 - k)) (H 8 0 ^ (H 8 1 - k)) st).1 - lN 1) ∧ Inv (H 8 0) (H 8 1) (vsr'.1 1) (fb ok (vlp (dg H) (H 8 0) (H 8 1)) (v * H 8 0 ^ (H 8 1 - k)) (H 8 0 ^ (H 8 1 - k)) st) ∧ vsr'.2 = vsr.2 ∧ ∀ s, s < k → vsr'.1 0 s = vsr.1 0 s
  | 0, k, v, F, st, vsr, hk, hd, _, _, _, _, _ => absurd hd (by omega)
  | dd + 1, k, v, F, st, vsr, hk, hd, hq, hF, hi, hf, hr => by
    have h6 := hI.1
    have h5 := hI.2.1
    have c0 : h.2 0 = nI (H 8 0) := hh.1 0 (by omega)
    have c1 : h.2 1 = nI (H 8 1) := hh.1 1 (by omega)
    have hv10 : vlp (dg H) (H 8 0) k v ≤ 10 ^ k := vlp_10 k v
    have hsl := hi.1
    rcases Nat.lt_or_ge k (H 8 1) with hlt | hge
    case inr =>
      have hkn : k = H 8 1 := by omega
      subst hkn
      have hvl : vlp (dg H) (H 8 0) (H 8 1) v ≤ 100000 := Nat.le_trans hv10 (ten_le h5)
      rw [Nat.sub_self, Nat.pow_zero, Nat.mul_one]
      rw [fb, fb]
      simp only [Nat.add_zero]
      rw [f_X2_tryFrom]
      dsimp only
      rw [hs_n hh (Or.inr (nI_le (Nat.le_refl _) (by omega)))]
      simp only [Option.bind_some, ↓reduceIte]
      unfold f_X2_takeIfBetter
      simp only [bl_le (show vlp (dg H) (H 8 0) (H 8 1) v < 2 ^ 40 by omega) (show st.1 < 2 ^ 40 by omega)]
      by_cases hc : vlp (dg H) (H 8 0) (H 8 1) v + 1 ≤ st.1
      · rw [if_pos hc, if_neg (fun c => by omega)]
        exact ⟨vsr, rfl, hi, rfl, fun _ _ => rfl⟩
      · rw [if_neg hc, if_pos ⟨(hok v).mpr hq, by omega⟩]
        refine ⟨(va_up vsr.1 1 (va_cpy (vsr.1 0) (vsr.1 1) 0 0 5), vsr.2), ?_, ⟨by show vlp _ _ _ v + 1 ≤ _; omega, fun c => absurd c (by show vlp _ _ _ v + 1 ≠ 0; omega), fun _ s hs => ?_⟩, rfl, fun _ _ => rfl⟩
        · rw [bl_of]
          rfl
        · show va_cpy (vsr.1 0) (vsr.1 1) 0 0 5 s = _
          rw [pk_cpy_in (by omega) (by omega), Nat.zero_add, Nat.sub_zero]
          exact hr s hs
    have hkt : vlp (dg H) (H 8 0) k v * 10 ^ (H 8 1 - k) ≤ 100000 := by
      refine Nat.le_trans (Nat.mul_le_mul_right _ hv10) ?_
      rw [← Nat.pow_add, show k + (H 8 1 - k) = H 8 1 by omega]
      exact ten_le h5
    rw [f_X2_tryFrom]
    dsimp only
    rw [hs_y hI hh hlt, c1]
    simp only [Option.bind_some, oz, ↓reduceIte, pk_sub hk, ten_c hN (show H 8 1 - k < 100 by omega), lN_mul, bl_lt (show vlp (dg H) (H 8 0) k v * 10 ^ (H 8 1 - k) < 2 ^ 40 by omega) (show st.1 < 2 ^ 40 by omega)]
    by_cases hc : st.1 < vlp (dg H) (H 8 0) k v * 10 ^ (H 8 1 - k) + 1
    case neg =>
      rw [if_neg hc, fb_none]
      · exact ⟨vsr, rfl, hi, rfl, fun _ _ => rfl⟩
      · intro i hi2 _
        have := vlp_le (dgf := dg H) (b := H 8 0) (n := H 8 1) (H 8 1 - k) (v * H 8 0 ^ (H 8 1 - k) + i) (by omega)
        rw [in_iv hi2, show H 8 1 - (H 8 1 - k) = k by omega] at this
        omega
    rw [if_pos hc]
    have hpw : H 8 0 ^ (H 8 1 - k) = H 8 0 * H 8 0 ^ (H 8 1 - (k + 1)) := by
      rw [show H 8 1 - k = (H 8 1 - (k + 1)) + 1 by omega, Nat.pow_succ, Nat.mul_comm]
    have hlo : ∀ m, v * H 8 0 ^ (H 8 1 - k) + m * H 8 0 ^ (H 8 1 - (k + 1)) = (v * H 8 0 + m) * H 8 0 ^ (H 8 1 - (k + 1)) := fun m => by
      rw [hpw, ← Nat.mul_assoc, Nat.add_mul]
    have hwhole : fb ok (vlp (dg H) (H 8 0) (H 8 1)) (v * H 8 0 ^ (H 8 1 - k)) (H 8 0 ^ (H 8 1 - k)) st = fbm ok (vlp (dg H) (H 8 0) (H 8 1)) (v * H 8 0 ^ (H 8 1 - k)) (H 8 0 ^ (H 8 1 - (k + 1))) (H 8 0) st := by
      rw [fbm_fb, ← hpw]
    have skip : ∀ m st', m < H 8 0 → ¬ okQ L D (H 8 0) (k + 1) (v * H 8 0 + m) → fb ok (vlp (dg H) (H 8 0) (H 8 1)) (v * H 8 0 ^ (H 8 1 - k) + m * H 8 0 ^ (H 8 1 - (k + 1))) (H 8 0 ^ (H 8 1 - (k + 1))) st' = st' := fun m st' hm hn => by
      refine fb_none _ fun i hi2 ho => ?_
      rw [hlo] at ho
      have := okQ_pre (H 8 1 - (k + 1)) _ (by omega) ((hok _).mp ho)
      rw [in_iv hi2, show H 8 1 - (H 8 1 - (k + 1)) = k + 1 by omega] at this
      exact absurd this hn
    suffices key : ∃ r, jw (X2_tryFrom_s37 (f_X2_tryFrom N dd) (nI k) (lN (vlp (dg H) (H 8 0) k v)) (nI F) h) N ((0 : Int32), vsr, lN st.1 - lN 1) = some r ∧ (r.2 = lN (fbm ok (vlp (dg H) (H 8 0) (H 8 1)) (v * H 8 0 ^ (H 8 1 - k)) (H 8 0 ^ (H 8 1 - (k + 1))) (H 8 0) st).1 - lN 1 ∧ Inv (H 8 0) (H 8 1) (r.1.1 1) (fbm ok (vlp (dg H) (H 8 0) (H 8 1)) (v * H 8 0 ^ (H 8 1 - k)) (H 8 0 ^ (H 8 1 - (k + 1))) (H 8 0) st) ∧ r.1.2 = vsr.2 ∧ ∀ s, s < k → r.1.1 0 s = vsr.1 0 s) by
      obtain ⟨r, e, q1, q2, q3, q4⟩ := key
      refine ⟨r.1, ?_, ?_, q3, q4⟩
      · rw [e, hwhole, ← q1]
        rfl
      · rw [hwhole]; exact q2
    refine jw_I (fun (m : Nat) (x : Int32 × Mo × Int64) => x.1 = nI m ∧ x.2.2 = lN (fbm ok (vlp (dg H) (H 8 0) (H 8 1)) (v * H 8 0 ^ (H 8 1 - k)) (H 8 0 ^ (H 8 1 - (k + 1))) m st).1 - lN 1 ∧ Inv (H 8 0) (H 8 1) (x.2.1.1 1) (fbm ok (vlp (dg H) (H 8 0) (H 8 1)) (v * H 8 0 ^ (H 8 1 - k)) (H 8 0 ^ (H 8 1 - (k + 1))) m st) ∧ x.2.1.2 = vsr.2 ∧ ∀ s, s < k → x.2.1.1 0 s = vsr.1 0 s) (fun (r : Mo × Int64) => r.2 = lN (fbm ok (vlp (dg H) (H 8 0) (H 8 1)) (v * H 8 0 ^ (H 8 1 - k)) (H 8 0 ^ (H 8 1 - (k + 1))) (H 8 0) st).1 - lN 1 ∧ Inv (H 8 0) (H 8 1) (r.1.1 1) (fbm ok (vlp (dg H) (H 8 0) (H 8 1)) (v * H 8 0 ^ (H 8 1 - k)) (H 8 0 ^ (H 8 1 - (k + 1))) (H 8 0) st) ∧ r.1.2 = vsr.2 ∧ ∀ s, s < k → r.1.1 0 s = vsr.1 0 s) (H 8 0) ?_ ?_ (H 8 0) 0 _ N (by omega) (by omega) ⟨rfl, rfl, hi, rfl, fun _ _ => rfl⟩
    · rintro m ⟨x1, y, x3⟩ hm ⟨i1, i2, i3, i4, i5⟩
      dsimp only at i1 i2 i3 i4 i5
      subst i1 i2
      have hdm := dg_le hI k m
      have hsk : ∀ z : Int32 × Mo × Int64, ¬ okQ L D (H 8 0) (k + 1) (v * H 8 0 + m) → z = (nI (m + 1), y, lN (fbm ok (vlp (dg H) (H 8 0) (H 8 1)) (v * H 8 0 ^ (H 8 1 - k)) (H 8 0 ^ (H 8 1 - (k + 1))) m st).1 - lN 1) → z.1 = nI (m + 1) ∧ z.2.2 = lN (fbm ok (vlp (dg H) (H 8 0) (H 8 1)) (v * H 8 0 ^ (H 8 1 - k)) (H 8 0 ^ (H 8 1 - (k + 1))) (m + 1) st).1 - lN 1 ∧ Inv (H 8 0) (H 8 1) (z.2.1.1 1) (fbm ok (vlp (dg H) (H 8 0) (H 8 1)) (v * H 8 0 ^ (H 8 1 - k)) (H 8 0 ^ (H 8 1 - (k + 1))) (m + 1) st) ∧ z.2.1.2 = vsr.2 ∧ ∀ s, s < k → z.2.1.1 0 s = vsr.1 0 s := fun z hn hz => by
        subst hz
        rw [fbm, skip m _ hm hn]
        exact ⟨rfl, rfl, i3, i4, i5⟩
      have hm6 : m < 6 := by omega
      unfold X2_tryFrom_s37
      dsimp only
      rw [c0, if_neg (nI_ge hm (by omega))]
      simp only [bit_li F hF.1 m hm6, if_neg (njo (show k < 5 by omega) (by omega)), nI_clamp (show k < 2 ^ 31 by omega), dAt_c hI hh hlt hm, lss_i F hF.1 m hm6, Option.bind_some, tl hI k m, lN_mul, ea1]
      by_cases hl : F.testBit m = true
      case neg =>
        rw [if_neg hl]
        exact ⟨_, rfl, hsk _ (fun c => hl ((hF.2 m hm6).mpr (by have := c.2; rwa [(ext_div hm).1, (ext_div hm).2] at this))) rfl⟩
      rw [if_pos hl]
      have hqn : okQ L D (H 8 0) (k + 1) (v * H 8 0 + m) := by
        rw [okQ, (ext_div hm).1, (ext_div hm).2]
        exact ⟨hq, (hF.2 m hm6).mp hl⟩
      have hval : vlp (dg H) (H 8 0) k v * (10 - dg H k m) = vlp (dg H) (H 8 0) (k + 1) (v * H 8 0 + m) := by
        rw [vlp, (ext_div hm).1, (ext_div hm).2]
      obtain ⟨G, eG, hG⟩ : ∃ G, (if y.2 0 = (0 : Int32) then some (nI (lss F m)) else some (nI F)) = some (nI G) ∧ Fre L D (H 8 0) (k + 1) (v * H 8 0 + m) G := by
        by_cases hf0 : y.2 0 = 0
        · exact ⟨lss F m, if_pos hf0, Fre_y hF hm hm6 (hf.mp (by rw [← i4]; exact hf0))⟩
        · exact ⟨F, if_neg hf0, Fre_n hF (fun d => hf0 (by rw [i4]; exact hf.mpr d))⟩
      obtain ⟨vs, e1, e2, e3, e4⟩ := tf_c hN hI hh hok dd (k + 1) (v * H 8 0 + m) G (fbm ok (vlp (dg H) (H 8 0) (H 8 1)) (v * H 8 0 ^ (H 8 1 - k)) (H 8 0 ^ (H 8 1 - (k + 1))) m st) (va_up y.1 0 (upd (y.1 0) k (nI m)), y.2) (by omega) (by omega) hqn hG i3 (by rw [show (va_up y.1 0 (upd (y.1 0) k (nI m)), y.2).2 = vsr.2 from i4]; exact hf) (fun s hs => by
        show upd (y.1 0) k (nI m) s = _
        by_cases es : s = k
        · rw [es, pk_us, dig_last hm]
        · rw [pk_un es, i5 s (by omega), hr s (by omega), dig_ex hm (by omega)])
      rw [← hval, ← hlo] at e1
      rw [← hlo] at e2
      have hpost : ∀ s, s < k → vs.1 0 s = vsr.1 0 s := fun s hs => by
        rw [e4 s (by omega)]
        show upd (y.1 0) k (nI m) s = _
        rw [pk_un (by omega), i5 s hs]
      refine ⟨(nI (m + 1), vs, lN (fbm ok (vlp (dg H) (H 8 0) (H 8 1)) (v * H 8 0 ^ (H 8 1 - k)) (H 8 0 ^ (H 8 1 - (k + 1))) (m + 1) st).1 - lN 1), ?_, rfl, rfl, e2, e3.trans i4, hpost⟩
      rw [eG]
      simp only [Option.bind_some]
      rw [e1]
      rfl
    · rintro ⟨x1, y, x3⟩ ⟨i1, i2, i3, i4, i5⟩
      dsimp only at i1 i2 i3 i4 i5
      subst i1 i2
      refine ⟨(y, _), ?_, rfl, i3, i4, i5⟩
      unfold X2_tryFrom_s37
      dsimp only
      rw [c0, if_pos (nI_le (Nat.le_refl _) (by omega))]

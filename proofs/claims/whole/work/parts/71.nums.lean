theorem rcs_e {N : Nat} {h x : Mo} {w K i : Nat} (hb : f_X5_numbersBehind (nI w) = some (nI K)) (hi : K ≤ i) (h31 : i < 2 ^ 31) : X5_readClause_s29 N h (nI w) (nI i, x) = some (.inr (.inl x)) := by
  unfold X5_readClause_s29
  simp only [hb, Option.bind_some, if_pos (nI_le hi h31)]
theorem rcs_n {N : Nat} {h x : Mo} {w K i : Nat} {r M : Int32} (hb : f_X5_numbersBehind (nI w) = some (nI K)) (hi : i < K) (hK : K ≤ 3) (hn : f_X5_numberHere N x = some r) (hm : f_X5_mostOf (nI w) (nI i) = some M) (hr : r < 0 ∨ (¬ r < 0 ∧ ¬ r ≤ M)) : X5_readClause_s29 N h (nI w) (nI i, x) = some (.inr (.inr (0, x, h))) := by
  unfold X5_readClause_s29
  simp only [hb, Option.bind_some, if_neg (nI_ge hi (by omega)), if_neg (show ¬ (3 : Int32) ≤ nI i from nI_ge (b := 3) (by omega) (by omega)), hn]
  rcases hr with hr | ⟨h1, h2⟩
  · rw [if_pos hr]
  · rw [if_neg h1, hm, Option.bind_some, if_neg h2]
theorem rcs_y {N : Nat} {h x : Mo} {w K i v : Nat} {M : Int32} (hb : f_X5_numbersBehind (nI w) = some (nI K)) (hi : i < K) (hK : K ≤ 3) (hn : f_X5_numberHere N x = some (nI v)) (hm : f_X5_mostOf (nI w) (nI i) = some M) (hv : nI v ≤ M) (h31 : v < 2 ^ 31) : X5_readClause_s29 N h (nI w) (nI i, x) = (f_X5_nextToken N (va_up x.1 1 (upd (x.1 1) i (nI v)), x.2)).bind (fun z => some (.inl (nI (i + 1), z))) := by
  unfold X5_readClause_s29
  simp only [hb, Option.bind_some, if_neg (nI_ge hi (by omega)), if_neg (show ¬ (3 : Int32) ≤ nI i from nI_ge (b := 3) (by omega) (by omega)), hn, if_neg (nI_pos h31), hm, if_pos hv, if_neg (njo (show i < 3 by omega) (by omega)), nI_clamp (show i < 2 ^ 31 by omega), ea1]
theorem nst {N : Nat} (hN : 8000 ≤ N) {n : Nat} {c : Nat → Nat} {x h : Mo} {A : Nat → Nat → Int32} {B : Nat → Int32} {s e k w' w K i m : Nat} {M : Int32} (hAt : At n c x A B s e k w') (h8 : B 8 = -1) (hb : f_X5_numbersBehind (nI w) = some (nI K)) (hi : i < K) (hK : K ≤ 3) (hm : f_X5_mostOf (nI w) (nI i) = some M) (hM : M = nI m) (h99 : m < 100) : (∃ (v : Nat) (x1 : Mo) (B1 : Nat → Int32) (s1 e1 k1 w1 : Nat), v ≤ m ∧ X5_readClause_s29 N h (nI w) (nI i, x) = some (.inl (nI (i + 1), x1)) ∧ f_X8_number N M (A, B) = some (nI v, (A, B1)) ∧ At n c x1 A B1 s1 e1 k1 w1 ∧ (∀ q, (q < 2 ∨ 6 < q) → B1 q = B q) ∧ x1.1 1 = upd (x.1 1) i (nI v)) ∨ (X5_readClause_s29 N h (nI w) (nI i, x) = some (.inr (.inr (0, x, h))) ∧ f_X8_number N M (A, B) = some (0, (A, va_up B 8 (nI s)))) := by
  subst hM
  rcases num_step hN hAt h8 h99 with ⟨v, v1, v2, v3⟩ | ⟨r, r1, r2, r3⟩
  · obtain ⟨g1, g2, g3, g4, g5⟩ := At_b hAt
    obtain ⟨-, hx, hmm, x2, x3, b2, -⟩ := hAt
    have hx' : TX (va_up x.1 1 (upd (x.1 1) i (nI v)), x.2) n c := hx
    obtain ⟨s1, e1, k1, w1, B1, a1, a2, a3, a4⟩ := adv hN hx' hmm g4 x3 b2
    refine Or.inl ⟨v, _, B1, s1, e1, k1, w1, v1, ?_, ?_, a3, a4, rfl⟩
    · rw [rcs_y hb hi hK v2 hm (nI_le v1 (by omega)) (by omega), a1]
      rfl
    · rw [v3, a2]
      rfl
  · exact Or.inr ⟨rcs_n hb hi hK r1 hm r2, r3⟩
theorem nums1 {N : Nat} (hN : 8000 ≤ N) {n : Nat} {c : Nat → Nat} {x h : Mo} {A : Nat → Nat → Int32} {B : Nat → Int32} {s e k w' w m : Nat} {M : Int32} (hAt : At n c x A B s e k w') (h8 : B 8 = -1) (hb : f_X5_numbersBehind (nI w) = some (nI 1)) (hm : f_X5_mostOf (nI w) (nI 0) = some M) (hM : M = nI m) (h99 : m < 100) : ∃ (u : Int32) (Bc : Nat → Int32), f_X8_number N M (A, B) = some (u, (A, Bc)) ∧ (∀ i, (i < 2 ∨ 8 < i) → Bc i = B i) ∧ ((∃ (x1 : Mo) (s1 : Nat), s1 ≤ 160 ∧ jw (X5_readClause_s29 N h (nI w)) N ((0 : Int32), x) = some (.inr (0, x1, h)) ∧ TX x1 n c ∧ x1.2 2 = nI s1 ∧ Bc 8 = nI s1) ∨ (∃ (v : Nat) (x1 : Mo) (s1 e1 k1 w1 : Nat), v ≤ m ∧ u = nI v ∧ jw (X5_readClause_s29 N h (nI w)) N ((0 : Int32), x) = some (.inl x1) ∧ x1.1 1 0 = nI v ∧ At n c x1 A Bc s1 e1 k1 w1 ∧ ∀ i, (i < 2 ∨ 6 < i) → Bc i = B i)) := by
  obtain ⟨g1, g2, g3, g4, g5⟩ := At_b hAt
  rcases nst (h := h) hN hAt h8 hb (i := 0) (by omega) (by omega) hm hM h99 with ⟨v, x1, B1, s1, e1, k1, w1, v1, y1, y2, y3, y4, y5⟩ | ⟨y1, y2⟩
  · refine ⟨_, B1, y2, fun i hi => y4 i (by omega), Or.inr ⟨v, x1, s1, e1, k1, w1, v1, rfl, ?_, by rw [y5]; exact pk_us, y3, y4⟩⟩
    exact jw_mono (n := 2) ((jw_inl (n := 1) y1).trans (jw_inr (n := 0) (rcs_e hb (by omega) (by omega)))) (by omega)
  · refine ⟨0, _, y2, fun i hi => va_up_ne _ _ (by omega), Or.inl ⟨x, s, by omega, ?_, hAt.2.1, hAt.2.2.2.1, va_up_self _ _ _⟩⟩
    exact jw_mono (n := 1) (jw_inr (n := 0) y1) (by omega)
theorem nums3 {N : Nat} (hN : 8000 ≤ N) {n : Nat} {c : Nat → Nat} {x h : Mo} {A : Nat → Nat → Int32} {B : Nat → Int32} {s e k w' w q p0 p1 m0 m1 m2 : Nat} {M0 M1 M2 : Int32} (hAt : At n c x A B s e k w') (h8 : B 8 = -1) (hq : 0 ≠ q) (hb : f_X5_numbersBehind (nI w) = some (nI 3)) (d0 : f_X5_mostOf (nI w) (nI 0) = some M0) (d1 : f_X5_mostOf (nI w) (nI 1) = some M1) (d2 : f_X5_mostOf (nI w) (nI 2) = some M2) (f0 : M0 = nI m0) (f1 : M1 = nI m1) (f2 : M2 = nI m2) (l0 : m0 < 100) (l1 : m1 < 100) (l2 : m2 < 100) : ∃ (u0 u1 u2 : Int32) (Ba Bb Bc : Nat → Int32), f_X8_number N M0 (A, B) = some (u0, (A, Ba)) ∧ f_X8_number N M1 (setA A q p0 u0, Ba) = some (u1, (setA A q p0 u0, Bb)) ∧ f_X8_number N M2 (setA (setA A q p0 u0) q p1 u1, Bb) = some (u2, (setA (setA A q p0 u0) q p1 u1, Bc)) ∧ (∀ i, (i < 2 ∨ 8 < i) → Bc i = B i) ∧ ((∃ (x1 : Mo) (s1 : Nat), s1 ≤ 160 ∧ jw (X5_readClause_s29 N h (nI w)) N ((0 : Int32), x) = some (.inr (0, x1, h)) ∧ TX x1 n c ∧ x1.2 2 = nI s1 ∧ Bc 8 = nI s1) ∨ (∃ (v0 v1 v2 : Nat) (x1 : Mo) (s1 e1 k1 w1 : Nat), v0 ≤ m0 ∧ v1 ≤ m1 ∧ v2 ≤ m2 ∧ u0 = nI v0 ∧ u1 = nI v1 ∧ u2 = nI v2 ∧ jw (X5_readClause_s29 N h (nI w)) N ((0 : Int32), x) = some (.inl x1) ∧ x1.1 1 0 = nI v0 ∧ x1.1 1 1 = nI v1 ∧ x1.1 1 2 = nI v2 ∧ At n c x1 (setA (setA A q p0 u0) q p1 u1) Bc s1 e1 k1 w1 ∧ ∀ i, (i < 2 ∨ 6 < i) → Bc i = B i)) := by
  obtain ⟨g1, g2, g3, g4, g5⟩ := At_b hAt
  rcases nst (h := h) hN hAt h8 hb (i := 0) (by omega) (by omega) d0 f0 l0 with ⟨v, x1, B1, s1, e1, k1, w1, v1, y1, y2, y3, y4, y5⟩ | ⟨y1, y2⟩
  · have t1 : At n c x1 (setA A q p0 (nI v)) B1 s1 e1 k1 w1 := At_A y3 (va_up_ne _ _ hq)
    have i8 : B1 8 = -1 := (y4 8 (by omega)).trans h8
    obtain ⟨g1', g2', g3', g4', g5'⟩ := At_b t1
    rcases nst (h := h) hN t1 i8 hb (i := 1) (by omega) (by omega) d1 f1 l1 with ⟨v', x2, B2, s2, e2, k2, w2, v2, z1, z2, z3, z4, z5⟩ | ⟨z1, z2⟩
    · have t2 : At n c x2 (setA (setA A q p0 (nI v)) q p1 (nI v')) B2 s2 e2 k2 w2 := At_A z3 (va_up_ne _ _ hq)
      have j8 : B2 8 = -1 := (z4 8 (by omega)).trans i8
      obtain ⟨g1'', g2'', g3'', g4'', g5''⟩ := At_b t2
      rcases nst (h := h) hN t2 j8 hb (i := 2) (by omega) (by omega) d2 f2 l2 with ⟨v'', x3, B3, s3, e3, k3, w3, v3, o1, o2, o3, o4, o5⟩ | ⟨o1, o2⟩
      · refine ⟨_, _, _, _, _, B3, y2, z2, o2, fun i hi => (o4 i (by omega)).trans ((z4 i (by omega)).trans (y4 i (by omega))), Or.inr ⟨v, v', v'', x3, s3, e3, k3, w3, v1, v2, v3, rfl, rfl, rfl, ?_, ?_, ?_, ?_, o3, fun i hi => (o4 i hi).trans ((z4 i hi).trans (y4 i hi))⟩⟩
        · exact jw_mono (n := 4) ((jw_inl (n := 3) y1).trans ((jw_inl (n := 2) z1).trans ((jw_inl (n := 1) o1).trans (jw_inr (n := 0) (rcs_e hb (by omega) (by omega)))))) (by omega)
        · rw [o5, pk_un (by decide), z5, pk_un (by decide), y5]; exact pk_us
        · rw [o5, pk_un (by decide), z5]; exact pk_us
        · rw [o5]; exact pk_us
      · refine ⟨_, _, 0, _, _, _, y2, z2, o2, fun i hi => (va_up_ne _ _ (by omega)).trans ((z4 i (by omega)).trans (y4 i (by omega))), Or.inl ⟨x2, s2, by omega, ?_, t2.2.1, t2.2.2.2.1, va_up_self _ _ _⟩⟩
        exact jw_mono (n := 3) ((jw_inl (n := 2) y1).trans ((jw_inl (n := 1) z1).trans (jw_inr (n := 0) o1))) (by omega)
    · have n8 : ¬ va_up B1 8 (nI s1) 8 = -1 := by rw [va_up_self]; exact nm1 (by omega)
      refine ⟨_, 0, 0, _, _, _, y2, z2, nu_f n8, fun i hi => (va_up_ne _ _ (by omega)).trans (y4 i (by omega)), Or.inl ⟨x1, s1, by omega, ?_, t1.2.1, t1.2.2.2.1, va_up_self _ _ _⟩⟩
      exact jw_mono (n := 2) ((jw_inl (n := 1) y1).trans (jw_inr (n := 0) z1)) (by omega)
  · have n8 : ¬ va_up B 8 (nI s) 8 = -1 := by rw [va_up_self]; exact nm1 (by omega)
    refine ⟨0, 0, 0, _, _, _, y2, nu_f n8, nu_f n8, fun i hi => va_up_ne _ _ (by omega), Or.inl ⟨x, s, by omega, ?_, hAt.2.1, hAt.2.2.2.1, va_up_self _ _ _⟩⟩
    exact jw_mono (n := 1) (jw_inr (n := 0) y1) (by omega)

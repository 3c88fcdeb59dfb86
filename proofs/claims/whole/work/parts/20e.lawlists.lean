/-! TWO WORLDS SIDE BY SIDE: a call of an object of the one leaves the other, for any two lists of cells. -/
theorem jnd_iff : ∀ (l : List Nat), va_nd l = true ↔ l.Nodup
  | [] => by simp [va_nd]
  | a :: l => by
    rw [List.nodup_cons, ← jnd_iff l]
    simp only [va_nd, Bool.and_eq_true, decide_eq_true_eq]
theorem jnd_range (k n : Nat) : va_nd (List.range' k n) = true := (jnd_iff _).mpr List.nodup_range'
theorem jrange {α : Type} : ∀ (a p q : List α), (List.range' p.length a.length).map (fun i => (p ++ (a ++ q))[i]?) = a.map some
  | [], _, _ => rfl
  | x :: a, p, q => by
    have h := jrange a (p ++ [x]) q
    rw [List.length_append, List.length_singleton] at h
    have e : p ++ [x] ++ (a ++ q) = p ++ (x :: a ++ q) := by simp
    rw [e] at h
    rw [List.length_cons, List.range'_succ, List.map_cons, List.map_cons, h]
    congr 1
    simp
theorem jrangeL {α : Type} (a q : List α) : (List.range' 0 a.length).map (fun i => (a ++ q)[i]?) = a.map some := jrange a [] q
theorem jrangeR {α : Type} (p a : List α) : (List.range' p.length a.length).map (fun i => (p ++ a)[i]?) = a.map some := by
  have h := jrange a p []
  rw [List.append_nil] at h
  exact h
theorem jdisL (m n k : Nat) (h : n ≤ k) : (List.range' k m).all (fun i => !(List.range' 0 n).contains i) = true := by
  rw [List.all_eq_true]
  intro i hi
  have h1 := (List.mem_range'_1.mp hi).1
  simp only [Bool.not_eq_true', List.contains_eq_mem, decide_eq_false_iff_not]
  intro h2
  have h3 := (List.mem_range'_1.mp h2).2
  omega
theorem jdisR (m n k : Nat) (h : m ≤ k) : (List.range' 0 m).all (fun i => !(List.range' k n).contains i) = true := by
  rw [List.all_eq_true]
  intro i hi
  have h1 := (List.mem_range'_1.mp hi).2
  simp only [Bool.not_eq_true', List.contains_eq_mem, decide_eq_false_iff_not]
  intro h2
  have h3 := (List.mem_range'_1.mp h2).1
  omega
theorem jndS (m n : Nat) : va_nd (List.range' n m ++ List.range' 0 n) = true := by
  rw [jnd_iff, List.nodup_append]
  refine ⟨List.nodup_range', List.nodup_range', fun a ha b hb => ?_⟩
  have h1 := (List.mem_range'_1.mp ha).1
  have h2 := (List.mem_range'_1.mp hb).2
  omega
section JL
variable {D : va_G} {H H0 : Heap} {A0 : Nat → Prop} {wa wb : va_W} {locs : List Loc}
theorem jPl (h : va_P D vwCl (wa ++ wb) H) : va_P D vwCl wa H := h.sub (List.range' 0 wa.length) (jfm (jrangeL wa wb))
theorem jPr (h : va_P D vwCl (wa ++ wb) H) : va_P D vwCl wb H := h.sub (List.range' wa.length wb.length) (jfm (jrangeR wa wb))
theorem jDl (h : va_D A0 (wa ++ wb)) : va_D A0 wa := h.sub (List.range' 0 wa.length) (jnd_range _ _) (jrangeL wa wb)
theorem jDr (h : va_D A0 (wa ++ wb)) : va_D A0 wb := h.sub (List.range' wa.length wb.length) (jnd_range _ _) (jrangeR wa wb)
theorem jFl (hD : va_D A0 (wa ++ wb)) (hS : va_S A0 H0 H locs) (hA : ∀ q, H0.size ≤ q → A0 q) : ∀ q, va_A wa H.size q → A0 q := va_free hD hS hA (List.range' 0 wa.length) (jrangeL wa wb)
end JL
section JG
variable {p : Program} {l : Launch} {e : Env} {R : Room} {s : State} {m : MethodId} {args : Array Value} {below : List Frame} {meth : Method} {c : Code} {H : Heap} {locs : List Loc} {cells slots : Nat} {Q : State → Prop} {rest st0 : List Value} {pc : Nat} {ls : Array Slot} {D : va_G}
variable {S : Type} {A0 : Nat → Prop} {H0 : Heap} {wa wb wn : va_W} {w1 : S → va_W} {a : Array Value}
theorem jgiL {o : Int32 × S} (hr : va_Run p l e R s m args below meth c H locs cells slots 0 0 (F0 m pc ls st0) rest (jQi D (va_A wa H.size) w1 o a) (va_A wa H.size)) (hP : va_P D vwCl (wa ++ wb) H) (hD : va_D A0 (wa ++ wb)) (hS : va_S A0 H0 H locs) (hA : ∀ q, H0.size ≤ q → A0 q) (hw : w1 o.2 = wn) (kk : ∀ (H1 : Heap) (locs1 : List Loc), va_P D vwCl (wn ++ wb) H1 → va_D A0 (wn ++ wb) → va_S A0 H0 H1 locs1 → W p l e R s m args below meth c H1 locs1 cells slots Q (F0 m (pc + 3) ls (.int o.1 :: rest))) : W p l e R s m args below meth c H locs cells slots Q (F0 m pc ls st0) := by
  have hR := jrangeR wa wb
  have hf := jfm hR
  refine jgi hr hP hD hS hA (List.range' 0 wa.length) (List.range' wa.length wb.length) (List.range' wb.length wn.length ++ List.range' 0 wb.length) (jrangeL wa wb) (by rw [hf]; exact hR) (jnd_range _ _) (jdisL _ _ _ (Nat.le_refl _)) (wn := wn ++ wb) ?_ (jndS _ _) kk
  rw [hf, hw, List.map_append, List.map_append, jrangeR wb wn, jrangeL wb wn]
theorem jglL {o : Int64 × S} (hr : va_Run p l e R s m args below meth c H locs cells slots 0 0 (F0 m pc ls st0) rest (jQl D (va_A wa H.size) w1 o a) (va_A wa H.size)) (hP : va_P D vwCl (wa ++ wb) H) (hD : va_D A0 (wa ++ wb)) (hS : va_S A0 H0 H locs) (hA : ∀ q, H0.size ≤ q → A0 q) (hw : w1 o.2 = wn) (kk : ∀ (H1 : Heap) (locs1 : List Loc), va_P D vwCl (wn ++ wb) H1 → va_D A0 (wn ++ wb) → va_S A0 H0 H1 locs1 → W p l e R s m args below meth c H1 locs1 cells slots Q (F0 m (pc + 3) ls (.long o.1 :: rest))) : W p l e R s m args below meth c H locs cells slots Q (F0 m pc ls st0) := by
  have hR := jrangeR wa wb
  have hf := jfm hR
  refine jgl hr hP hD hS hA (List.range' 0 wa.length) (List.range' wa.length wb.length) (List.range' wb.length wn.length ++ List.range' 0 wb.length) (jrangeL wa wb) (by rw [hf]; exact hR) (jnd_range _ _) (jdisL _ _ _ (Nat.le_refl _)) (wn := wn ++ wb) ?_ (jndS _ _) kk
  rw [hf, hw, List.map_append, List.map_append, jrangeR wb wn, jrangeL wb wn]
theorem jgiR {o : Int32 × S} (hr : va_Run p l e R s m args below meth c H locs cells slots 0 0 (F0 m pc ls st0) rest (jQi D (va_A wb H.size) w1 o a) (va_A wb H.size)) (hP : va_P D vwCl (wa ++ wb) H) (hD : va_D A0 (wa ++ wb)) (hS : va_S A0 H0 H locs) (hA : ∀ q, H0.size ≤ q → A0 q) (hw : w1 o.2 = wn) (kk : ∀ (H1 : Heap) (locs1 : List Loc), va_P D vwCl (wa ++ wn) H1 → va_D A0 (wa ++ wn) → va_S A0 H0 H1 locs1 → W p l e R s m args below meth c H1 locs1 cells slots Q (F0 m (pc + 3) ls (.int o.1 :: rest))) : W p l e R s m args below meth c H locs cells slots Q (F0 m pc ls st0) := by
  have hR := jrangeL wa wb
  have hf := jfm hR
  refine jgi hr hP hD hS hA (List.range' wa.length wb.length) (List.range' 0 wa.length) (List.range' 0 (wa ++ wn).length) (jrangeR wa wb) (by rw [hf]; exact hR) (jnd_range _ _) (jdisR _ _ _ (Nat.le_refl _)) (wn := wa ++ wn) ?_ (jnd_range _ _) kk
  rw [hf, hw]
  have h := jrangeL (wa ++ wn) []
  rw [List.append_nil] at h
  exact h
theorem jglR {o : Int64 × S} (hr : va_Run p l e R s m args below meth c H locs cells slots 0 0 (F0 m pc ls st0) rest (jQl D (va_A wb H.size) w1 o a) (va_A wb H.size)) (hP : va_P D vwCl (wa ++ wb) H) (hD : va_D A0 (wa ++ wb)) (hS : va_S A0 H0 H locs) (hA : ∀ q, H0.size ≤ q → A0 q) (hw : w1 o.2 = wn) (kk : ∀ (H1 : Heap) (locs1 : List Loc), va_P D vwCl (wa ++ wn) H1 → va_D A0 (wa ++ wn) → va_S A0 H0 H1 locs1 → W p l e R s m args below meth c H1 locs1 cells slots Q (F0 m (pc + 3) ls (.long o.1 :: rest))) : W p l e R s m args below meth c H locs cells slots Q (F0 m pc ls st0) := by
  have hR := jrangeL wa wb
  have hf := jfm hR
  refine jgl hr hP hD hS hA (List.range' wa.length wb.length) (List.range' 0 wa.length) (List.range' 0 (wa ++ wn).length) (jrangeR wa wb) (by rw [hf]; exact hR) (jnd_range _ _) (jdisR _ _ _ (Nat.le_refl _)) (wn := wa ++ wn) ?_ (jnd_range _ _) kk
  rw [hf, hw]
  have h := jrangeL (wa ++ wn) []
  rw [List.append_nil] at h
  exact h
end JG

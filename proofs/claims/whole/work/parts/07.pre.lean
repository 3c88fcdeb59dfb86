/-! THE SHALLOW PICTURE: a loop as a function, what its rows need; the worlds; calls. -/
abbrev Mo : Type := (Nat → Nat → Int32) × (Nat → Int32)
abbrev BX : Type := (Nat → Mo) × (Nat → Mo) × (Nat → Mo) × Int64
def jw {S R : Type} (step : S → Option (S ⊕ R)) : Nat → S → Option R
  | 0, _ => none
  | n + 1, s => match step s with
    | none => none
    | some (.inl s') => jw step n s'
    | some (.inr r) => some r
theorem jw_P {S R : Type} {step : S → Option (S ⊕ R)} {P : S → Prop} {r : R} (hs : ∀ (s : S) (x : S ⊕ R), step s = some x → (∀ s', x = .inl s' → P s') → (∀ r', x = .inr r' → r' = r) → P s) :
    ∀ (n : Nat) (s : S), jw step n s = some r → P s := by
  intro n
  induction n with
  | zero => intro s h; cases h
  | succ n ih =>
    intro s h
    unfold jw at h
    cases hx : step s with
    | none => rw [hx] at h; cases h
    | some x =>
      rw [hx] at h
      cases x with
      | inl s' => exact hs s _ hx (fun s'' e => by cases e; exact ih s' h) (fun r' e => by cases e)
      | inr r' => exact hs s _ hx (fun s'' e => by cases e) (fun r'' e => by cases e; exact Option.some.inj h)
theorem jt {α : Type} {c : Prop} {d : Decidable c} {a b x : α} (hc : c) (h : @ite α c d a b = x) : a = x := by
  rw [if_pos hc] at h; exact h
theorem jf {α : Type} {c : Prop} {d : Decidable c} {a b x : α} (hc : ¬ c) (h : @ite α c d a b = x) : b = x := by
  rw [if_neg hc] at h; exact h
theorem jn {α : Type} {c : Prop} {d : Decidable c} {a : Option α} {x : α} (h : @ite (Option α) c d none a = some x) : ¬ c ∧ a = some x := by
  by_cases hc : c
  · rw [if_pos hc] at h; cases h
  · rw [if_neg hc] at h; exact ⟨hc, h⟩
theorem jb {α β : Type} {o : Option α} {k : α → Option β} {x : β} (h : o.bind k = some x) : ∃ a, o = some a ∧ k a = some x := by
  cases o with
  | none => cases h
  | some a => exact ⟨a, rfl, h⟩
theorem jsl {α β γ : Type} {f : α → γ} {g : β → γ} {a : α ⊕ β} {x : γ} {e : α} (h : Sum.elim f g a = x) (ha : a = .inl e) : f e = x := by
  subst ha; exact h
theorem jsr {α β γ : Type} {f : α → γ} {g : β → γ} {a : α ⊕ β} {x : γ} {e : β} (h : Sum.elim f g a = x) (ha : a = .inr e) : g e = x := by
  subst ha; exact h
theorem jne {x k : Int32} {z : Int} (hz : k.toInt = z) (h : ¬ x = k) : x.toInt ≠ z := fun e => h (Int32.toInt_inj.mp (e.trans hz.symm))
abbrev jo (i : Int32) (n : Nat) : Prop := i < 0 ∨ n ≤ i.toNatClampNeg
abbrev jz (v : Int32) : Prop := ¬ (v = 0 ∨ v = 1)
theorem jz_n {v : Int32} (h : ¬ jz v) : narrow .boolean (.int v) = .int v := by
  rcases Decidable.of_not_not h with rfl | rfl <;> rfl
theorem jz_f {v : Int32} (h : ¬ jz v) : fits .boolean (.int v) = true := by
  rcases Decidable.of_not_not h with rfl | rfl <;> rfl
def jN (U : State) : Prop := va_Nw (.fieldLinkNest "BellTheCat" 319 "BellTheCat$Team" "doers" "[I" "BellTheCat") U ∧ va_Nw (.methodLinkNest RX0 73 yX7_dangerOf RX7) U ∧ va_Nw (.methodLinkNest RX1 32 yX7_tenTo RX7) U ∧ va_Nw (.methodLinkNest RX2 58 yX7_tenTo RX7) U ∧ va_Nw (.methodLinkNest RX6 22 yX7_copyTeam RX7) U ∧ va_Nw (.methodLinkNest RX7 18 yX0_init RX7) U ∧ va_Nw (.methodLinkNest RX7 50 yX3_init RX7) U ∧ va_Nw (.methodLinkNest RX7 64 yX1_init RX7) U ∧ va_Nw (.methodLinkNest RX7 9 yX5_init RX7) U ∧ va_Nw (.methodLinkNest RX7 57 yX2_init RX7) U ∧ va_AO RX4 U
theorem jN.warm {s U : State} (hW : s.WarmedH U.vm) (h : jN s) : jN U := by
  obtain ⟨h1, h2, h3, h4, h5, h6, h7, h8, h9, h10, h11⟩ := h
  exact ⟨va_Nw.warmF hW h1, va_Nw.warmM hW h2, va_Nw.warmM hW h3, va_Nw.warmM hW h4, va_Nw.warmM hW h5, va_Nw.warmM hW h6, va_Nw.warmM hW h7, va_Nw.warmM hW h8, va_Nw.warmM hW h9, va_Nw.warmM hW h10, va_AO.moved hW.alike h11⟩
theorem jN.same {s U : State} (hv : s.vm = U.vm) (h : jN s) : jN U := by
  obtain ⟨h1, h2, h3, h4, h5, h6, h7, h8, h9, h10, h11⟩ := h
  exact ⟨va_Nw.same rfl hv h1, va_Nw.same rfl hv h2, va_Nw.same rfl hv h3, va_Nw.same rfl hv h4, va_Nw.same rfl hv h5, va_Nw.same rfl hv h6, va_Nw.same rfl hv h7, va_Nw.same rfl hv h8, va_Nw.same rfl hv h9, va_Nw.same rfl hv h10, va_AO.moved (by rw [hv]; exact Vm.Alike.refl _) h11⟩
abbrev jTys (cyI cyZ cyT : ClassId) : List (ClassId × FieldType) := [(cyI, .int), (cyZ, .boolean), (cyT, .object "BellTheCat$Team")]
def jK (D : va_G) (cyI cyZ cyT : ClassId) (U : State) : Prop := va_K D vwCl (jTys cyI cyZ cyT) U ∧ jN U
theorem jK.warm {D : va_G} {cyI cyZ cyT : ClassId} {s U : State} (hW : s.WarmedH U.vm) (h : jK D cyI cyZ cyT s) : jK D cyI cyZ cyT U := ⟨va_K.moved hW.alike h.1, h.2.warm hW⟩
theorem jK.blind {D : va_G} {cyI cyZ cyT : ClassId} {U : State} {g : JFrame} {mk : MethodId} {a : Array Value} (h : jK D cyI cyZ cyT U) : jK D cyI cyZ cyT (U.calling g mk a) := ⟨va_K.moved (u := U) (U := U.calling g mk a) (Vm.Alike.refl U.vm) h.1, h.2.same rfl⟩
def jB (D : va_G) (cyI cyZ cyT : ClassId) (wc : va_W) (U : State) : Prop := va_P D vwCl wc U.heap ∧ jK D cyI cyZ cyT U
def jM (D : va_G) (cyI cyZ cyT : ClassId) (wc : va_W) (sz : Nat) (U : State) : Prop := U.heap.size = sz ∧ va_P D vwCl wc U.heap ∧ jK D cyI cyZ cyT U ∧ va_D (fun _ => True) wc
theorem jP0 {D : va_G} {H : Heap} : va_P D vwCl [] H := fun k q h => by simp at h
abbrev jQi {S : Type} (D : va_G) (A : Nat → Prop) (wn : S → va_W) (o : Int32 × S) : Array Value → State → Outcome → State → Prop := va_Qi (fun r u => (r, u) = o) (fun u t => va_P D vwCl (wn u) t.heap ∧ va_D A (wn u)) A
abbrev jQl {S : Type} (D : va_G) (A : Nat → Prop) (wn : S → va_W) (o : Int64 × S) : Array Value → State → Outcome → State → Prop := va_Ql (fun r u => (r, u) = o) (fun u t => va_P D vwCl (wn u) t.heap ∧ va_D A (wn u)) A
abbrev jQv {S : Type} (D : va_G) (A : Nat → Prop) (wn : S → va_W) (o : S) : Array Value → State → Outcome → State → Prop := va_Qv (fun u => u = o) (fun u t => va_P D vwCl (wn u) t.heap ∧ va_D A (wn u)) A
abbrev jSi (o : Int32) : Array Value → State → Outcome → State → Prop := vp_Si (fun r => r = o)
abbrev jSl (o : Int64) : Array Value → State → Outcome → State → Prop := vp_Sl (fun r => r = o)
theorem jfm {α β : Type} {f : α → Option β} : ∀ {pm : List α} {wn : List β}, pm.map f = wn.map some → pm.filterMap f = wn
  | [], [], _ => rfl
  | [], _ :: _, h => by simp at h
  | _ :: _, [], h => by simp at h
  | a :: pm, b :: wn, h => by
    rw [List.map_cons, List.map_cons] at h
    obtain ⟨h1, h2⟩ := List.cons.inj h
    rw [List.filterMap_cons, h1, jfm h2]
section JC
variable {p : Program} {l : Launch} {e : Env} {R : Room} {s : State} {m : MethodId} {args : Array Value} {below : List Frame} {meth : Method} {c : Code} {H : Heap} {locs : List Loc} {cells slots : Nat} {Q : State → Prop}
variable {y : MethodName} {bytes cc : ByteArray} {maxL nL mc ms n index : Nat} {ret : Option FieldType} {ws : List Cond} {rm : Room} {Qc : Array Value → State → Outcome → State → Prop} {free : Addr → Prop} {Ts : List Cond} {own C host : String} {b : Addr} {As rest st0 : List Value} {pc : Nat} {ls : Array Slot}
variable {D : va_G} {cyI cyZ cyT : ClassId} {wc : va_W}
/-- a call of a method of an object whose cells it only reads -/
theorem jrV (S : CallFix p m c cc nL s args Ts own) (hM : Met l y ws rm (va_Pc (.ref b :: As) (jB D cyI cyZ cyT wc)) Qc mc ms free) (cw : CallW R s args own C index y bytes maxL ret ws rm mc ms n) (hK : jK D cyI cyZ cyT s) (hP : va_P D vwCl wc H)
    (hst : st0 = As.reverse ++ .ref b :: rest) (ci q0 : Nat) {fs : List Value} {T : u_T} {N : Nat} (hc : vwCl[ci]? = some (C, T, N)) (he : wc[q0]? = some (b, .inr (ci, fs))) (hn : As.length = n) (hsize : ls.size = nL) (hW : (rest.map fun v => v.category).sum ≤ 8) (hdg : decode cc pc = .ok (.invokevirtual index, 3)) (hf : cells + mc ≤ R.cells ∧ slots + ms ≤ R.slots) :
    va_Run p l e R s m args below meth c H locs cells slots mc ms (F0 m pc ls st0) rest (Qc (Value.ref b :: As).toArray) free :=
  va_runV (As := As) (rest := rest) S hM cw ⟨fun a U g mk q => ⟨q.1, q.2.1, q.2.2.blind⟩, va_recv hK.1 hP hc he, fun U hU hW => ⟨rfl, by rw [hU]; exact hP, hK.warm hW⟩⟩ rfl hn hsize hst (lv_room hW) hdg hf
theorem jrS (S : CallFix p m c cc nL s args Ts own) (hM : Met l y ws rm (va_Pc As (jB D cyI cyZ cyT wc)) Qc mc ms free) (cw : CallB R s args own index y bytes maxL ret ws rm mc ms n ∧ (Cond.static y).before args s = true) (hK : jK D cyI cyZ cyT s) (hP : va_P D vwCl wc H)
    (hst : st0 = As.reverse ++ rest) (hn : As.length = n) (hsize : ls.size = nL) (hW : (rest.map fun v => v.category).sum ≤ 8) (hdg : decode cc pc = .ok (.invokestatic index, 3)) (hf : cells + mc ≤ R.cells ∧ slots + ms ≤ R.slots) :
    va_Run p l e R s m args below meth c H locs cells slots mc ms (F0 m pc ls st0) rest (Qc As.toArray) free :=
  va_runS (As := As) (rest := rest) S hM cw ⟨fun a U g mk q => ⟨q.1, q.2.1, q.2.2.blind⟩, fun U hU hW => ⟨rfl, by rw [hU]; exact hP, hK.warm hW⟩⟩ rfl hn hsize hst (lv_room hW) hdg hf
theorem jrN (S : CallFix p m c cc nL s args Ts own) (hM : Met l y ws rm (va_Pc As (jB D cyI cyZ cyT wc)) Qc mc ms free) (cw : va_CN R s args own index y host bytes maxL ret ws rm mc ms n ∧ (Cond.static y).before args s = true ∧ True) (hK : jK D cyI cyZ cyT s) (hP : va_P D vwCl wc H)
    (hst : st0 = As.reverse ++ rest) (hn : As.length = n) (hsize : ls.size = nL) (hW : (rest.map fun v => v.category).sum ≤ 8) (hdg : decode cc pc = .ok (.invokestatic index, 3)) (hf : cells + mc ≤ R.cells ∧ slots + ms ≤ R.slots) :
    va_Run p l e R s m args below meth c H locs cells slots mc ms (F0 m pc ls st0) rest (Qc As.toArray) free :=
  va_runSN (As := As) (rest := rest) S hM cw ⟨fun a U g mk q => ⟨q.1, q.2.1, q.2.2.blind⟩, fun U hU hW => ⟨rfl, by rw [hU]; exact hP, hK.warm hW⟩⟩ rfl hn hsize hst (lv_room hW) hdg hf
/-- a call of a method that changes cells -/
theorem jmV (S : CallFix p m c cc nL s args Ts own) (hM : Met l y ws rm (va_Pc (.ref b :: As) (jM D cyI cyZ cyT wc H.size)) Qc mc ms free) (cw : CallW R s args own C index y bytes maxL ret ws rm mc ms n) (hK : jK D cyI cyZ cyT s) (hP : va_P D vwCl wc H) {A : Nat → Prop} (hD : va_D A wc)
    (hst : st0 = As.reverse ++ .ref b :: rest) (ci q0 : Nat) {fs : List Value} {T : u_T} {N : Nat} (hc : vwCl[ci]? = some (C, T, N)) (he : wc[q0]? = some (b, .inr (ci, fs))) (hn : As.length = n) (hsize : ls.size = nL) (hW : (rest.map fun v => v.category).sum ≤ 8) (hdg : decode cc pc = .ok (.invokevirtual index, 3)) (hf : cells + mc ≤ R.cells ∧ slots + ms ≤ R.slots) :
    va_Run p l e R s m args below meth c H locs cells slots mc ms (F0 m pc ls st0) rest (Qc (Value.ref b :: As).toArray) free :=
  va_runV (As := As) (rest := rest) S hM cw ⟨fun a U g mk q => ⟨q.1, q.2.1, q.2.2.1, q.2.2.2.1.blind, q.2.2.2.2⟩, va_recv hK.1 hP hc he, fun U hU hW => ⟨rfl, by rw [hU], by rw [hU]; exact hP, hK.warm hW, hD.weaken (fun _ _ _ _ => trivial)⟩⟩ rfl hn hsize hst (lv_room hW) hdg hf
theorem jmS (S : CallFix p m c cc nL s args Ts own) (hM : Met l y ws rm (va_Pc As (jM D cyI cyZ cyT wc H.size)) Qc mc ms free) (cw : CallB R s args own index y bytes maxL ret ws rm mc ms n ∧ (Cond.static y).before args s = true) (hK : jK D cyI cyZ cyT s) (hP : va_P D vwCl wc H) {A : Nat → Prop} (hD : va_D A wc)
    (hst : st0 = As.reverse ++ rest) (hn : As.length = n) (hsize : ls.size = nL) (hW : (rest.map fun v => v.category).sum ≤ 8) (hdg : decode cc pc = .ok (.invokestatic index, 3)) (hf : cells + mc ≤ R.cells ∧ slots + ms ≤ R.slots) :
    va_Run p l e R s m args below meth c H locs cells slots mc ms (F0 m pc ls st0) rest (Qc As.toArray) free :=
  va_runS (As := As) (rest := rest) S hM cw ⟨fun a U g mk q => ⟨q.1, q.2.1, q.2.2.1, q.2.2.2.1.blind, q.2.2.2.2⟩, fun U hU hW => ⟨rfl, by rw [hU], by rw [hU]; exact hP, hK.warm hW, hD.weaken (fun _ _ _ _ => trivial)⟩⟩ rfl hn hsize hst (lv_room hW) hdg hf
theorem jmN (S : CallFix p m c cc nL s args Ts own) (hM : Met l y ws rm (va_Pc As (jM D cyI cyZ cyT wc H.size)) Qc mc ms free) (cw : va_CN R s args own index y host bytes maxL ret ws rm mc ms n ∧ (Cond.static y).before args s = true ∧ True) (hK : jK D cyI cyZ cyT s) (hP : va_P D vwCl wc H) {A : Nat → Prop} (hD : va_D A wc)
    (hst : st0 = As.reverse ++ rest) (hn : As.length = n) (hsize : ls.size = nL) (hW : (rest.map fun v => v.category).sum ≤ 8) (hdg : decode cc pc = .ok (.invokestatic index, 3)) (hf : cells + mc ≤ R.cells ∧ slots + ms ≤ R.slots) :
    va_Run p l e R s m args below meth c H locs cells slots mc ms (F0 m pc ls st0) rest (Qc As.toArray) free :=
  va_runSN (As := As) (rest := rest) S hM cw ⟨fun a U g mk q => ⟨q.1, q.2.1, q.2.2.1, q.2.2.2.1.blind, q.2.2.2.2⟩, fun U hU hW => ⟨rfl, by rw [hU], by rw [hU]; exact hP, hK.warm hW, hD.weaken (fun _ _ _ _ => trivial)⟩⟩ rfl hn hsize hst (lv_room hW) hdg hf
/-- behind a call that only reads -/
theorem jki {o : Int32} {a : Array Value} (hr : va_Run p l e R s m args below meth c H locs cells slots 0 0 (F0 m pc ls st0) rest (jSi o a) (fun _ => False)) (kk : W p l e R s m args below meth c H locs cells slots Q (F0 m (pc + 3) ls (.int o :: rest))) : W p l e R s m args below meth c H locs cells slots Q (F0 m pc ls st0) :=
  vp_callSi hr.run (fun r hr => by rw [hr]; exact kk)
theorem jkl {o : Int64} {a : Array Value} (hr : va_Run p l e R s m args below meth c H locs cells slots 0 0 (F0 m pc ls st0) rest (jSl o a) (fun _ => False)) (kk : W p l e R s m args below meth c H locs cells slots Q (F0 m (pc + 3) ls (.long o :: rest))) : W p l e R s m args below meth c H locs cells slots Q (F0 m pc ls st0) :=
  vp_callSl hr.run (fun r hr => by rw [hr]; exact kk)
/-- the cells behind a call that changes some: the rest, and what came back, in the order that is wanted -/
theorem jjoin {S : Type} {A0 : Nat → Prop} {ws wn : va_W} {w1 : S → va_W} {u : S} {H H1 : Heap} (hP : va_P D vwCl ws H) (hD : va_D A0 ws) (hF : ∀ q, va_A wc H.size q → A0 q) (isC isR pm : List Nat) (hC : isC.map (fun i => ws[i]?) = wc.map some) (hR : isR.map (fun i => ws[i]?) = (isR.filterMap (fun i => ws[i]?)).map some) (hn : va_nd isR = true) (hdis : isR.all (fun i => !isC.contains i) = true)
    (hpm : pm.map (fun i => (isR.filterMap (fun i => ws[i]?) ++ w1 u)[i]?) = wn.map some) (hnp : va_nd pm = true) (hk : ∀ q : Nat, q < H.size → ¬ va_A wc H.size q → H1[q]? = H[q]?) (hP1 : va_P D vwCl (w1 u) H1) (hD1 : va_D (va_A wc H.size) (w1 u)) : va_P D vwCl wn H1 ∧ va_D A0 wn := by
  have hd : ∀ i ∈ isR, i ∉ isC := by
    intro i hi hc
    have := List.all_eq_true.mp hdis i hi
    simp at this
    exact this hc
  obtain ⟨h1, h2⟩ := va_join (wr := isR.filterMap (fun i => ws[i]?)) (w1 := w1 u) hP hD isC isR hC hR hn hd hk hF hP1 hD1
  exact ⟨h1.sub pm (jfm hpm), h2.sub pm hnp hpm⟩
theorem jgi {S : Type} {A0 : Nat → Prop} {H0 : Heap} {ws wn : va_W} {w1 : S → va_W} {o : Int32 × S} {a : Array Value} (hr : va_Run p l e R s m args below meth c H locs cells slots 0 0 (F0 m pc ls st0) rest (jQi D (va_A wc H.size) w1 o a) (va_A wc H.size)) (hP : va_P D vwCl ws H) (hD : va_D A0 ws) (hS : va_S A0 H0 H locs) (hA : ∀ q, H0.size ≤ q → A0 q) (isC isR pm : List Nat) (hC : isC.map (fun i => ws[i]?) = wc.map some) (hR : isR.map (fun i => ws[i]?) = (isR.filterMap (fun i => ws[i]?)).map some) (hn : va_nd isR = true) (hdis : isR.all (fun i => !isC.contains i) = true)
    (hpm : pm.map (fun i => (isR.filterMap (fun i => ws[i]?) ++ w1 o.2)[i]?) = wn.map some) (hnp : va_nd pm = true) (kk : ∀ (H1 : Heap) (locs1 : List Loc), va_P D vwCl wn H1 → va_D A0 wn → va_S A0 H0 H1 locs1 → W p l e R s m args below meth c H1 locs1 cells slots Q (F0 m (pc + 3) ls (.int o.1 :: rest))) : W p l e R s m args below meth c H locs cells slots Q (F0 m pc ls st0) := by
  have hF := va_free (wc := wc) hD hS hA isC hC
  refine va_calli hr hS (fun q _ h => hF q h) hF (fun r u t H1 locs1 ht hvm hw hB hz1 hk1 hS => ?_)
  subst hw
  obtain ⟨hP1, hD1⟩ := hB
  rw [ht] at hP1
  obtain ⟨h1, h2⟩ := jjoin hP hD hF isC isR pm hC hR hn hdis hpm hnp hk1 hP1 hD1
  exact kk H1 locs1 h1 h2 hS
theorem jgl {S : Type} {A0 : Nat → Prop} {H0 : Heap} {ws wn : va_W} {w1 : S → va_W} {o : Int64 × S} {a : Array Value} (hr : va_Run p l e R s m args below meth c H locs cells slots 0 0 (F0 m pc ls st0) rest (jQl D (va_A wc H.size) w1 o a) (va_A wc H.size)) (hP : va_P D vwCl ws H) (hD : va_D A0 ws) (hS : va_S A0 H0 H locs) (hA : ∀ q, H0.size ≤ q → A0 q) (isC isR pm : List Nat) (hC : isC.map (fun i => ws[i]?) = wc.map some) (hR : isR.map (fun i => ws[i]?) = (isR.filterMap (fun i => ws[i]?)).map some) (hn : va_nd isR = true) (hdis : isR.all (fun i => !isC.contains i) = true)
    (hpm : pm.map (fun i => (isR.filterMap (fun i => ws[i]?) ++ w1 o.2)[i]?) = wn.map some) (hnp : va_nd pm = true) (kk : ∀ (H1 : Heap) (locs1 : List Loc), va_P D vwCl wn H1 → va_D A0 wn → va_S A0 H0 H1 locs1 → W p l e R s m args below meth c H1 locs1 cells slots Q (F0 m (pc + 3) ls (.long o.1 :: rest))) : W p l e R s m args below meth c H locs cells slots Q (F0 m pc ls st0) := by
  have hF := va_free (wc := wc) hD hS hA isC hC
  refine va_calll hr hS (fun q _ h => hF q h) hF (fun r u t H1 locs1 ht hvm hw hB hz1 hk1 hS => ?_)
  subst hw
  obtain ⟨hP1, hD1⟩ := hB
  rw [ht] at hP1
  obtain ⟨h1, h2⟩ := jjoin hP hD hF isC isR pm hC hR hn hdis hpm hnp hk1 hP1 hD1
  exact kk H1 locs1 h1 h2 hS
theorem jgv {S : Type} {A0 : Nat → Prop} {H0 : Heap} {ws wn : va_W} {w1 : S → va_W} {o : S} {a : Array Value} (hr : va_Run p l e R s m args below meth c H locs cells slots 0 0 (F0 m pc ls st0) rest (jQv D (va_A wc H.size) w1 o a) (va_A wc H.size)) (hP : va_P D vwCl ws H) (hD : va_D A0 ws) (hS : va_S A0 H0 H locs) (hA : ∀ q, H0.size ≤ q → A0 q) (isC isR pm : List Nat) (hC : isC.map (fun i => ws[i]?) = wc.map some) (hR : isR.map (fun i => ws[i]?) = (isR.filterMap (fun i => ws[i]?)).map some) (hn : va_nd isR = true) (hdis : isR.all (fun i => !isC.contains i) = true)
    (hpm : pm.map (fun i => (isR.filterMap (fun i => ws[i]?) ++ w1 o)[i]?) = wn.map some) (hnp : va_nd pm = true) (kk : ∀ (H1 : Heap) (locs1 : List Loc), va_P D vwCl wn H1 → va_D A0 wn → va_S A0 H0 H1 locs1 → W p l e R s m args below meth c H1 locs1 cells slots Q (F0 m (pc + 3) ls rest)) : W p l e R s m args below meth c H locs cells slots Q (F0 m pc ls st0) := by
  have hF := va_free (wc := wc) hD hS hA isC hC
  refine va_callv hr hS (fun q _ h => hF q h) hF (fun u t H1 locs1 ht hvm hw hB hz1 hk1 hS => ?_)
  subst hw
  obtain ⟨hP1, hD1⟩ := hB
  rw [ht] at hP1
  obtain ⟨h1, h2⟩ := jjoin hP hD hF isC isR pm hC hR hn hdis hpm hnp hk1 hP1 hD1
  exact kk H1 locs1 h1 h2 hS
/-- an array's place, read and written, with the place's number said -/
theorem jald {a : Nat} {w : va_W} (hexec : p.tables.exec = Jvm.exec) (hb : c.code = cc) (hK : jK D cyI cyZ cyT s) (hP : va_P D vwCl w H) (q0 : Nat) {n : Nat} {f : Nat → Int32} (ha : w[q0]? = some (a, .inl (cyI, n, .inl f))) {i : Int32} (k : Nat) (hk : i.toNatClampNeg = k) (hin : ¬ (i < 0 ∨ n ≤ i.toNatClampNeg)) (hdg : decode cc pc = .ok (.iaload, 1))
    (kk : W p l e R s m args below meth c H locs cells slots Q (F0 m (pc + 1) ls (.int (f k) :: rest))) : W p l e R s m args below meth c H locs cells slots Q (F0 m pc ls (.int i :: .ref a :: rest)) := by
  subst hk
  exact va_iald hexec hb hK.1 hP q0 0 ha rfl hin hdg kk
theorem jast {a : Nat} {w w' : va_W} {A : Nat → Prop} {H0 : Heap} (hexec : p.tables.exec = Jvm.exec) (hb : c.code = cc) (hK : jK D cyI cyZ cyT s) (hP : va_P D vwCl w H) (hD : va_D A w) (hS : va_S A H0 H locs) (q0 : Nat) {n : Nat} {f : Nat → Int32} (ha : w[q0]? = some (a, .inl (cyI, n, .inl f))) {i x : Int32} (k : Nat) (hk : i.toNatClampNeg = k) (hin : ¬ (i < 0 ∨ n ≤ i.toNatClampNeg)) (hw : w.set q0 (a, .inl (cyI, n, .inl (upd f k x))) = w') (hdg : decode cc pc = .ok (.iastore, 1))
    (kk : ∀ (H1 : Heap) (locs1 : List Loc), va_P D vwCl w' H1 → va_D A w' → va_S A H0 H1 locs1 → W p l e R s m args below meth c H1 locs1 cells slots Q (F0 m (pc + 1) ls rest)) : W p l e R s m args below meth c H locs cells slots Q (F0 m pc ls (.int x :: .int i :: .ref a :: rest)) := by
  subst hk
  subst hw
  exact va_iast hexec hb hK.1 hP hD hS q0 0 ha rfl hin hdg kk
theorem jzld {a : Nat} {w : va_W} (hexec : p.tables.exec = Jvm.exec) (hb : c.code = cc) (hK : jK D cyI cyZ cyT s) (hP : va_P D vwCl w H) (q0 : Nat) {n : Nat} {f : Nat → Int32} (ha : w[q0]? = some (a, .inl (cyZ, n, .inl f))) {i : Int32} (k : Nat) (hk : i.toNatClampNeg = k) (hin : ¬ (i < 0 ∨ n ≤ i.toNatClampNeg)) (hdg : decode cc pc = .ok (.baload, 1))
    (kk : W p l e R s m args below meth c H locs cells slots Q (F0 m (pc + 1) ls (.int (f k) :: rest))) : W p l e R s m args below meth c H locs cells slots Q (F0 m pc ls (.int i :: .ref a :: rest)) := by
  subst hk
  exact va_zald hexec hb hK.1 hP q0 1 ha rfl hin hdg kk
theorem jzst {a : Nat} {w w' : va_W} {A : Nat → Prop} {H0 : Heap} (hexec : p.tables.exec = Jvm.exec) (hb : c.code = cc) (hK : jK D cyI cyZ cyT s) (hP : va_P D vwCl w H) (hD : va_D A w) (hS : va_S A H0 H locs) (q0 : Nat) {n : Nat} {f : Nat → Int32} (ha : w[q0]? = some (a, .inl (cyZ, n, .inl f))) {i x : Int32} (hx : vp_nar .boolean x = x) (k : Nat) (hk : i.toNatClampNeg = k) (hin : ¬ (i < 0 ∨ n ≤ i.toNatClampNeg)) (hw : w.set q0 (a, .inl (cyZ, n, .inl (upd f k x))) = w') (hdg : decode cc pc = .ok (.bastore, 1))
    (kk : ∀ (H1 : Heap) (locs1 : List Loc), va_P D vwCl w' H1 → va_D A w' → va_S A H0 H1 locs1 → W p l e R s m args below meth c H1 locs1 cells slots Q (F0 m (pc + 1) ls rest)) : W p l e R s m args below meth c H locs cells slots Q (F0 m pc ls (.int x :: .int i :: .ref a :: rest)) := by
  subst hk
  subst hw
  refine va_zast hexec hb hK.1 hP hD hS q0 1 ha rfl hin hdg ?_
  rw [hx]
  exact kk
end JC
abbrev wH (cyI : ClassId) (q : Nat → Nat) (h : Mo) : va_W := [(q 0, .inr (0, [.ref (q 1), .ref (q 2), .ref (q 3), .ref (q 4), .ref (q 5), .ref (q 6), .ref (q 7), .ref (q 8), .int (h.2 0), .int (h.2 1), .int (h.2 2), .int (h.2 3)])), (q 1, .inl (cyI, 6, .inl (h.1 0))), (q 2, .inl (cyI, 6, .inl (h.1 1))), (q 3, .inl (cyI, 6, .inl (h.1 2))), (q 4, .inl (cyI, 6, .inl (h.1 3))), (q 5, .inl (cyI, 5, .inl (h.1 4))), (q 6, .inl (cyI, 4, .inl (h.1 5))), (q 7, .inl (cyI, 4, .inl (h.1 6))), (q 8, .inl (cyI, 4, .inl (h.1 7)))]
abbrev wT (cyI : ClassId) (q : Nat → Nat) (t : Mo) : va_W := [(q 0, .inr (4, [.ref (q 1), .int (t.2 0), .int (t.2 1), .int (t.2 2)])), (q 1, .inl (cyI, 5, .inl (t.1 0)))]
abbrev wTx (cyI : ClassId) (q : Nat → Nat) (x : Mo) : va_W := [(q 0, .inr (5, [.ref (q 1), .ref (q 2), .int (x.2 0), .int (x.2 1), .int (x.2 2), .int (x.2 3)])), (q 1, .inl (cyI, 160, .inl (x.1 0))), (q 2, .inl (cyI, 3, .inl (x.1 1)))]
abbrev wG (cyI : ClassId) (q : Nat → Nat) (g : Mo) : va_W := [(q 0, .inr (3, [.ref (q 1), .ref (q 2), .int (g.2 0)])), (q 1, .inl (cyI, 6, .inl (g.1 0))), (q 2, .inl (cyI, 6, .inl (g.1 1)))]
abbrev wO (q : Nat → Nat) (f : Mo) : va_W := [(q 0, .inr (1, [.int (f.2 0), .int (f.2 1), .int (f.2 2), .int (f.2 3), .int (f.2 4)]))]
abbrev wU (cyI cyT : ClassId) (q : Nat → Nat) (u : Mo) (R : Nat → Mo) : va_W := [(q 0, .inr (6, [.ref (q 1), .int (u.2 0), .int (u.2 1)])), (q 1, .inl (cyT, 8, .inr (.inr (.inr (.inr (fun j => some (q (2 + 2 * j)))))))), (q 2, .inr (4, [.ref (q 3), .int ((R 0).2 0), .int ((R 0).2 1), .int ((R 0).2 2)])), (q 3, .inl (cyI, 5, .inl ((R 0).1 0))), (q 4, .inr (4, [.ref (q 5), .int ((R 1).2 0), .int ((R 1).2 1), .int ((R 1).2 2)])), (q 5, .inl (cyI, 5, .inl ((R 1).1 0))), (q 6, .inr (4, [.ref (q 7), .int ((R 2).2 0), .int ((R 2).2 1), .int ((R 2).2 2)])), (q 7, .inl (cyI, 5, .inl ((R 2).1 0))), (q 8, .inr (4, [.ref (q 9), .int ((R 3).2 0), .int ((R 3).2 1), .int ((R 3).2 2)])), (q 9, .inl (cyI, 5, .inl ((R 3).1 0))), (q 10, .inr (4, [.ref (q 11), .int ((R 4).2 0), .int ((R 4).2 1), .int ((R 4).2 2)])), (q 11, .inl (cyI, 5, .inl ((R 4).1 0))), (q 12, .inr (4, [.ref (q 13), .int ((R 5).2 0), .int ((R 5).2 1), .int ((R 5).2 2)])), (q 13, .inl (cyI, 5, .inl ((R 5).1 0))), (q 14, .inr (4, [.ref (q 15), .int ((R 6).2 0), .int ((R 6).2 1), .int ((R 6).2 2)])), (q 15, .inl (cyI, 5, .inl ((R 6).1 0))), (q 16, .inr (4, [.ref (q 17), .int ((R 7).2 0), .int ((R 7).2 1), .int ((R 7).2 2)])), (q 17, .inl (cyI, 5, .inl ((R 7).1 0)))]
abbrev wS (cyI : ClassId) (q : Nat → Nat) (r : Mo) (b : Int64) : va_W := [(q 0, .inr (2, [.ref (q 1), .ref (q 2), .long b, .int (r.2 0)])), (q 1, .inl (cyI, 5, .inl (r.1 0))), (q 2, .inl (cyI, 5, .inl (r.1 1)))]
abbrev wM (cyI cyZ : ClassId) (q : Nat → Nat) (M : Mo) : va_W := [(q 0, .inr (8, [.int (M.2 0), .ref (q 1), .int (M.2 1), .int (M.2 2), .int (M.2 3), .int (M.2 4), .int (M.2 5), .int (M.2 6), .int (M.2 7), .int (M.2 8), .ref (q 2), .ref (q 3), .ref (q 4), .ref (q 5), .ref (q 6), .ref (q 7), .int (M.2 9), .ref (q 8), .ref (q 9), .ref (q 10), .ref (q 11), .int (M.2 10), .ref (q 12), .ref (q 13)])), (q 1, .inl (cyI, 160, .inl (M.1 0))), (q 2, .inl (cyI, 48, .inl (M.1 1))), (q 3, .inl (cyI, 10, .inl (M.1 2))), (q 4, .inl (cyI, 24, .inl (M.1 3))), (q 5, .inl (cyI, 8, .inl (M.1 4))), (q 6, .inl (cyI, 8, .inl (M.1 5))), (q 7, .inl (cyI, 64, .inl (M.1 6))), (q 8, .inl (cyI, 16, .inl (M.1 7))), (q 9, .inl (cyZ, 2, .inl (M.1 8))), (q 10, .inl (cyI, 6, .inl (M.1 9))), (q 11, .inl (cyI, 6, .inl (M.1 10))), (q 12, .inl (cyI, 5, .inl (M.1 11))), (q 13, .inl (cyI, 5, .inl (M.1 12)))]
abbrev wA (cyI : ClassId) (q : Nat → Nat) (n : Nat) (f : Nat → Int32) : va_W := [(q 0, .inl (cyI, n, .inl f))]
abbrev wX (cyI cyZ cyT : ClassId) (q : Nat → Nat) (X : BX) : va_W := [(q 0, .inr (7, [.ref (q 1), .ref (q 4), .ref (q 13), .ref (q 22), .ref (q 24), .ref (q 42), .ref (q 43), .ref (q 48), .ref (q 51), .ref (q 54)])), (q 1, .inr (5, [.ref (q 2), .ref (q 3), .int ((X.1 0).2 0), .int ((X.1 0).2 1), .int ((X.1 0).2 2), .int ((X.1 0).2 3)])), (q 2, .inl (cyI, 160, .inl ((X.1 0).1 0))), (q 3, .inl (cyI, 3, .inl ((X.1 0).1 1))), (q 4, .inr (0, [.ref (q 5), .ref (q 6), .ref (q 7), .ref (q 8), .ref (q 9), .ref (q 10), .ref (q 11), .ref (q 12), .int ((X.1 1).2 0), .int ((X.1 1).2 1), .int ((X.1 1).2 2), .int ((X.1 1).2 3)])), (q 5, .inl (cyI, 6, .inl ((X.1 1).1 0))), (q 6, .inl (cyI, 6, .inl ((X.1 1).1 1))), (q 7, .inl (cyI, 6, .inl ((X.1 1).1 2))), (q 8, .inl (cyI, 6, .inl ((X.1 1).1 3))), (q 9, .inl (cyI, 5, .inl ((X.1 1).1 4))), (q 10, .inl (cyI, 4, .inl ((X.1 1).1 5))), (q 11, .inl (cyI, 4, .inl ((X.1 1).1 6))), (q 12, .inl (cyI, 4, .inl ((X.1 1).1 7))), (q 13, .inr (0, [.ref (q 14), .ref (q 15), .ref (q 16), .ref (q 17), .ref (q 18), .ref (q 19), .ref (q 20), .ref (q 21), .int ((X.1 2).2 0), .int ((X.1 2).2 1), .int ((X.1 2).2 2), .int ((X.1 2).2 3)])), (q 14, .inl (cyI, 6, .inl ((X.1 2).1 0))), (q 15, .inl (cyI, 6, .inl ((X.1 2).1 1))), (q 16, .inl (cyI, 6, .inl ((X.1 2).1 2))), (q 17, .inl (cyI, 6, .inl ((X.1 2).1 3))), (q 18, .inl (cyI, 5, .inl ((X.1 2).1 4))), (q 19, .inl (cyI, 4, .inl ((X.1 2).1 5))), (q 20, .inl (cyI, 4, .inl ((X.1 2).1 6))), (q 21, .inl (cyI, 4, .inl ((X.1 2).1 7))), (q 22, .inr (4, [.ref (q 23), .int ((X.1 3).2 0), .int ((X.1 3).2 1), .int ((X.1 3).2 2)])), (q 23, .inl (cyI, 5, .inl ((X.1 3).1 0))), (q 24, .inr (6, [.ref (q 25), .int ((X.1 4).2 0), .int ((X.1 4).2 1)])), (q 25, .inl (cyT, 8, .inr (.inr (.inr (.inr (fun j => some (q (24 + (2 + 2 * j))))))))), (q 26, .inr (4, [.ref (q 27), .int ((X.2.1 0).2 0), .int ((X.2.1 0).2 1), .int ((X.2.1 0).2 2)])), (q 27, .inl (cyI, 5, .inl ((X.2.1 0).1 0))), (q 28, .inr (4, [.ref (q 29), .int ((X.2.1 1).2 0), .int ((X.2.1 1).2 1), .int ((X.2.1 1).2 2)])), (q 29, .inl (cyI, 5, .inl ((X.2.1 1).1 0))), (q 30, .inr (4, [.ref (q 31), .int ((X.2.1 2).2 0), .int ((X.2.1 2).2 1), .int ((X.2.1 2).2 2)])), (q 31, .inl (cyI, 5, .inl ((X.2.1 2).1 0))), (q 32, .inr (4, [.ref (q 33), .int ((X.2.1 3).2 0), .int ((X.2.1 3).2 1), .int ((X.2.1 3).2 2)])), (q 33, .inl (cyI, 5, .inl ((X.2.1 3).1 0))), (q 34, .inr (4, [.ref (q 35), .int ((X.2.1 4).2 0), .int ((X.2.1 4).2 1), .int ((X.2.1 4).2 2)])), (q 35, .inl (cyI, 5, .inl ((X.2.1 4).1 0))), (q 36, .inr (4, [.ref (q 37), .int ((X.2.1 5).2 0), .int ((X.2.1 5).2 1), .int ((X.2.1 5).2 2)])), (q 37, .inl (cyI, 5, .inl ((X.2.1 5).1 0))), (q 38, .inr (4, [.ref (q 39), .int ((X.2.1 6).2 0), .int ((X.2.1 6).2 1), .int ((X.2.1 6).2 2)])), (q 39, .inl (cyI, 5, .inl ((X.2.1 6).1 0))), (q 40, .inr (4, [.ref (q 41), .int ((X.2.1 7).2 0), .int ((X.2.1 7).2 1), .int ((X.2.1 7).2 2)])), (q 41, .inl (cyI, 5, .inl ((X.2.1 7).1 0))), (q 42, .inl (cyT, 2, .inr (.inr (.inr (.inr (fun j => some (q (42 + (2 + 2 * j))))))))), (q 43, .inl (cyZ, 2, .inl ((X.1 5).1 0))), (q 44, .inr (4, [.ref (q 45), .int ((X.2.2.1 0).2 0), .int ((X.2.2.1 0).2 1), .int ((X.2.2.1 0).2 2)])), (q 45, .inl (cyI, 5, .inl ((X.2.2.1 0).1 0))), (q 46, .inr (4, [.ref (q 47), .int ((X.2.2.1 1).2 0), .int ((X.2.2.1 1).2 1), .int ((X.2.2.1 1).2 2)])), (q 47, .inl (cyI, 5, .inl ((X.2.2.1 1).1 0))), (q 48, .inr (3, [.ref (q 49), .ref (q 50), .int ((X.1 6).2 0)])), (q 49, .inl (cyI, 6, .inl ((X.1 6).1 0))), (q 50, .inl (cyI, 6, .inl ((X.1 6).1 1))), (q 51, .inr (2, [.ref (q 52), .ref (q 53), .long X.2.2.2, .int ((X.1 7).2 0)])), (q 52, .inl (cyI, 5, .inl ((X.1 7).1 0))), (q 53, .inl (cyI, 5, .inl ((X.1 7).1 1))), (q 54, .inr (1, [.int ((X.1 8).2 0), .int ((X.1 8).2 1), .int ((X.1 8).2 2), .int ((X.1 8).2 3), .int ((X.1 8).2 4)]))]

theorem kw_X8_drawn_1 : (.fieldLink RX8 50 "BellTheCatModel" "thrown" "I" : Cond) ∈ wsX8_drawn := List.mem_of_getElem? (i := 1) rfl
theorem kw_X8_drawn_2 : (.fieldLink RX8 13 "BellTheCatModel" "mice" "[I" : Cond) ∈ wsX8_drawn := List.mem_of_getElem? (i := 2) rfl
theorem in_X8_drawn_X8 : ∀ w ∈ wsX80, w ∈ wsX8_drawn := fun w h => List.mem_cons_of_mem _ (List.mem_append_right _ h)
abbrev rm_X8_drawn : Room := { frames := 2, cells := 0, slots := 0, locals := 55 }
set_option maxHeartbeats 4000000 in
set_option maxRecDepth 100000 in
theorem c_X8_drawn (l : Launch) (D : va_G) (cyI cyZ cyT : ClassId) (qa : Nat → Nat) (sz : Nat) (N : Nat) (a1 : Int32) (a2 : Int32) (M : Mo) (o : (Int32 × Mo)) (hf : f_X8_drawn N a1 a2 M = some o) : Met l yX8_drawn wsX8_drawn rm_X8_drawn (va_Pc [.ref (qa 0), .int a1, .int a2] (jM D cyI cyZ cyT (wM cyI cyZ qa M) sz)) (jQi D (va_A (wM cyI cyZ qa M) sz) (fun u : Mo => wM cyI cyZ qa u) o) 0 0 (va_A (wM cyI cyZ qa M) sz) := by
  refine Met.ofW (cc := cX8_drawn) (maxL := 3) (ret := (some .int)) (by decide) rfl ?_
  intro p e s m args below meth c s₁ B hml hv
  obtain ⟨rfl, hsz, hP, hK, hD0⟩ := hv
  have hx := B.exec
  have hb := B.bytes
  have hr := B.returns
  have hts := atoms_spec (ws := wsX8_drawn) B.pre
  have hown : s.vm.findClass RX8 = some m.cls := findClass_of_methodNamed B.named
  have hlocks := B.notSynchronized
  subst hsz
  have hD := hD0.self (sz := s.heap.size)
  generalize hAe : va_A (wM cyI cyZ qa M) s.heap.size = A at hD ⊢
  have hA : ∀ q : Nat, s.heap.size ≤ q → A q := fun q h => by rw [← hAe]; exact Or.inr h
  have hS : va_S A s.heap s.heap [] := va_S.rf
  have hl := lv_entry ([.ref (qa 0), .int a1, .int a2]) (n := 3) (Nat.le_of_ble_eq_true rfl)
  rw [lg_entry_eq]
  generalize (lg_sl ([.ref (qa 0), .int a1, .int a2]) ++ List.replicate (3 - (lg_sl ([.ref (qa 0), .int a1, .int a2])).length) Slot.unset).toArray = ls at hl ⊢
  have hl : lv_has ls 3 [(0, .ref (qa 0)), (1, .int a1), (2, .int a2)] := hl
  clear B
  generalize ([.ref (qa 0), .int a1, .int a2] : List Value).toArray = args at hts ⊢
  have key : ∀ (H : Heap) (locs : List Loc), va_P D vwCl (wM cyI cyZ qa M) H → va_D A (wM cyI cyZ qa M) → va_S A s.heap H locs → W p l e rm_X8_drawn s m args below meth c H locs 0 0 (MQ below (jQi D A (fun u : Mo => wM cyI cyZ qa u) o) args s 0 0 A) (F0 m 0 ls []) := by
    intro H locs hP hD hS
    have h := hf
    unfold f_X8_drawn at h
    refine lv_aload_n hx hb dX8_drawn_0 rfl (lv_at hl 0 rfl) ?_
    refine lv_iconst (v := (0 : Int32)) hx hb dX8_drawn_1 (by decide) ?_
    refine va_put (D := D) (ci := 8) (v := .int (0 : Int32)) (ty := .int) (C := RX8) (T := TX8) (N := 24) hx hb hts in_X8_drawn_X8 tyX8 tyX8_ok nmX8 hown hK.1 hP hD hS 0 rfl rfl 0 (by decide) (hts _ kw_X8_drawn_1) (fun _ h9 => h9) rfl (tyX8_ok 0 (by decide)) rfl rfl (Nat.le_of_ble_eq_true rfl) dX8_drawn_2 (fun H locs hP hD hS => ?_)
    have hP : va_P D vwCl (wM cyI cyZ qa (M.1, va_up M.2 0 (0 : Int32))) H := hP
    have hD : va_D A (wM cyI cyZ qa (M.1, va_up M.2 0 (0 : Int32))) := hD
    refine lv_aload_n hx hb dX8_drawn_5 rfl (lv_at hl 0 rfl) ?_
    refine lv_iload_n hx hb dX8_drawn_6 rfl (lv_at hl 1 rfl) ?_
    obtain ⟨z1, hz1, h⟩ := jb h
    refine jki (jrV (As := [.int a1]) (rest := []) ⟨hx, hb, hml, hown, hts⟩ (c_X8_isMouse l D cyI cyZ cyT qa  a1 (M.1, va_up M.2 0 (0 : Int32)) z1 hz1) (cwV 1 hts gX8_drawn_X8_isMouse rfl rfl rfl (by decide +kernel) ⟨Nat.le_of_ble_eq_true rfl, Nat.le_of_ble_eq_true rfl⟩) hK hP rfl 8 0 rfl rfl rfl hl.1 (Nat.le_of_ble_eq_true rfl) dX8_drawn_7 ⟨Nat.le_of_ble_eq_true rfl, Nat.le_of_ble_eq_true rfl⟩) ?_
    clear hz1
    refine lv_if_ne (tgt := 16) hx hb dX8_drawn_10 (by decide) (fun c2 => ?_) (fun c2 => ?_)
    · have h := jf c2 h
      refine lv_iload_n hx hb dX8_drawn_16 rfl (lv_at hl 2 rfl) ?_
      obtain ⟨z3, hz3, h⟩ := jb h
      refine jki (jrS (As := [.int a2]) (rest := []) ⟨hx, hb, hml, hown, hts⟩ (c_X8_isPart l D cyI cyZ cyT   a2 z3 hz3) (va_cwS 1 hts gX8_drawn_X8_isPart rfl rfl rfl (by decide +kernel) ⟨Nat.le_of_ble_eq_true rfl, Nat.le_of_ble_eq_true rfl⟩) hK jP0 rfl rfl hl.1 (Nat.le_of_ble_eq_true rfl) dX8_drawn_17 ⟨Nat.le_of_ble_eq_true rfl, Nat.le_of_ble_eq_true rfl⟩) ?_
      clear hz3
      refine lv_if_ne (tgt := 26) hx hb dX8_drawn_20 (by decide) (fun c4 => ?_) (fun c4 => ?_)
      · have h := jf c4 h
        refine lv_aload_n hx hb dX8_drawn_26 rfl (lv_at hl 0 rfl) ?_
        obtain ⟨z5, hz5, h⟩ := jb h
        refine jki (jrV (As := []) (rest := []) ⟨hx, hb, hml, hown, hts⟩ (c_X8_tickets l D cyI cyZ cyT qa  N (M.1, va_up M.2 0 (0 : Int32)) z5 hz5) (cwV 0 hts gX8_drawn_X8_tickets rfl rfl rfl (by decide +kernel) ⟨Nat.le_of_ble_eq_true rfl, Nat.le_of_ble_eq_true rfl⟩) hK hP rfl 8 0 rfl rfl rfl hl.1 (Nat.le_of_ble_eq_true rfl) dX8_drawn_27 ⟨Nat.le_of_ble_eq_true rfl, Nat.le_of_ble_eq_true rfl⟩) ?_
        clear hz5
        refine lv_if_ne (tgt := 38) hx hb dX8_drawn_30 (by decide) (fun c6 => ?_) (fun c6 => ?_)
        · have h := jf c6 h
          refine lv_aload_n hx hb dX8_drawn_38 rfl (lv_at hl 0 rfl) ?_
          refine lv_iload_n hx hb dX8_drawn_39 rfl (lv_at hl 1 rfl) ?_
          obtain ⟨z7, hz7, h⟩ := jb h
          refine jki (jrV (As := [.int a1]) (rest := []) ⟨hx, hb, hml, hown, hts⟩ (c_X8_isLiving l D cyI cyZ cyT qa  a1 (M.1, va_up M.2 0 (0 : Int32)) z7 hz7) (cwV 1 hts gX8_drawn_X8_isLiving rfl rfl rfl (by decide +kernel) ⟨Nat.le_of_ble_eq_true rfl, Nat.le_of_ble_eq_true rfl⟩) hK hP rfl 8 0 rfl rfl rfl hl.1 (Nat.le_of_ble_eq_true rfl) dX8_drawn_40 ⟨Nat.le_of_ble_eq_true rfl, Nat.le_of_ble_eq_true rfl⟩) ?_
          clear hz7
          obtain ⟨z8, hz8, h⟩ := jb h
          have hk8 : ∀ (H : Heap) (locs : List Loc), va_P D vwCl (wM cyI cyZ qa (M.1, va_up M.2 0 (0 : Int32))) H → va_D A (wM cyI cyZ qa (M.1, va_up M.2 0 (0 : Int32))) → va_S A s.heap H locs → ∀ (ls : Array Slot), lv_has ls 3 [(0, .ref (qa 0)), (2, .int a2)] → W p l e rm_X8_drawn s m args below meth c H locs 0 0 (MQ below (jQi D A (fun u : Mo => wM cyI cyZ qa u) o) args s 0 0 A) (F0 m 61 ls [.long z8]) := by
            intro H locs hP hD hS ls hl
            refine lv_aload_n hx hb dX8_drawn_61 rfl (lv_at hl 0 rfl) ?_
            obtain ⟨z11, hz11, h⟩ := jb h
            refine jki (jrV (As := []) (rest := [.long z8]) ⟨hx, hb, hml, hown, hts⟩ (c_X8_tickets l D cyI cyZ cyT qa  N (M.1, va_up M.2 0 (0 : Int32)) z11 hz11) (cwV 0 hts gX8_drawn_X8_tickets rfl rfl rfl (by decide +kernel) ⟨Nat.le_of_ble_eq_true rfl, Nat.le_of_ble_eq_true rfl⟩) hK hP rfl 8 0 rfl rfl rfl hl.1 (Nat.le_of_ble_eq_true rfl) dX8_drawn_62 ⟨Nat.le_of_ble_eq_true rfl, Nat.le_of_ble_eq_true rfl⟩) ?_
            clear hz11
            refine lv_i2l (v := z11.toInt64) hx hb dX8_drawn_65 rfl ?_
            refine lv_iload_n hx hb dX8_drawn_66 rfl (lv_at hl 1 rfl) ?_
            obtain ⟨z12, hz12, h⟩ := jb h
            refine jkl (jrS (As := [.long z8, .long z11.toInt64, .int a2]) (rest := []) ⟨hx, hb, hml, hown, hts⟩ (c_X8_part l D cyI cyZ cyT   N z8 z11.toInt64 a2 z12 hz12) (va_cwS 3 hts gX8_drawn_X8_part rfl rfl rfl (by decide +kernel) ⟨Nat.le_of_ble_eq_true rfl, Nat.le_of_ble_eq_true rfl⟩) hK jP0 rfl rfl hl.1 (Nat.le_of_ble_eq_true rfl) dX8_drawn_67 ⟨Nat.le_of_ble_eq_true rfl, Nat.le_of_ble_eq_true rfl⟩) ?_
            clear hz12
            refine lv_l2i (v := z12.toInt32) hx hb dX8_drawn_70 rfl ?_
            exact W.iret hx hb hr (fun t ht _ => ⟨⟨_, _, rfl, Option.some.inj h, by rw [ht]; exact hP, hD⟩, hS.F ht⟩) hS.2.2 dX8_drawn_71 hlocks
          clear h
          have h := hz8
          clear hz8
          refine lv_if_eq (tgt := 60) hx hb dX8_drawn_43 (by decide) (fun c9 => ?_) (fun c9 => ?_)
          · have h := jt c9 h
            refine lv_lconst (v := (0 : Int64)) hx hb dX8_drawn_60 (by decide) ?_
            obtain rfl := Option.some.inj h
            exact hk8 H locs hP hD hS ls (lv_sub hl [0, 2] rfl)
          · have h := jf c9 h
            refine lv_aload_n hx hb dX8_drawn_46 rfl (lv_at hl 0 rfl) ?_
            refine va_get (D := D) (ci := 8) (v := .ref (qa 2)) (C := RX8) (T := TX8) (N := 24) hx hb hts in_X8_drawn_X8 hown hK.1 hP 0 rfl rfl 10 (by decide) (hts _ kw_X8_drawn_2) (fun _ h9 => h9) rfl dX8_drawn_47 ?_
            refine lv_iconst (v := (4 : Int32)) hx hb dX8_drawn_50 (by decide) ?_
            refine lv_iload_n hx hb dX8_drawn_51 rfl (lv_at hl 1 rfl) ?_
            refine lv_imul hx hb dX8_drawn_52 ?_
            refine lv_iconst (v := (3 : Int32)) hx hb dX8_drawn_53 (by decide) ?_
            refine lv_iadd hx hb dX8_drawn_54 ?_
            obtain ⟨g10, h⟩ := jn h
            refine jald hx hb hK hP 2 rfl _ rfl g10 dX8_drawn_55 ?_
            refine lv_i2l (v := (M.1 1 (((4 : Int32) * a1) + (3 : Int32)).toNatClampNeg).toInt64) hx hb dX8_drawn_56 rfl ?_
            refine lv_goto (tgt := 61) hx hb dX8_drawn_57 (by decide) ?_
            obtain rfl := Option.some.inj h
            exact hk8 H locs hP hD hS ls (lv_sub hl [0, 2] rfl)
        · have h := jt c6 h
          refine lv_bipush (v := (-4 : Int32)) hx hb dX8_drawn_33 (by decide) ?_
          refine lv_goto (tgt := 71) hx hb dX8_drawn_35 (by decide) ?_
          exact W.iret hx hb hr (fun t ht _ => ⟨⟨_, _, rfl, Option.some.inj h, by rw [ht]; exact hP, hD⟩, hS.F ht⟩) hS.2.2 dX8_drawn_71 hlocks
      · have h := jt c4 h
        refine lv_bipush (v := (-3 : Int32)) hx hb dX8_drawn_23 (by decide) ?_
        exact W.iret hx hb hr (fun t ht _ => ⟨⟨_, _, rfl, Option.some.inj h, by rw [ht]; exact hP, hD⟩, hS.F ht⟩) hS.2.2 dX8_drawn_25 hlocks
    · have h := jt c2 h
      refine lv_bipush (v := (-2 : Int32)) hx hb dX8_drawn_13 (by decide) ?_
      exact W.iret hx hb hr (fun t ht _ => ⟨⟨_, _, rfl, Option.some.inj h, by rw [ht]; exact hP, hD⟩, hS.F ht⟩) hS.2.2 dX8_drawn_15 hlocks
  exact key s.heap [] hP hD hS
theorem kw_X8_dreadOf_1 : (.fieldLink RX8 13 "BellTheCatModel" "mice" "[I" : Cond) ∈ wsX8_dreadOf := List.mem_of_getElem? (i := 1) rfl
theorem in_X8_dreadOf_X8 : ∀ w ∈ wsX80, w ∈ wsX8_dreadOf := fun w h => List.mem_cons_of_mem _ (List.mem_append_right _ h)
abbrev rm_X8_dreadOf : Room := { frames := 3, cells := 0, slots := 0, locals := 69 }
set_option maxHeartbeats 4000000 in
set_option maxRecDepth 100000 in
theorem c_X8_dreadOf (l : Launch) (D : va_G) (cyI cyZ cyT : ClassId) (qa : Nat → Nat) (N : Nat) (a1 : Int32) (M : Mo) (o : Int64) (hf : f_X8_dreadOf N a1 M = some o) : Met l yX8_dreadOf wsX8_dreadOf rm_X8_dreadOf (va_Pc [.ref (qa 0), .int a1] (jB D cyI cyZ cyT (wM cyI cyZ qa M))) (jSl o) 0 0 (fun _ => False) := by
  refine Met.ofW (cc := cX8_dreadOf) (maxL := 2) (ret := (some .long)) (by decide) rfl ?_
  intro p e s m args below meth c s₁ B hml hv
  obtain ⟨rfl, hP, hK⟩ := hv
  have hx := B.exec
  have hb := B.bytes
  have hr := B.returns
  have hts := atoms_spec (ws := wsX8_dreadOf) B.pre
  have hown : s.vm.findClass RX8 = some m.cls := findClass_of_methodNamed B.named
  have hlocks := B.notSynchronized
  have hl := lv_entry ([.ref (qa 0), .int a1]) (n := 2) (Nat.le_of_ble_eq_true rfl)
  rw [lg_entry_eq]
  generalize (lg_sl ([.ref (qa 0), .int a1]) ++ List.replicate (2 - (lg_sl ([.ref (qa 0), .int a1])).length) Slot.unset).toArray = ls at hl ⊢
  have hl : lv_has ls 2 [(0, .ref (qa 0)), (1, .int a1)] := hl
  clear B
  generalize ([.ref (qa 0), .int a1] : List Value).toArray = args at hts ⊢
  have key : ∀ (H : Heap), va_P D vwCl (wM cyI cyZ qa M) H → H = s.heap → W p l e rm_X8_dreadOf s m args below meth c H [] 0 0 (MQ below (jSl o) args s 0 0 (fun _ => False)) (F0 m 0 ls []) := by
    intro H hP hH
    have h := hf
    unfold f_X8_dreadOf at h
    refine lv_aload_n hx hb dX8_dreadOf_0 rfl (lv_at hl 0 rfl) ?_
    refine va_get (D := D) (ci := 8) (v := .ref (qa 2)) (C := RX8) (T := TX8) (N := 24) hx hb hts in_X8_dreadOf_X8 hown hK.1 hP 0 rfl rfl 10 (by decide) (hts _ kw_X8_dreadOf_1) (fun _ h9 => h9) rfl dX8_dreadOf_1 ?_
    refine lv_iconst (v := (4 : Int32)) hx hb dX8_dreadOf_4 (by decide) ?_
    refine lv_iload_n hx hb dX8_dreadOf_5 rfl (lv_at hl 1 rfl) ?_
    refine lv_imul hx hb dX8_dreadOf_6 ?_
    refine lv_iconst (v := (2 : Int32)) hx hb dX8_dreadOf_7 (by decide) ?_
    refine lv_iadd hx hb dX8_dreadOf_8 ?_
    obtain ⟨g1, h⟩ := jn h
    refine jald hx hb hK hP 2 rfl _ rfl g1 dX8_dreadOf_9 ?_
    refine lv_i2l (v := (M.1 1 (((4 : Int32) * a1) + (2 : Int32)).toNatClampNeg).toInt64) hx hb dX8_dreadOf_10 rfl ?_
    refine lv_aload_n hx hb dX8_dreadOf_11 rfl (lv_at hl 0 rfl) ?_
    refine lv_iload_n hx hb dX8_dreadOf_12 rfl (lv_at hl 1 rfl) ?_
    obtain ⟨z2, hz2, h⟩ := jb h
    refine jkl (jrV (As := [.int a1]) (rest := [.long ((M.1 1 (((4 : Int32) * a1) + (2 : Int32)).toNatClampNeg).toInt64)]) ⟨hx, hb, hml, hown, hts⟩ (c_X8_caughtAlone l D cyI cyZ cyT qa  N a1 M z2 hz2) (cwV 1 hts gX8_dreadOf_X8_caughtAlone rfl rfl rfl (by decide +kernel) ⟨Nat.le_of_ble_eq_true rfl, Nat.le_of_ble_eq_true rfl⟩) hK hP rfl 8 0 rfl rfl rfl hl.1 (Nat.le_of_ble_eq_true rfl) dX8_dreadOf_13 ⟨Nat.le_of_ble_eq_true rfl, Nat.le_of_ble_eq_true rfl⟩) ?_
    clear hz2
    refine lv_lmul hx hb dX8_dreadOf_16 ?_
    exact W.lret hx hb hr (fun t ht _ => ⟨_, rfl, Option.some.inj h, ht.trans hH⟩) (fun q h => by cases h) dX8_dreadOf_17 hlocks
  exact key s.heap hP rfl
theorem kw_X8_dread_1 : (.fieldLink RX8 50 "BellTheCatModel" "thrown" "I" : Cond) ∈ wsX8_dread := List.mem_of_getElem? (i := 1) rfl
theorem kw_X8_dread_2 : (.constantLong RX8 175 (10) : Cond) ∈ wsX8_dread := List.mem_of_getElem? (i := 2) rfl
theorem kw_X8_dread_3 : (.fieldLink RX8 22 "BellTheCatModel" "many" "[I" : Cond) ∈ wsX8_dread := List.mem_of_getElem? (i := 3) rfl
theorem in_X8_dread_X8 : ∀ w ∈ wsX80, w ∈ wsX8_dread := fun w h => List.mem_cons_of_mem _ (List.mem_append_right _ h)
abbrev rm_X8_dread : Room := { frames := 4, cells := 0, slots := 0, locals := 90 }
set_option maxHeartbeats 4000000 in
set_option maxRecDepth 100000 in
theorem c_X8_dread (l : Launch) (D : va_G) (cyI cyZ cyT : ClassId) (qa : Nat → Nat) (sz : Nat) (N : Nat) (a1 : Int32) (a2 : Int32) (M : Mo) (o : (Int32 × Mo)) (hf : f_X8_dread N a1 a2 M = some o) : Met l yX8_dread wsX8_dread rm_X8_dread (va_Pc [.ref (qa 0), .int a1, .int a2] (jM D cyI cyZ cyT (wM cyI cyZ qa M) sz)) (jQi D (va_A (wM cyI cyZ qa M) sz) (fun u : Mo => wM cyI cyZ qa u) o) 0 0 (va_A (wM cyI cyZ qa M) sz) := by
  refine Met.ofW (cc := cX8_dread) (maxL := 3) (ret := (some .int)) (by decide) rfl ?_
  intro p e s m args below meth c s₁ B hml hv
  obtain ⟨rfl, hsz, hP, hK, hD0⟩ := hv
  have hx := B.exec
  have hb := B.bytes
  have hr := B.returns
  have hts := atoms_spec (ws := wsX8_dread) B.pre
  have hown : s.vm.findClass RX8 = some m.cls := findClass_of_methodNamed B.named
  have hlocks := B.notSynchronized
  subst hsz
  have hD := hD0.self (sz := s.heap.size)
  generalize hAe : va_A (wM cyI cyZ qa M) s.heap.size = A at hD ⊢
  have hA : ∀ q : Nat, s.heap.size ≤ q → A q := fun q h => by rw [← hAe]; exact Or.inr h
  have hS : va_S A s.heap s.heap [] := va_S.rf
  have hl := lv_entry ([.ref (qa 0), .int a1, .int a2]) (n := 3) (Nat.le_of_ble_eq_true rfl)
  rw [lg_entry_eq]
  generalize (lg_sl ([.ref (qa 0), .int a1, .int a2]) ++ List.replicate (3 - (lg_sl ([.ref (qa 0), .int a1, .int a2])).length) Slot.unset).toArray = ls at hl ⊢
  have hl : lv_has ls 3 [(0, .ref (qa 0)), (1, .int a1), (2, .int a2)] := hl
  clear B
  generalize ([.ref (qa 0), .int a1, .int a2] : List Value).toArray = args at hts ⊢
  have key : ∀ (H : Heap) (locs : List Loc), va_P D vwCl (wM cyI cyZ qa M) H → va_D A (wM cyI cyZ qa M) → va_S A s.heap H locs → W p l e rm_X8_dread s m args below meth c H locs 0 0 (MQ below (jQi D A (fun u : Mo => wM cyI cyZ qa u) o) args s 0 0 A) (F0 m 0 ls []) := by
    intro H locs hP hD hS
    have h := hf
    unfold f_X8_dread at h
    refine lv_aload_n hx hb dX8_dread_0 rfl (lv_at hl 0 rfl) ?_
    refine lv_iconst (v := (0 : Int32)) hx hb dX8_dread_1 (by decide) ?_
    refine va_put (D := D) (ci := 8) (v := .int (0 : Int32)) (ty := .int) (C := RX8) (T := TX8) (N := 24) hx hb hts in_X8_dread_X8 tyX8 tyX8_ok nmX8 hown hK.1 hP hD hS 0 rfl rfl 0 (by decide) (hts _ kw_X8_dread_1) (fun _ h9 => h9) rfl (tyX8_ok 0 (by decide)) rfl rfl (Nat.le_of_ble_eq_true rfl) dX8_dread_2 (fun H locs hP hD hS => ?_)
    have hP : va_P D vwCl (wM cyI cyZ qa (M.1, va_up M.2 0 (0 : Int32))) H := hP
    have hD : va_D A (wM cyI cyZ qa (M.1, va_up M.2 0 (0 : Int32))) := hD
    refine lv_aload_n hx hb dX8_dread_5 rfl (lv_at hl 0 rfl) ?_
    refine lv_iload_n hx hb dX8_dread_6 rfl (lv_at hl 1 rfl) ?_
    obtain ⟨z1, hz1, h⟩ := jb h
    refine jki (jrV (As := [.int a1]) (rest := []) ⟨hx, hb, hml, hown, hts⟩ (c_X8_isMouse l D cyI cyZ cyT qa  a1 (M.1, va_up M.2 0 (0 : Int32)) z1 hz1) (cwV 1 hts gX8_dread_X8_isMouse rfl rfl rfl (by decide +kernel) ⟨Nat.le_of_ble_eq_true rfl, Nat.le_of_ble_eq_true rfl⟩) hK hP rfl 8 0 rfl rfl rfl hl.1 (Nat.le_of_ble_eq_true rfl) dX8_dread_7 ⟨Nat.le_of_ble_eq_true rfl, Nat.le_of_ble_eq_true rfl⟩) ?_
    clear hz1
    refine lv_if_ne (tgt := 16) hx hb dX8_dread_10 (by decide) (fun c2 => ?_) (fun c2 => ?_)
    · have h := jf c2 h
      refine lv_iload_n hx hb dX8_dread_16 rfl (lv_at hl 2 rfl) ?_
      obtain ⟨z3, hz3, h⟩ := jb h
      refine jki (jrS (As := [.int a2]) (rest := []) ⟨hx, hb, hml, hown, hts⟩ (c_X8_isPart l D cyI cyZ cyT   a2 z3 hz3) (va_cwS 1 hts gX8_dread_X8_isPart rfl rfl rfl (by decide +kernel) ⟨Nat.le_of_ble_eq_true rfl, Nat.le_of_ble_eq_true rfl⟩) hK jP0 rfl rfl hl.1 (Nat.le_of_ble_eq_true rfl) dX8_dread_17 ⟨Nat.le_of_ble_eq_true rfl, Nat.le_of_ble_eq_true rfl⟩) ?_
      clear hz3
      refine lv_if_eq (tgt := 48) hx hb dX8_dread_20 (by decide) (fun c4 => ?_) (fun c4 => ?_)
      · have h := jt c4 h
        refine lv_bipush (v := (-3 : Int32)) hx hb dX8_dread_48 (by decide) ?_
        exact W.iret hx hb hr (fun t ht _ => ⟨⟨_, _, rfl, Option.some.inj h, by rw [ht]; exact hP, hD⟩, hS.F ht⟩) hS.2.2 dX8_dread_50 hlocks
      · have h := jf c4 h
        refine lv_aload_n hx hb dX8_dread_23 rfl (lv_at hl 0 rfl) ?_
        refine lv_iload_n hx hb dX8_dread_24 rfl (lv_at hl 1 rfl) ?_
        obtain ⟨z5, hz5, h⟩ := jb h
        refine jkl (jrV (As := [.int a1]) (rest := []) ⟨hx, hb, hml, hown, hts⟩ (c_X8_dreadOf l D cyI cyZ cyT qa  N a1 (M.1, va_up M.2 0 (0 : Int32)) z5 hz5) (cwV 1 hts gX8_dread_X8_dreadOf rfl rfl rfl (by decide +kernel) ⟨Nat.le_of_ble_eq_true rfl, Nat.le_of_ble_eq_true rfl⟩) hK hP rfl 8 0 rfl rfl rfl hl.1 (Nat.le_of_ble_eq_true rfl) dX8_dread_25 ⟨Nat.le_of_ble_eq_true rfl, Nat.le_of_ble_eq_true rfl⟩) ?_
        clear hz5
        refine lv_ldc2 (v := (10 : Int64)) hx hb hown (hts _ kw_X8_dread_2) dX8_dread_28 ?_
        refine lv_aload_n hx hb dX8_dread_31 rfl (lv_at hl 0 rfl) ?_
        refine va_get (D := D) (ci := 8) (v := .ref (qa 5)) (C := RX8) (T := TX8) (N := 24) hx hb hts in_X8_dread_X8 hown hK.1 hP 0 rfl rfl 13 (by decide) (hts _ kw_X8_dread_3) (fun _ h9 => h9) rfl dX8_dread_32 ?_
        refine lv_iconst (v := (1 : Int32)) hx hb dX8_dread_35 (by decide) ?_
        refine jald hx hb hK hP 5 rfl 1 (by decide) (by decide) dX8_dread_36 ?_
        obtain ⟨z6, hz6, h⟩ := jb h
        refine jkl (jrS (As := [.long (10 : Int64), .int (M.1 4 1)]) (rest := [.long z5]) ⟨hx, hb, hml, hown, hts⟩ (c_X8_power l D cyI cyZ cyT   N (10 : Int64) (M.1 4 1) z6 hz6) (va_cwS 2 hts gX8_dread_X8_power rfl rfl rfl (by decide +kernel) ⟨Nat.le_of_ble_eq_true rfl, Nat.le_of_ble_eq_true rfl⟩) hK jP0 rfl rfl hl.1 (Nat.le_of_ble_eq_true rfl) dX8_dread_37 ⟨Nat.le_of_ble_eq_true rfl, Nat.le_of_ble_eq_true rfl⟩) ?_
        clear hz6
        refine lv_iload_n hx hb dX8_dread_40 rfl (lv_at hl 2 rfl) ?_
        obtain ⟨z7, hz7, h⟩ := jb h
        refine jkl (jrS (As := [.long z5, .long z6, .int a2]) (rest := []) ⟨hx, hb, hml, hown, hts⟩ (c_X8_part l D cyI cyZ cyT   N z5 z6 a2 z7 hz7) (va_cwS 3 hts gX8_dread_X8_part rfl rfl rfl (by decide +kernel) ⟨Nat.le_of_ble_eq_true rfl, Nat.le_of_ble_eq_true rfl⟩) hK jP0 rfl rfl hl.1 (Nat.le_of_ble_eq_true rfl) dX8_dread_41 ⟨Nat.le_of_ble_eq_true rfl, Nat.le_of_ble_eq_true rfl⟩) ?_
        clear hz7
        refine lv_l2i (v := z7.toInt32) hx hb dX8_dread_44 rfl ?_
        refine lv_goto (tgt := 50) hx hb dX8_dread_45 (by decide) ?_
        exact W.iret hx hb hr (fun t ht _ => ⟨⟨_, _, rfl, Option.some.inj h, by rw [ht]; exact hP, hD⟩, hS.F ht⟩) hS.2.2 dX8_dread_50 hlocks
    · have h := jt c2 h
      refine lv_bipush (v := (-2 : Int32)) hx hb dX8_dread_13 (by decide) ?_
      exact W.iret hx hb hr (fun t ht _ => ⟨⟨_, _, rfl, Option.some.inj h, by rw [ht]; exact hP, hD⟩, hS.F ht⟩) hS.2.2 dX8_dread_15 hlocks
  exact key s.heap [] hP hD hS
theorem kw_X8_erase_1 : (.fieldLink RX8 50 "BellTheCatModel" "thrown" "I" : Cond) ∈ wsX8_erase := List.mem_of_getElem? (i := 1) rfl
theorem kw_X8_erase_2 : (.fieldLink RX8 58 "BellTheCatModel" "typed" "I" : Cond) ∈ wsX8_erase := List.mem_of_getElem? (i := 2) rfl
theorem in_X8_erase_X8 : ∀ w ∈ wsX80, w ∈ wsX8_erase := fun w h => List.mem_cons_of_mem _ (List.mem_append_right _ h)
abbrev rm_X8_erase : Room := { frames := 0, cells := 0, slots := 0, locals := 0 }
set_option maxHeartbeats 4000000 in
set_option maxRecDepth 100000 in
theorem c_X8_erase (l : Launch) (D : va_G) (cyI cyZ cyT : ClassId) (qa : Nat → Nat) (sz : Nat) (M : Mo) (o : (Int32 × Mo)) (hf : f_X8_erase M = some o) : Met l yX8_erase wsX8_erase rm_X8_erase (va_Pc [.ref (qa 0)] (jM D cyI cyZ cyT (wM cyI cyZ qa M) sz)) (jQi D (va_A (wM cyI cyZ qa M) sz) (fun u : Mo => wM cyI cyZ qa u) o) 0 0 (va_A (wM cyI cyZ qa M) sz) := by
  refine Met.ofW (cc := cX8_erase) (maxL := 2) (ret := (some .int)) (by decide) rfl ?_
  intro p e s m args below meth c s₁ B hml hv
  obtain ⟨rfl, hsz, hP, hK, hD0⟩ := hv
  have hx := B.exec
  have hb := B.bytes
  have hr := B.returns
  have hts := atoms_spec (ws := wsX8_erase) B.pre
  have hown : s.vm.findClass RX8 = some m.cls := findClass_of_methodNamed B.named
  have hlocks := B.notSynchronized
  subst hsz
  have hD := hD0.self (sz := s.heap.size)
  generalize hAe : va_A (wM cyI cyZ qa M) s.heap.size = A at hD ⊢
  have hA : ∀ q : Nat, s.heap.size ≤ q → A q := fun q h => by rw [← hAe]; exact Or.inr h
  have hS : va_S A s.heap s.heap [] := va_S.rf
  have hl := lv_entry ([.ref (qa 0)]) (n := 2) (Nat.le_of_ble_eq_true rfl)
  rw [lg_entry_eq]
  generalize (lg_sl ([.ref (qa 0)]) ++ List.replicate (2 - (lg_sl ([.ref (qa 0)])).length) Slot.unset).toArray = ls at hl ⊢
  have hl : lv_has ls 2 [(0, .ref (qa 0))] := hl
  clear B
  generalize ([.ref (qa 0)] : List Value).toArray = args at hts ⊢
  have key : ∀ (H : Heap) (locs : List Loc), va_P D vwCl (wM cyI cyZ qa M) H → va_D A (wM cyI cyZ qa M) → va_S A s.heap H locs → W p l e rm_X8_erase s m args below meth c H locs 0 0 (MQ below (jQi D A (fun u : Mo => wM cyI cyZ qa u) o) args s 0 0 A) (F0 m 0 ls []) := by
    intro H locs hP hD hS
    have h := hf
    unfold f_X8_erase at h
    refine lv_aload_n hx hb dX8_erase_0 rfl (lv_at hl 0 rfl) ?_
    refine lv_iconst (v := (0 : Int32)) hx hb dX8_erase_1 (by decide) ?_
    refine va_put (D := D) (ci := 8) (v := .int (0 : Int32)) (ty := .int) (C := RX8) (T := TX8) (N := 24) hx hb hts in_X8_erase_X8 tyX8 tyX8_ok nmX8 hown hK.1 hP hD hS 0 rfl rfl 0 (by decide) (hts _ kw_X8_erase_1) (fun _ h9 => h9) rfl (tyX8_ok 0 (by decide)) rfl rfl (Nat.le_of_ble_eq_true rfl) dX8_erase_2 (fun H locs hP hD hS => ?_)
    have hP : va_P D vwCl (wM cyI cyZ qa (M.1, va_up M.2 0 (0 : Int32))) H := hP
    have hD : va_D A (wM cyI cyZ qa (M.1, va_up M.2 0 (0 : Int32))) := hD
    refine lv_aload_n hx hb dX8_erase_5 rfl (lv_at hl 0 rfl) ?_
    refine va_get (D := D) (ci := 8) (v := .int (M.2 1)) (C := RX8) (T := TX8) (N := 24) hx hb hts in_X8_erase_X8 hown hK.1 hP 0 rfl rfl 2 (by decide) (hts _ kw_X8_erase_2) (fun _ h9 => h9) rfl dX8_erase_6 ?_
    refine lv_istore_n (lv' := [(1, .int (M.2 1)), (0, .ref (qa 0))]) hx hb dX8_erase_9 rfl hl (by decide) rfl (fun ls hl => ?_)
    refine lv_aload_n hx hb dX8_erase_10 rfl (lv_at hl 1 rfl) ?_
    refine lv_iconst (v := (0 : Int32)) hx hb dX8_erase_11 (by decide) ?_
    refine va_put (D := D) (ci := 8) (v := .int (0 : Int32)) (ty := .int) (C := RX8) (T := TX8) (N := 24) hx hb hts in_X8_erase_X8 tyX8 tyX8_ok nmX8 hown hK.1 hP hD hS 0 rfl rfl 2 (by decide) (hts _ kw_X8_erase_2) (fun _ h9 => h9) rfl (tyX8_ok 2 (by decide)) rfl rfl (Nat.le_of_ble_eq_true rfl) dX8_erase_12 (fun H locs hP hD hS => ?_)
    have hP : va_P D vwCl (wM cyI cyZ qa (M.1, va_up (va_up M.2 0 (0 : Int32)) 1 (0 : Int32))) H := hP
    have hD : va_D A (wM cyI cyZ qa (M.1, va_up (va_up M.2 0 (0 : Int32)) 1 (0 : Int32))) := hD
    refine lv_iload_n hx hb dX8_erase_15 rfl (lv_at hl 0 rfl) ?_
    exact W.iret hx hb hr (fun t ht _ => ⟨⟨_, _, rfl, Option.some.inj h, by rw [ht]; exact hP, hD⟩, hS.F ht⟩) hS.2.2 dX8_erase_16 hlocks
  exact key s.heap [] hP hD hS
theorem kw_X8_isWhole_1 : (.fieldLink RX8 22 "BellTheCatModel" "many" "[I" : Cond) ∈ wsX8_isWhole := List.mem_of_getElem? (i := 1) rfl
theorem in_X8_isWhole_X8 : ∀ w ∈ wsX80, w ∈ wsX8_isWhole := fun w h => List.mem_cons_of_mem _ (List.mem_append_right _ h)
abbrev rm_X8_isWhole : Room := { frames := 1, cells := 0, slots := 0, locals := 22 }
set_option maxHeartbeats 4000000 in
set_option maxRecDepth 100000 in
theorem c_X8_isWhole (l : Launch) (D : va_G) (cyI cyZ cyT : ClassId) (qa : Nat → Nat) (N : Nat) (M : Mo) (o : Int32) (hf : f_X8_isWhole N M = some o) : Met l yX8_isWhole wsX8_isWhole rm_X8_isWhole (va_Pc [.ref (qa 0)] (jB D cyI cyZ cyT (wM cyI cyZ qa M))) (jSi o) 0 0 (fun _ => False) := by
  refine Met.ofW (cc := cX8_isWhole) (maxL := 1) (ret := (some .boolean)) (by decide) rfl ?_
  intro p e s m args below meth c s₁ B hml hv
  obtain ⟨rfl, hP, hK⟩ := hv
  have hx := B.exec
  have hb := B.bytes
  have hr := B.returns
  have hts := atoms_spec (ws := wsX8_isWhole) B.pre
  have hown : s.vm.findClass RX8 = some m.cls := findClass_of_methodNamed B.named
  have hlocks := B.notSynchronized
  have hl := lv_entry ([.ref (qa 0)]) (n := 1) (Nat.le_of_ble_eq_true rfl)
  rw [lg_entry_eq]
  generalize (lg_sl ([.ref (qa 0)]) ++ List.replicate (1 - (lg_sl ([.ref (qa 0)])).length) Slot.unset).toArray = ls at hl ⊢
  have hl : lv_has ls 1 [(0, .ref (qa 0))] := hl
  clear B
  generalize ([.ref (qa 0)] : List Value).toArray = args at hts ⊢
  have key : ∀ (H : Heap), va_P D vwCl (wM cyI cyZ qa M) H → H = s.heap → W p l e rm_X8_isWhole s m args below meth c H [] 0 0 (MQ below (jSi o) args s 0 0 (fun _ => False)) (F0 m 0 ls []) := by
    intro H hP hH
    have h := hf
    unfold f_X8_isWhole at h
    refine lv_aload_n hx hb dX8_isWhole_0 rfl (lv_at hl 0 rfl) ?_
    obtain ⟨z1, hz1, h⟩ := jb h
    refine jki (jrV (As := []) (rest := []) ⟨hx, hb, hml, hown, hts⟩ (c_X8_done l D cyI cyZ cyT qa  N M z1 hz1) (cwV 0 hts gX8_isWhole_X8_done rfl rfl rfl (by decide +kernel) ⟨Nat.le_of_ble_eq_true rfl, Nat.le_of_ble_eq_true rfl⟩) hK hP rfl 8 0 rfl rfl rfl hl.1 (Nat.le_of_ble_eq_true rfl) dX8_isWhole_1 ⟨Nat.le_of_ble_eq_true rfl, Nat.le_of_ble_eq_true rfl⟩) ?_
    clear hz1
    refine lv_aload_n hx hb dX8_isWhole_4 rfl (lv_at hl 0 rfl) ?_
    refine va_get (D := D) (ci := 8) (v := .ref (qa 5)) (C := RX8) (T := TX8) (N := 24) hx hb hts in_X8_isWhole_X8 hown hK.1 hP 0 rfl rfl 13 (by decide) (hts _ kw_X8_isWhole_1) (fun _ h9 => h9) rfl dX8_isWhole_5 ?_
    refine lv_iconst (v := (1 : Int32)) hx hb dX8_isWhole_8 (by decide) ?_
    refine jald hx hb hK hP 5 rfl 1 (by decide) (by decide) dX8_isWhole_9 ?_
    refine lv_icmp_ne (tgt := 17) hx hb dX8_isWhole_10 (by decide) (fun c2 => ?_) (fun c2 => ?_)
    · have h := jf c2 h
      refine lv_iconst (v := (0 : Int32)) hx hb dX8_isWhole_17 (by decide) ?_
      exact W.zret hx hb hr rfl (fun t ht _ => ⟨_, rfl, Option.some.inj h, ht.trans hH⟩) (fun q h => by cases h) dX8_isWhole_18 hlocks
    · have h := jt c2 h
      refine lv_iconst (v := (1 : Int32)) hx hb dX8_isWhole_13 (by decide) ?_
      refine lv_goto (tgt := 18) hx hb dX8_isWhole_14 (by decide) ?_
      exact W.zret hx hb hr rfl (fun t ht _ => ⟨_, rfl, Option.some.inj h, ht.trans hH⟩) (fun q h => by cases h) dX8_isWhole_18 hlocks
  exact key s.heap hP rfl
theorem kw_X8_throughTo_1 : (.fieldLink RX8 25 "BellTheCatModel" "s" "[I" : Cond) ∈ wsX8_throughTo := List.mem_of_getElem? (i := 1) rfl
theorem in_X8_throughTo_X8 : ∀ w ∈ wsX80, w ∈ wsX8_throughTo := fun w h => List.mem_cons_of_mem _ (List.mem_append_right _ h)
abbrev rm_X8_throughTo : Room := { frames := 2, cells := 0, slots := 0, locals := 45 }
set_option maxHeartbeats 4000000 in
set_option maxRecDepth 100000 in
theorem c_X8_throughTo (l : Launch) (D : va_G) (cyI cyZ cyT : ClassId) (qa : Nat → Nat) (N : Nat) (a1 : Int32) (M : Mo) (o : Int64) (hf : f_X8_throughTo N a1 M = some o) : Met l yX8_throughTo wsX8_throughTo rm_X8_throughTo (va_Pc [.ref (qa 0), .int a1] (jB D cyI cyZ cyT (wM cyI cyZ qa M))) (jSl o) 0 0 (fun _ => False) := by
  refine Met.ofW (cc := cX8_throughTo) (maxL := 5) (ret := (some .long)) (by decide) rfl ?_
  intro p e s m args below meth c s₁ B hml hv
  obtain ⟨rfl, hP, hK⟩ := hv
  have hx := B.exec
  have hb := B.bytes
  have hr := B.returns
  have hts := atoms_spec (ws := wsX8_throughTo) B.pre
  have hown : s.vm.findClass RX8 = some m.cls := findClass_of_methodNamed B.named
  have hlocks := B.notSynchronized
  have hl := lv_entry ([.ref (qa 0), .int a1]) (n := 5) (Nat.le_of_ble_eq_true rfl)
  rw [lg_entry_eq]
  generalize (lg_sl ([.ref (qa 0), .int a1]) ++ List.replicate (5 - (lg_sl ([.ref (qa 0), .int a1])).length) Slot.unset).toArray = ls at hl ⊢
  have hl : lv_has ls 5 [(0, .ref (qa 0)), (1, .int a1)] := hl
  clear B
  generalize ([.ref (qa 0), .int a1] : List Value).toArray = args at hts ⊢
  have key : ∀ (H : Heap), va_P D vwCl (wM cyI cyZ qa M) H → H = s.heap → W p l e rm_X8_throughTo s m args below meth c H [] 0 0 (MQ below (jSl o) args s 0 0 (fun _ => False)) (F0 m 0 ls []) := by
    intro H hP hH
    have h := hf
    unfold f_X8_throughTo at h
    refine lv_lconst (v := (1 : Int64)) hx hb dX8_throughTo_0 (by decide) ?_
    refine lv_lstore_n (lv' := [(2, .long (1 : Int64)), (0, .ref (qa 0)), (1, .int a1)]) hx hb dX8_throughTo_1 rfl hl (by decide) rfl (fun ls hl => ?_)
    refine lv_iconst (v := (0 : Int32)) hx hb dX8_throughTo_2 (by decide) ?_
    refine lv_istore (lv' := [(4, .int (0 : Int32)), (2, .long (1 : Int64)), (0, .ref (qa 0)), (1, .int a1)]) hx hb dX8_throughTo_3 hl (by decide) rfl (fun ls hl => ?_)
    obtain ⟨r1, hz1, h1_⟩ := jb h
    have hex1 : ∀ e1 : Int64, r1 = e1 → ∀ (ls : Array Slot), lv_has ls 5 [(2, .long e1)] → W p l e rm_X8_throughTo s m args below meth c H [] 0 0 (MQ below (jSl o) args s 0 0 (fun _ => False)) (F0 m 41 ls []) := by
      intro e1 he ls hl
      rw [he] at h1_
      have h := h1_
      clear hz1
      refine lv_lload_n hx hb dX8_throughTo_41 rfl (lv_at hl 0 rfl) ?_
      exact W.lret hx hb hr (fun t ht _ => ⟨_, rfl, Option.some.inj h, ht.trans hH⟩) (fun q h => by cases h) dX8_throughTo_42 hlocks
    have hlp1 : ∀ (nn : Nat) (z1 : (Int64 × Int32)), jw (X8_throughTo_s5 a1 M) nn z1 = some r1 → ∀ (ls : Array Slot), lv_has ls 5 [(0, .ref (qa 0)), (1, .int a1), (2, .long z1.1), (4, .int z1.2)] → W p l e rm_X8_throughTo s m args below meth c H [] 0 0 (MQ below (jSl o) args s 0 0 (fun _ => False)) (F0 m 5 ls []) := by
      refine jw_P (r := r1) (P := fun z1 : (Int64 × Int32) => ∀ (ls : Array Slot), lv_has ls 5 [(0, .ref (qa 0)), (1, .int a1), (2, .long z1.1), (4, .int z1.2)] → W p l e rm_X8_throughTo s m args below meth c H [] 0 0 (MQ below (jSl o) args s 0 0 (fun _ => False)) (F0 m 5 ls [])) ?_
      intro z1 x1 h hin hout ls hl
      unfold X8_throughTo_s5 at h
      refine lv_iload hx hb dX8_throughTo_5 (lv_at hl 3 rfl) ?_
      refine lv_iload_n hx hb dX8_throughTo_7 rfl (lv_at hl 1 rfl) ?_
      refine lv_icmp_ge (tgt := 41) hx hb dX8_throughTo_8 (by decide) (fun c2 => ?_) (fun c2 => ?_)
      · have h := jt c2 h
        exact hex1 _ (hout _ (Option.some.inj h).symm).symm ls (lv_sub hl [2] rfl)
      · have h := jf c2 h
        refine lv_lload_n hx hb dX8_throughTo_11 rfl (lv_at hl 2 rfl) ?_
        refine lv_bipush (v := (10 : Int32)) hx hb dX8_throughTo_12 (by decide) ?_
        refine lv_aload_n hx hb dX8_throughTo_14 rfl (lv_at hl 0 rfl) ?_
        refine lv_iload hx hb dX8_throughTo_15 (lv_at hl 3 rfl) ?_
        refine lv_aload_n hx hb dX8_throughTo_17 rfl (lv_at hl 0 rfl) ?_
        refine va_get (D := D) (ci := 8) (v := .ref (qa 6)) (C := RX8) (T := TX8) (N := 24) hx hb hts in_X8_throughTo_X8 hown hK.1 hP 0 rfl rfl 14 (by decide) (hts _ kw_X8_throughTo_1) (fun _ h9 => h9) rfl dX8_throughTo_18 ?_
        refine lv_iconst (v := (3 : Int32)) hx hb dX8_throughTo_21 (by decide) ?_
        refine lv_iload hx hb dX8_throughTo_22 (lv_at hl 3 rfl) ?_
        refine lv_iadd hx hb dX8_throughTo_24 ?_
        obtain ⟨g3, h⟩ := jn h
        refine jald hx hb hK hP 6 rfl _ rfl g3 dX8_throughTo_25 ?_
        refine lv_iconst (v := (1 : Int32)) hx hb dX8_throughTo_26 (by decide) ?_
        refine lv_isub hx hb dX8_throughTo_27 ?_
        obtain ⟨z4, hz4, h⟩ := jb h
        refine jki (jrV (As := [.int z1.2, .int ((M.1 5 ((3 : Int32) + z1.2).toNatClampNeg) - (1 : Int32))]) (rest := [.int (10 : Int32), .long z1.1]) ⟨hx, hb, hml, hown, hts⟩ (c_X8_dangerTo l D cyI cyZ cyT qa  z1.2 ((M.1 5 ((3 : Int32) + z1.2).toNatClampNeg) - (1 : Int32)) M z4 hz4) (cwV 2 hts gX8_throughTo_X8_dangerTo rfl rfl rfl (by decide +kernel) ⟨Nat.le_of_ble_eq_true rfl, Nat.le_of_ble_eq_true rfl⟩) hK hP rfl 8 0 rfl rfl rfl hl.1 (Nat.le_of_ble_eq_true rfl) dX8_throughTo_28 ⟨Nat.le_of_ble_eq_true rfl, Nat.le_of_ble_eq_true rfl⟩) ?_
        clear hz4
        refine lv_isub hx hb dX8_throughTo_31 ?_
        refine lv_i2l (v := ((10 : Int32) - z4).toInt64) hx hb dX8_throughTo_32 rfl ?_
        refine lv_lmul hx hb dX8_throughTo_33 ?_
        refine lv_lstore_n (lv' := [(2, .long (z1.1 * (((10 : Int32) - z4).toInt64))), (0, .ref (qa 0)), (1, .int a1), (4, .int z1.2)]) hx hb dX8_throughTo_34 rfl hl (by decide) rfl (fun ls hl => ?_)
        refine lv_iinc (v := z1.2 + (1 : Int32)) (lv' := [(4, .int (z1.2 + (1 : Int32))), (2, .long (z1.1 * (((10 : Int32) - z4).toInt64))), (0, .ref (qa 0)), (1, .int a1)]) hx hb dX8_throughTo_35 hl (k := 3) rfl rfl (by decide) rfl (fun ls hl => ?_)
        refine lv_goto (tgt := 5) hx hb dX8_throughTo_38 (by decide) ?_
        exact hin _ (Option.some.inj h).symm ls (lv_sub hl [2, 3, 1, 0] rfl)
    exact hlp1 _ _ hz1 ls (lv_sub hl [2, 3, 1, 0] rfl)
  exact key s.heap hP rfl
theorem kw_X8_fails__1 : (.fieldLink RX8 50 "BellTheCatModel" "thrown" "I" : Cond) ∈ wsX8_fails_ := List.mem_of_getElem? (i := 1) rfl
theorem kw_X8_fails__2 : (.fieldLink RX8 25 "BellTheCatModel" "s" "[I" : Cond) ∈ wsX8_fails_ := List.mem_of_getElem? (i := 2) rfl
theorem kw_X8_fails__3 : (.constantLong RX8 175 (10) : Cond) ∈ wsX8_fails_ := List.mem_of_getElem? (i := 3) rfl
theorem in_X8_fails__X8 : ∀ w ∈ wsX80, w ∈ wsX8_fails_ := fun w h => List.mem_cons_of_mem _ (List.mem_append_right _ h)
abbrev rm_X8_fails_ : Room := { frames := 3, cells := 0, slots := 0, locals := 69 }
set_option maxHeartbeats 4000000 in
set_option maxRecDepth 100000 in
theorem c_X8_fails_ (l : Launch) (D : va_G) (cyI cyZ cyT : ClassId) (qa : Nat → Nat) (sz : Nat) (N : Nat) (a1 : Int32) (a2 : Int32) (M : Mo) (o : (Int32 × Mo)) (hf : f_X8_fails_ N a1 a2 M = some o) : Met l yX8_fails_ wsX8_fails_ rm_X8_fails_ (va_Pc [.ref (qa 0), .int a1, .int a2] (jM D cyI cyZ cyT (wM cyI cyZ qa M) sz)) (jQi D (va_A (wM cyI cyZ qa M) sz) (fun u : Mo => wM cyI cyZ qa u) o) 0 0 (va_A (wM cyI cyZ qa M) sz) := by
  refine Met.ofW (cc := cX8_fails_) (maxL := 3) (ret := (some .int)) (by decide) rfl ?_
  intro p e s m args below meth c s₁ B hml hv
  obtain ⟨rfl, hsz, hP, hK, hD0⟩ := hv
  have hx := B.exec
  have hb := B.bytes
  have hr := B.returns
  have hts := atoms_spec (ws := wsX8_fails_) B.pre
  have hown : s.vm.findClass RX8 = some m.cls := findClass_of_methodNamed B.named
  have hlocks := B.notSynchronized
  subst hsz
  have hD := hD0.self (sz := s.heap.size)
  generalize hAe : va_A (wM cyI cyZ qa M) s.heap.size = A at hD ⊢
  have hA : ∀ q : Nat, s.heap.size ≤ q → A q := fun q h => by rw [← hAe]; exact Or.inr h
  have hS : va_S A s.heap s.heap [] := va_S.rf
  have hl := lv_entry ([.ref (qa 0), .int a1, .int a2]) (n := 3) (Nat.le_of_ble_eq_true rfl)
  rw [lg_entry_eq]
  generalize (lg_sl ([.ref (qa 0), .int a1, .int a2]) ++ List.replicate (3 - (lg_sl ([.ref (qa 0), .int a1, .int a2])).length) Slot.unset).toArray = ls at hl ⊢
  have hl : lv_has ls 3 [(0, .ref (qa 0)), (1, .int a1), (2, .int a2)] := hl
  clear B
  generalize ([.ref (qa 0), .int a1, .int a2] : List Value).toArray = args at hts ⊢
  have key : ∀ (H : Heap) (locs : List Loc), va_P D vwCl (wM cyI cyZ qa M) H → va_D A (wM cyI cyZ qa M) → va_S A s.heap H locs → W p l e rm_X8_fails_ s m args below meth c H locs 0 0 (MQ below (jQi D A (fun u : Mo => wM cyI cyZ qa u) o) args s 0 0 A) (F0 m 0 ls []) := by
    intro H locs hP hD hS
    have h := hf
    unfold f_X8_fails_ at h
    refine lv_aload_n hx hb dX8_fails__0 rfl (lv_at hl 0 rfl) ?_
    refine lv_iconst (v := (0 : Int32)) hx hb dX8_fails__1 (by decide) ?_
    refine va_put (D := D) (ci := 8) (v := .int (0 : Int32)) (ty := .int) (C := RX8) (T := TX8) (N := 24) hx hb hts in_X8_fails__X8 tyX8 tyX8_ok nmX8 hown hK.1 hP hD hS 0 rfl rfl 0 (by decide) (hts _ kw_X8_fails__1) (fun _ h9 => h9) rfl (tyX8_ok 0 (by decide)) rfl rfl (Nat.le_of_ble_eq_true rfl) dX8_fails__2 (fun H locs hP hD hS => ?_)
    have hP : va_P D vwCl (wM cyI cyZ qa (M.1, va_up M.2 0 (0 : Int32))) H := hP
    have hD : va_D A (wM cyI cyZ qa (M.1, va_up M.2 0 (0 : Int32))) := hD
    refine lv_aload_n hx hb dX8_fails__5 rfl (lv_at hl 0 rfl) ?_
    refine lv_iload_n hx hb dX8_fails__6 rfl (lv_at hl 1 rfl) ?_
    obtain ⟨z1, hz1, h⟩ := jb h
    refine jki (jrV (As := [.int a1]) (rest := []) ⟨hx, hb, hml, hown, hts⟩ (c_X8_isStep l D cyI cyZ cyT qa  a1 (M.1, va_up M.2 0 (0 : Int32)) z1 hz1) (cwV 1 hts gX8_fails__X8_isStep rfl rfl rfl (by decide +kernel) ⟨Nat.le_of_ble_eq_true rfl, Nat.le_of_ble_eq_true rfl⟩) hK hP rfl 8 0 rfl rfl rfl hl.1 (Nat.le_of_ble_eq_true rfl) dX8_fails__7 ⟨Nat.le_of_ble_eq_true rfl, Nat.le_of_ble_eq_true rfl⟩) ?_
    clear hz1
    refine lv_if_ne (tgt := 16) hx hb dX8_fails__10 (by decide) (fun c2 => ?_) (fun c2 => ?_)
    · have h := jf c2 h
      refine lv_iload_n hx hb dX8_fails__16 rfl (lv_at hl 2 rfl) ?_
      obtain ⟨z3, hz3, h⟩ := jb h
      refine jki (jrS (As := [.int a2]) (rest := []) ⟨hx, hb, hml, hown, hts⟩ (c_X8_isPart l D cyI cyZ cyT   a2 z3 hz3) (va_cwS 1 hts gX8_fails__X8_isPart rfl rfl rfl (by decide +kernel) ⟨Nat.le_of_ble_eq_true rfl, Nat.le_of_ble_eq_true rfl⟩) hK jP0 rfl rfl hl.1 (Nat.le_of_ble_eq_true rfl) dX8_fails__17 ⟨Nat.le_of_ble_eq_true rfl, Nat.le_of_ble_eq_true rfl⟩) ?_
      clear hz3
      refine lv_if_ne (tgt := 26) hx hb dX8_fails__20 (by decide) (fun c4 => ?_) (fun c4 => ?_)
      · have h := jf c4 h
        refine lv_aload_n hx hb dX8_fails__26 rfl (lv_at hl 0 rfl) ?_
        obtain ⟨z5, hz5, h⟩ := jb h
        refine jki (jrV (As := []) (rest := []) ⟨hx, hb, hml, hown, hts⟩ (c_X8_isWhole l D cyI cyZ cyT qa  N (M.1, va_up M.2 0 (0 : Int32)) z5 hz5) (cwV 0 hts gX8_fails__X8_isWhole rfl rfl rfl (by decide +kernel) ⟨Nat.le_of_ble_eq_true rfl, Nat.le_of_ble_eq_true rfl⟩) hK hP rfl 8 0 rfl rfl rfl hl.1 (Nat.le_of_ble_eq_true rfl) dX8_fails__27 ⟨Nat.le_of_ble_eq_true rfl, Nat.le_of_ble_eq_true rfl⟩) ?_
        clear hz5
        refine lv_if_eq (tgt := 72) hx hb dX8_fails__30 (by decide) (fun c6 => ?_) (fun c6 => ?_)
        · have h := jt c6 h
          refine lv_bipush (v := (-4 : Int32)) hx hb dX8_fails__72 (by decide) ?_
          exact W.iret hx hb hr (fun t ht _ => ⟨⟨_, _, rfl, Option.some.inj h, by rw [ht]; exact hP, hD⟩, hS.F ht⟩) hS.2.2 dX8_fails__74 hlocks
        · have h := jf c6 h
          refine lv_aload_n hx hb dX8_fails__33 rfl (lv_at hl 0 rfl) ?_
          refine lv_iload_n hx hb dX8_fails__34 rfl (lv_at hl 1 rfl) ?_
          obtain ⟨z7, hz7, h⟩ := jb h
          refine jkl (jrV (As := [.int a1]) (rest := []) ⟨hx, hb, hml, hown, hts⟩ (c_X8_throughTo l D cyI cyZ cyT qa  N a1 (M.1, va_up M.2 0 (0 : Int32)) z7 hz7) (cwV 1 hts gX8_fails__X8_throughTo rfl rfl rfl (by decide +kernel) ⟨Nat.le_of_ble_eq_true rfl, Nat.le_of_ble_eq_true rfl⟩) hK hP rfl 8 0 rfl rfl rfl hl.1 (Nat.le_of_ble_eq_true rfl) dX8_fails__35 ⟨Nat.le_of_ble_eq_true rfl, Nat.le_of_ble_eq_true rfl⟩) ?_
          clear hz7
          refine lv_aload_n hx hb dX8_fails__38 rfl (lv_at hl 0 rfl) ?_
          refine lv_iload_n hx hb dX8_fails__39 rfl (lv_at hl 1 rfl) ?_
          refine lv_aload_n hx hb dX8_fails__40 rfl (lv_at hl 0 rfl) ?_
          refine va_get (D := D) (ci := 8) (v := .ref (qa 6)) (C := RX8) (T := TX8) (N := 24) hx hb hts in_X8_fails__X8 hown hK.1 hP 0 rfl rfl 14 (by decide) (hts _ kw_X8_fails__2) (fun _ h9 => h9) rfl dX8_fails__41 ?_
          refine lv_iconst (v := (3 : Int32)) hx hb dX8_fails__44 (by decide) ?_
          refine lv_iload_n hx hb dX8_fails__45 rfl (lv_at hl 1 rfl) ?_
          refine lv_iadd hx hb dX8_fails__46 ?_
          obtain ⟨g8, h⟩ := jn h
          refine jald hx hb hK hP 6 rfl _ rfl g8 dX8_fails__47 ?_
          refine lv_iconst (v := (1 : Int32)) hx hb dX8_fails__48 (by decide) ?_
          refine lv_isub hx hb dX8_fails__49 ?_
          obtain ⟨z9, hz9, h⟩ := jb h
          refine jki (jrV (As := [.int a1, .int ((M.1 5 ((3 : Int32) + a1).toNatClampNeg) - (1 : Int32))]) (rest := [.long z7]) ⟨hx, hb, hml, hown, hts⟩ (c_X8_dangerTo l D cyI cyZ cyT qa  a1 ((M.1 5 ((3 : Int32) + a1).toNatClampNeg) - (1 : Int32)) (M.1, va_up M.2 0 (0 : Int32)) z9 hz9) (cwV 2 hts gX8_fails__X8_dangerTo rfl rfl rfl (by decide +kernel) ⟨Nat.le_of_ble_eq_true rfl, Nat.le_of_ble_eq_true rfl⟩) hK hP rfl 8 0 rfl rfl rfl hl.1 (Nat.le_of_ble_eq_true rfl) dX8_fails__50 ⟨Nat.le_of_ble_eq_true rfl, Nat.le_of_ble_eq_true rfl⟩) ?_
          clear hz9
          refine lv_i2l (v := z9.toInt64) hx hb dX8_fails__53 rfl ?_
          refine lv_lmul hx hb dX8_fails__54 ?_
          refine lv_ldc2 (v := (10 : Int64)) hx hb hown (hts _ kw_X8_fails__3) dX8_fails__55 ?_
          refine lv_iload_n hx hb dX8_fails__58 rfl (lv_at hl 1 rfl) ?_
          refine lv_iconst (v := (1 : Int32)) hx hb dX8_fails__59 (by decide) ?_
          refine lv_iadd hx hb dX8_fails__60 ?_
          obtain ⟨z10, hz10, h⟩ := jb h
          refine jkl (jrS (As := [.long (10 : Int64), .int (a1 + (1 : Int32))]) (rest := [.long (z7 * z9.toInt64)]) ⟨hx, hb, hml, hown, hts⟩ (c_X8_power l D cyI cyZ cyT   N (10 : Int64) (a1 + (1 : Int32)) z10 hz10) (va_cwS 2 hts gX8_fails__X8_power rfl rfl rfl (by decide +kernel) ⟨Nat.le_of_ble_eq_true rfl, Nat.le_of_ble_eq_true rfl⟩) hK jP0 rfl rfl hl.1 (Nat.le_of_ble_eq_true rfl) dX8_fails__61 ⟨Nat.le_of_ble_eq_true rfl, Nat.le_of_ble_eq_true rfl⟩) ?_
          clear hz10
          refine lv_iload_n hx hb dX8_fails__64 rfl (lv_at hl 2 rfl) ?_
          obtain ⟨z11, hz11, h⟩ := jb h
          refine jkl (jrS (As := [.long (z7 * z9.toInt64), .long z10, .int a2]) (rest := []) ⟨hx, hb, hml, hown, hts⟩ (c_X8_part l D cyI cyZ cyT   N (z7 * z9.toInt64) z10 a2 z11 hz11) (va_cwS 3 hts gX8_fails__X8_part rfl rfl rfl (by decide +kernel) ⟨Nat.le_of_ble_eq_true rfl, Nat.le_of_ble_eq_true rfl⟩) hK jP0 rfl rfl hl.1 (Nat.le_of_ble_eq_true rfl) dX8_fails__65 ⟨Nat.le_of_ble_eq_true rfl, Nat.le_of_ble_eq_true rfl⟩) ?_
          clear hz11
          refine lv_l2i (v := z11.toInt32) hx hb dX8_fails__68 rfl ?_
          refine lv_goto (tgt := 74) hx hb dX8_fails__69 (by decide) ?_
          exact W.iret hx hb hr (fun t ht _ => ⟨⟨_, _, rfl, Option.some.inj h, by rw [ht]; exact hP, hD⟩, hS.F ht⟩) hS.2.2 dX8_fails__74 hlocks
      · have h := jt c4 h
        refine lv_bipush (v := (-3 : Int32)) hx hb dX8_fails__23 (by decide) ?_
        exact W.iret hx hb hr (fun t ht _ => ⟨⟨_, _, rfl, Option.some.inj h, by rw [ht]; exact hP, hD⟩, hS.F ht⟩) hS.2.2 dX8_fails__25 hlocks
    · have h := jt c2 h
      refine lv_bipush (v := (-2 : Int32)) hx hb dX8_fails__13 (by decide) ?_
      exact W.iret hx hb hr (fun t ht _ => ⟨⟨_, _, rfl, Option.some.inj h, by rw [ht]; exact hP, hD⟩, hS.F ht⟩) hS.2.2 dX8_fails__15 hlocks
  exact key s.heap [] hP hD hS
theorem kw_X8_reads_1 : (.fieldLink RX8 108 "BellTheCatModel" "faultAt" "I" : Cond) ∈ wsX8_reads := List.mem_of_getElem? (i := 1) rfl
theorem kw_X8_reads_2 : (.fieldLink RX8 61 "BellTheCatModel" "next" "I" : Cond) ∈ wsX8_reads := List.mem_of_getElem? (i := 2) rfl
theorem kw_X8_reads_3 : (.fieldLink RX8 123 "BellTheCatModel" "clauses" "I" : Cond) ∈ wsX8_reads := List.mem_of_getElem? (i := 3) rfl
theorem kw_X8_reads_4 : (.fieldLink RX8 64 "BellTheCatModel" "place" "I" : Cond) ∈ wsX8_reads := List.mem_of_getElem? (i := 4) rfl
theorem kw_X8_reads_5 : (.fieldLink RX8 95 "BellTheCatModel" "token" "I" : Cond) ∈ wsX8_reads := List.mem_of_getElem? (i := 5) rfl
theorem kw_X8_reads_6 : (.fieldLink RX8 102 "BellTheCatModel" "value" "I" : Cond) ∈ wsX8_reads := List.mem_of_getElem? (i := 6) rfl
theorem in_X8_reads_X8 : ∀ w ∈ wsX80, w ∈ wsX8_reads := fun w h => List.mem_cons_of_mem _ (List.mem_append_right _ h)
abbrev rm_X8_reads : Room := { frames := 6, cells := 0, slots := 0, locals := 131 }
set_option maxHeartbeats 4000000 in
set_option maxRecDepth 100000 in
theorem c_X8_reads (l : Launch) (D : va_G) (cyI cyZ cyT : ClassId) (qa : Nat → Nat) (sz : Nat) (N : Nat) (M : Mo) (o : Mo) (hf : f_X8_reads N M = some o) : Met l yX8_reads wsX8_reads rm_X8_reads (va_Pc [.ref (qa 0)] (jM D cyI cyZ cyT (wM cyI cyZ qa M) sz)) (jQv D (va_A (wM cyI cyZ qa M) sz) (fun u : Mo => wM cyI cyZ qa u) o) 0 0 (va_A (wM cyI cyZ qa M) sz) := by
  refine Met.ofW (cc := cX8_reads) (maxL := 4) (ret := none) (by decide) rfl ?_
  intro p e s m args below meth c s₁ B hml hv
  obtain ⟨rfl, hsz, hP, hK, hD0⟩ := hv
  have hx := B.exec
  have hb := B.bytes
  have hr := B.returns
  have hts := atoms_spec (ws := wsX8_reads) B.pre
  have hown : s.vm.findClass RX8 = some m.cls := findClass_of_methodNamed B.named
  have hlocks := B.notSynchronized
  subst hsz
  have hD := hD0.self (sz := s.heap.size)
  generalize hAe : va_A (wM cyI cyZ qa M) s.heap.size = A at hD ⊢
  have hA : ∀ q : Nat, s.heap.size ≤ q → A q := fun q h => by rw [← hAe]; exact Or.inr h
  have hS : va_S A s.heap s.heap [] := va_S.rf
  have hl := lv_entry ([.ref (qa 0)]) (n := 4) (Nat.le_of_ble_eq_true rfl)
  rw [lg_entry_eq]
  generalize (lg_sl ([.ref (qa 0)]) ++ List.replicate (4 - (lg_sl ([.ref (qa 0)])).length) Slot.unset).toArray = ls at hl ⊢
  have hl : lv_has ls 4 [(0, .ref (qa 0))] := hl
  clear B
  generalize ([.ref (qa 0)] : List Value).toArray = args at hts ⊢
  have key : ∀ (H : Heap) (locs : List Loc), va_P D vwCl (wM cyI cyZ qa M) H → va_D A (wM cyI cyZ qa M) → va_S A s.heap H locs → W p l e rm_X8_reads s m args below meth c H locs 0 0 (MQ below (jQv D A (fun u : Mo => wM cyI cyZ qa u) o) args s 0 0 A) (F0 m 0 ls []) := by
    intro H locs hP hD hS
    have h := hf
    unfold f_X8_reads at h
    refine lv_aload_n hx hb dX8_reads_0 rfl (lv_at hl 0 rfl) ?_
    obtain ⟨z1, hz1, h⟩ := jb h
    refine jgv (w1 := fun u : Mo => wM cyI cyZ qa u) (wn := wM cyI cyZ qa z1) (jmV (As := []) (rest := []) ⟨hx, hb, hml, hown, hts⟩ (c_X8_drafts l D cyI cyZ cyT qa H.size N M z1 hz1) (cwV 0 hts gX8_reads_X8_drafts rfl rfl rfl (by decide +kernel) ⟨Nat.le_of_ble_eq_true rfl, Nat.le_of_ble_eq_true rfl⟩) hK hP hD rfl 8 0 rfl rfl rfl hl.1 (Nat.le_of_ble_eq_true rfl) dX8_reads_1 ⟨Nat.le_of_ble_eq_true rfl, Nat.le_of_ble_eq_true rfl⟩) hP hD hS hA [0, 1, 2, 3, 4, 5, 6, 7, 8, 9, 10, 11, 12, 13] [] [0, 1, 2, 3, 4, 5, 6, 7, 8, 9, 10, 11, 12, 13] rfl rfl (by decide) (by decide) rfl (by decide) (fun H locs hP hD hS => ?_)
    clear hz1
    refine lv_aload_n hx hb dX8_reads_4 rfl (lv_at hl 0 rfl) ?_
    refine lv_iconst (v := (-1 : Int32)) hx hb dX8_reads_5 (by decide) ?_
    refine va_put (D := D) (ci := 8) (v := .int (-1 : Int32)) (ty := .int) (C := RX8) (T := TX8) (N := 24) hx hb hts in_X8_reads_X8 tyX8 tyX8_ok nmX8 hown hK.1 hP hD hS 0 rfl rfl 9 (by decide) (hts _ kw_X8_reads_1) (fun _ h9 => h9) rfl (tyX8_ok 9 (by decide)) rfl rfl (Nat.le_of_ble_eq_true rfl) dX8_reads_6 (fun H locs hP hD hS => ?_)
    have hP : va_P D vwCl (wM cyI cyZ qa (z1.1, va_up z1.2 8 (-1 : Int32))) H := hP
    have hD : va_D A (wM cyI cyZ qa (z1.1, va_up z1.2 8 (-1 : Int32))) := hD
    refine lv_aload_n hx hb dX8_reads_9 rfl (lv_at hl 0 rfl) ?_
    refine lv_iconst (v := (0 : Int32)) hx hb dX8_reads_10 (by decide) ?_
    refine va_put (D := D) (ci := 8) (v := .int (0 : Int32)) (ty := .int) (C := RX8) (T := TX8) (N := 24) hx hb hts in_X8_reads_X8 tyX8 tyX8_ok nmX8 hown hK.1 hP hD hS 0 rfl rfl 3 (by decide) (hts _ kw_X8_reads_2) (fun _ h9 => h9) rfl (tyX8_ok 3 (by decide)) rfl rfl (Nat.le_of_ble_eq_true rfl) dX8_reads_11 (fun H locs hP hD hS => ?_)
    have hP : va_P D vwCl (wM cyI cyZ qa (z1.1, va_up (va_up z1.2 2 (0 : Int32)) 8 (-1 : Int32))) H := hP
    have hD : va_D A (wM cyI cyZ qa (z1.1, va_up (va_up z1.2 2 (0 : Int32)) 8 (-1 : Int32))) := hD
    refine lv_aload_n hx hb dX8_reads_14 rfl (lv_at hl 0 rfl) ?_
    refine lv_iconst (v := (0 : Int32)) hx hb dX8_reads_15 (by decide) ?_
    refine va_put (D := D) (ci := 8) (v := .int (0 : Int32)) (ty := .int) (C := RX8) (T := TX8) (N := 24) hx hb hts in_X8_reads_X8 tyX8 tyX8_ok nmX8 hown hK.1 hP hD hS 0 rfl rfl 8 (by decide) (hts _ kw_X8_reads_3) (fun _ h9 => h9) rfl (tyX8_ok 8 (by decide)) rfl rfl (Nat.le_of_ble_eq_true rfl) dX8_reads_16 (fun H locs hP hD hS => ?_)
    have hP : va_P D vwCl (wM cyI cyZ qa (z1.1, va_up (va_up (va_up z1.2 2 (0 : Int32)) 7 (0 : Int32)) 8 (-1 : Int32))) H := hP
    have hD : va_D A (wM cyI cyZ qa (z1.1, va_up (va_up (va_up z1.2 2 (0 : Int32)) 7 (0 : Int32)) 8 (-1 : Int32))) := hD
    refine lv_iconst (v := (1 : Int32)) hx hb dX8_reads_19 (by decide) ?_
    refine lv_istore_n (lv' := [(1, .int (1 : Int32)), (0, .ref (qa 0))]) hx hb dX8_reads_20 rfl hl (by decide) rfl (fun ls hl => ?_)
    obtain ⟨r2, hz2, h2_⟩ := jb h
    have hex2 : ∀ e2 : Mo, r2 = e2 → ∀ (H : Heap) (locs : List Loc), va_P D vwCl (wM cyI cyZ qa e2) H → va_D A (wM cyI cyZ qa e2) → va_S A s.heap H locs → ∀ (ls : Array Slot), lv_has ls 4 [] → W p l e rm_X8_reads s m args below meth c H locs 0 0 (MQ below (jQv D A (fun u : Mo => wM cyI cyZ qa u) o) args s 0 0 A) (F0 m 141 ls []) := by
      intro e2 he H locs hP hD hS ls hl
      rw [he] at h2_
      have h := h2_
      clear hz2
      exact W.vret hx hb hr (fun t ht _ => ⟨⟨_, rfl, Option.some.inj h, by rw [ht]; exact hP, hD⟩, hS.F ht⟩) hS.2.2 dX8_reads_141 hlocks
    have hlp2 : ∀ (nn : Nat) (z2 : (Int32 × Mo)), jw (X8_reads_s21 N) nn z2 = some r2 → ∀ (H : Heap) (locs : List Loc), va_P D vwCl (wM cyI cyZ qa z2.2) H → va_D A (wM cyI cyZ qa z2.2) → va_S A s.heap H locs → ∀ (ls : Array Slot), lv_has ls 4 [(0, .ref (qa 0)), (1, .int z2.1)] → W p l e rm_X8_reads s m args below meth c H locs 0 0 (MQ below (jQv D A (fun u : Mo => wM cyI cyZ qa u) o) args s 0 0 A) (F0 m 21 ls []) := by
      refine jw_P (r := r2) (P := fun z2 : (Int32 × Mo) => ∀ (H : Heap) (locs : List Loc), va_P D vwCl (wM cyI cyZ qa z2.2) H → va_D A (wM cyI cyZ qa z2.2) → va_S A s.heap H locs → ∀ (ls : Array Slot), lv_has ls 4 [(0, .ref (qa 0)), (1, .int z2.1)] → W p l e rm_X8_reads s m args below meth c H locs 0 0 (MQ below (jQv D A (fun u : Mo => wM cyI cyZ qa u) o) args s 0 0 A) (F0 m 21 ls [])) ?_
      intro z2 x2 h hin hout H locs hP hD hS ls hl
      unfold X8_reads_s21 at h
      refine lv_iload_n hx hb dX8_reads_21 rfl (lv_at hl 1 rfl) ?_
      refine lv_if_eq (tgt := 141) hx hb dX8_reads_22 (by decide) (fun c3 => ?_) (fun c3 => ?_)
      · have h := jt c3 h
        exact hex2 _ (hout _ (Option.some.inj h).symm).symm H locs hP hD hS ls (lv_sub hl [] rfl)
      · have h := jf c3 h
        refine lv_aload_n hx hb dX8_reads_25 rfl (lv_at hl 0 rfl) ?_
        refine va_get (D := D) (ci := 8) (v := .int (z2.2.2 8)) (C := RX8) (T := TX8) (N := 24) hx hb hts in_X8_reads_X8 hown hK.1 hP 0 rfl rfl 9 (by decide) (hts _ kw_X8_reads_1) (fun _ h9 => h9) rfl dX8_reads_26 ?_
        refine lv_iconst (v := (-1 : Int32)) hx hb dX8_reads_29 (by decide) ?_
        refine lv_icmp_ne (tgt := 141) hx hb dX8_reads_30 (by decide) (fun c4 => ?_) (fun c4 => ?_)
        · have h := jf c4 h
          exact hex2 _ (hout _ (Option.some.inj h).symm).symm H locs hP hD hS ls (lv_sub hl [] rfl)
        · have h := jt c4 h
          refine lv_aload_n hx hb dX8_reads_33 rfl (lv_at hl 0 rfl) ?_
          refine va_get (D := D) (ci := 8) (v := .int (z2.2.2 4)) (C := RX8) (T := TX8) (N := 24) hx hb hts in_X8_reads_X8 hown hK.1 hP 0 rfl rfl 5 (by decide) (hts _ kw_X8_reads_4) (fun _ h9 => h9) rfl dX8_reads_34 ?_
          refine lv_istore_n (lv' := [(2, .int (z2.2.2 4)), (0, .ref (qa 0)), (1, .int z2.1)]) hx hb dX8_reads_37 rfl hl (by decide) rfl (fun ls hl => ?_)
          refine lv_aload_n hx hb dX8_reads_38 rfl (lv_at hl 1 rfl) ?_
          obtain ⟨z5, hz5, h⟩ := jb h
          refine jgv (w1 := fun u : Mo => wM cyI cyZ qa u) (wn := wM cyI cyZ qa z5) (jmV (As := []) (rest := []) ⟨hx, hb, hml, hown, hts⟩ (c_X8_advances l D cyI cyZ cyT qa H.size N z2.2 z5 hz5) (cwV 0 hts gX8_reads_X8_advances rfl rfl rfl (by decide +kernel) ⟨Nat.le_of_ble_eq_true rfl, Nat.le_of_ble_eq_true rfl⟩) hK hP hD rfl 8 0 rfl rfl rfl hl.1 (Nat.le_of_ble_eq_true rfl) dX8_reads_39 ⟨Nat.le_of_ble_eq_true rfl, Nat.le_of_ble_eq_true rfl⟩) hP hD hS hA [0, 1, 2, 3, 4, 5, 6, 7, 8, 9, 10, 11, 12, 13] [] [0, 1, 2, 3, 4, 5, 6, 7, 8, 9, 10, 11, 12, 13] rfl rfl (by decide) (by decide) rfl (by decide) (fun H locs hP hD hS => ?_)
          clear hz5
          refine lv_aload_n hx hb dX8_reads_42 rfl (lv_at hl 1 rfl) ?_
          refine va_get (D := D) (ci := 8) (v := .int (z5.2 7)) (C := RX8) (T := TX8) (N := 24) hx hb hts in_X8_reads_X8 hown hK.1 hP 0 rfl rfl 8 (by decide) (hts _ kw_X8_reads_3) (fun _ h9 => h9) rfl dX8_reads_43 ?_
          refine lv_bipush (v := (14 : Int32)) hx hb dX8_reads_46 (by decide) ?_
          obtain ⟨z6, hz6, h⟩ := jb h
          have hk6 : ∀ (H : Heap) (locs : List Loc), va_P D vwCl (wM cyI cyZ qa z6.2) H → va_D A (wM cyI cyZ qa z6.2) → va_S A s.heap H locs → ∀ (ls : Array Slot), lv_has ls 4 [(0, .ref (qa 0)), (1, .int z6.1)] → W p l e rm_X8_reads s m args below meth c H locs 0 0 (MQ below (jQv D A (fun u : Mo => wM cyI cyZ qa u) o) args s 0 0 A) (F0 m 138 ls []) := by
            intro H locs hP hD hS ls hl
            refine lv_goto (tgt := 21) hx hb dX8_reads_138 (by decide) ?_
            exact hin _ (Option.some.inj h).symm H locs hP hD hS ls (lv_sub hl [0, 1] rfl)
          clear h
          have h := hz6
          clear hz6
          refine lv_icmp_ne (tgt := 59) hx hb dX8_reads_48 (by decide) (fun c7 => ?_) (fun c7 => ?_)
          · have h := jf c7 h
            refine lv_aload_n hx hb dX8_reads_59 rfl (lv_at hl 1 rfl) ?_
            refine va_get (D := D) (ci := 8) (v := .int (z5.2 3)) (C := RX8) (T := TX8) (N := 24) hx hb hts in_X8_reads_X8 hown hK.1 hP 0 rfl rfl 4 (by decide) (hts _ kw_X8_reads_5) (fun _ h9 => h9) rfl dX8_reads_60 ?_
            refine lv_iconst (v := (1 : Int32)) hx hb dX8_reads_63 (by decide) ?_
            refine lv_icmp_ne (tgt := 78) hx hb dX8_reads_64 (by decide) (fun c8 => ?_) (fun c8 => ?_)
            · have h := jf c8 h
              refine lv_aload_n hx hb dX8_reads_78 rfl (lv_at hl 1 rfl) ?_
              obtain ⟨z9, hz9, h⟩ := jb h
              refine jgv (w1 := fun u : Mo => wM cyI cyZ qa u) (wn := wM cyI cyZ qa z9) (jmV (As := []) (rest := []) ⟨hx, hb, hml, hown, hts⟩ (c_X8_fails l D cyI cyZ cyT qa H.size z5 z9 hz9) (cwV 0 hts gX8_reads_X8_fails rfl rfl rfl (by decide +kernel) ⟨Nat.le_of_ble_eq_true rfl, Nat.le_of_ble_eq_true rfl⟩) hK hP hD rfl 8 0 rfl rfl rfl hl.1 (Nat.le_of_ble_eq_true rfl) dX8_reads_79 ⟨Nat.le_of_ble_eq_true rfl, Nat.le_of_ble_eq_true rfl⟩) hP hD hS hA [0, 1, 2, 3, 4, 5, 6, 7, 8, 9, 10, 11, 12, 13] [] [0, 1, 2, 3, 4, 5, 6, 7, 8, 9, 10, 11, 12, 13] rfl rfl (by decide) (by decide) rfl (by decide) (fun H locs hP hD hS => ?_)
              clear hz9
              refine lv_goto (tgt := 138) hx hb dX8_reads_82 (by decide) ?_
              obtain rfl := Option.some.inj h
              exact hk6 H locs hP hD hS ls (lv_sub hl [1, 2] rfl)
            · have h := jt c8 h
              refine lv_aload_n hx hb dX8_reads_67 rfl (lv_at hl 1 rfl) ?_
              refine lv_aload_n hx hb dX8_reads_68 rfl (lv_at hl 1 rfl) ?_
              refine va_get (D := D) (ci := 8) (v := .int (z5.2 5)) (C := RX8) (T := TX8) (N := 24) hx hb hts in_X8_reads_X8 hown hK.1 hP 0 rfl rfl 6 (by decide) (hts _ kw_X8_reads_6) (fun _ h9 => h9) rfl dX8_reads_69 ?_
              obtain ⟨z10, hz10, h⟩ := jb h
              refine jki (jrV (As := [.int (z5.2 5)]) (rest := []) ⟨hx, hb, hml, hown, hts⟩ (c_X8_canStand l D cyI cyZ cyT qa  (z5.2 5) z5 z10 hz10) (cwV 1 hts gX8_reads_X8_canStand rfl rfl rfl (by decide +kernel) ⟨Nat.le_of_ble_eq_true rfl, Nat.le_of_ble_eq_true rfl⟩) hK hP rfl 8 0 rfl rfl rfl hl.1 (Nat.le_of_ble_eq_true rfl) dX8_reads_72 ⟨Nat.le_of_ble_eq_true rfl, Nat.le_of_ble_eq_true rfl⟩) ?_
              clear hz10
              refine lv_if_ne (tgt := 85) hx hb dX8_reads_75 (by decide) (fun c11 => ?_) (fun c11 => ?_)
              · have h := jf c11 h
                refine lv_aload_n hx hb dX8_reads_85 rfl (lv_at hl 1 rfl) ?_
                refine va_get (D := D) (ci := 8) (v := .int (z5.2 5)) (C := RX8) (T := TX8) (N := 24) hx hb hts in_X8_reads_X8 hown hK.1 hP 0 rfl rfl 6 (by decide) (hts _ kw_X8_reads_6) (fun _ h9 => h9) rfl dX8_reads_86 ?_
                refine lv_istore_n (lv' := [(3, .int (z5.2 5)), (2, .int (z2.2.2 4)), (0, .ref (qa 0)), (1, .int z2.1)]) hx hb dX8_reads_89 rfl hl (by decide) rfl (fun ls hl => ?_)
                refine lv_aload_n hx hb dX8_reads_90 rfl (lv_at hl 2 rfl) ?_
                obtain ⟨z12, hz12, h⟩ := jb h
                refine jgv (w1 := fun u : Mo => wM cyI cyZ qa u) (wn := wM cyI cyZ qa z12) (jmV (As := []) (rest := []) ⟨hx, hb, hml, hown, hts⟩ (c_X8_advances l D cyI cyZ cyT qa H.size N z5 z12 hz12) (cwV 0 hts gX8_reads_X8_advances rfl rfl rfl (by decide +kernel) ⟨Nat.le_of_ble_eq_true rfl, Nat.le_of_ble_eq_true rfl⟩) hK hP hD rfl 8 0 rfl rfl rfl hl.1 (Nat.le_of_ble_eq_true rfl) dX8_reads_91 ⟨Nat.le_of_ble_eq_true rfl, Nat.le_of_ble_eq_true rfl⟩) hP hD hS hA [0, 1, 2, 3, 4, 5, 6, 7, 8, 9, 10, 11, 12, 13] [] [0, 1, 2, 3, 4, 5, 6, 7, 8, 9, 10, 11, 12, 13] rfl rfl (by decide) (by decide) rfl (by decide) (fun H locs hP hD hS => ?_)
                clear hz12
                refine lv_aload_n hx hb dX8_reads_94 rfl (lv_at hl 2 rfl) ?_
                refine lv_iload_n hx hb dX8_reads_95 rfl (lv_at hl 0 rfl) ?_
                obtain ⟨z13, hz13, h⟩ := jb h
                refine jgv (w1 := fun u : Mo => wM cyI cyZ qa u) (wn := wM cyI cyZ qa z13) (jmV (As := [.int (z5.2 5)]) (rest := []) ⟨hx, hb, hml, hown, hts⟩ (c_X8_clause l D cyI cyZ cyT qa H.size N (z5.2 5) z12 z13 hz13) (cwV 1 hts gX8_reads_X8_clause rfl rfl rfl (by decide +kernel) ⟨Nat.le_of_ble_eq_true rfl, Nat.le_of_ble_eq_true rfl⟩) hK hP hD rfl 8 0 rfl rfl rfl hl.1 (Nat.le_of_ble_eq_true rfl) dX8_reads_96 ⟨Nat.le_of_ble_eq_true rfl, Nat.le_of_ble_eq_true rfl⟩) hP hD hS hA [0, 1, 2, 3, 4, 5, 6, 7, 8, 9, 10, 11, 12, 13] [] [0, 1, 2, 3, 4, 5, 6, 7, 8, 9, 10, 11, 12, 13] rfl rfl (by decide) (by decide) rfl (by decide) (fun H locs hP hD hS => ?_)
                clear hz13
                refine lv_aload_n hx hb dX8_reads_99 rfl (lv_at hl 2 rfl) ?_
                refine lv_dup hx hb dX8_reads_100 rfl ?_
                refine va_get (D := D) (ci := 8) (v := .int (z13.2 7)) (C := RX8) (T := TX8) (N := 24) hx hb hts in_X8_reads_X8 hown hK.1 hP 0 rfl rfl 8 (by decide) (hts _ kw_X8_reads_3) (fun _ h9 => h9) rfl dX8_reads_101 ?_
                refine lv_iconst (v := (1 : Int32)) hx hb dX8_reads_104 (by decide) ?_
                refine lv_iadd hx hb dX8_reads_105 ?_
                refine va_put (D := D) (ci := 8) (v := .int ((z13.2 7) + (1 : Int32))) (ty := .int) (C := RX8) (T := TX8) (N := 24) hx hb hts in_X8_reads_X8 tyX8 tyX8_ok nmX8 hown hK.1 hP hD hS 0 rfl rfl 8 (by decide) (hts _ kw_X8_reads_3) (fun _ h9 => h9) rfl (tyX8_ok 8 (by decide)) rfl rfl (Nat.le_of_ble_eq_true rfl) dX8_reads_106 (fun H locs hP hD hS => ?_)
                have hP : va_P D vwCl (wM cyI cyZ qa (z13.1, va_up z13.2 7 ((z13.2 7) + (1 : Int32)))) H := hP
                have hD : va_D A (wM cyI cyZ qa (z13.1, va_up z13.2 7 ((z13.2 7) + (1 : Int32)))) := hD
                refine lv_aload_n hx hb dX8_reads_109 rfl (lv_at hl 2 rfl) ?_
                refine va_get (D := D) (ci := 8) (v := .int (z13.2 3)) (C := RX8) (T := TX8) (N := 24) hx hb hts in_X8_reads_X8 hown hK.1 hP 0 rfl rfl 4 (by decide) (hts _ kw_X8_reads_5) (fun _ h9 => h9) rfl dX8_reads_110 ?_
                refine lv_iconst (v := (3 : Int32)) hx hb dX8_reads_113 (by decide) ?_
                obtain ⟨z14, hz14, h⟩ := jb h
                have hk14 : ∀ (H : Heap) (locs : List Loc), va_P D vwCl (wM cyI cyZ qa (z13.1, va_up z13.2 7 ((z13.2 7) + (1 : Int32)))) H → va_D A (wM cyI cyZ qa (z13.1, va_up z13.2 7 ((z13.2 7) + (1 : Int32)))) → va_S A s.heap H locs → ∀ (ls : Array Slot), lv_has ls 4 [(0, .ref (qa 0))] → W p l e rm_X8_reads s m args below meth c H locs 0 0 (MQ below (jQv D A (fun u : Mo => wM cyI cyZ qa u) o) args s 0 0 A) (F0 m 122 ls [.int z14]) := by
                  intro H locs hP hD hS ls hl
                  refine lv_istore_n (lv' := [(1, .int z14), (0, .ref (qa 0))]) hx hb dX8_reads_122 rfl hl (by decide) rfl (fun ls hl => ?_)
                  refine lv_iload_n hx hb dX8_reads_123 rfl (lv_at hl 0 rfl) ?_
                  refine lv_if_ne (tgt := 138) hx hb dX8_reads_124 (by decide) (fun c16 => ?_) (fun c16 => ?_)
                  · have h := jf c16 h
                    obtain rfl := Option.some.inj h
                    exact hk6 H locs hP hD hS ls (lv_sub hl [1, 0] rfl)
                  · have h := jt c16 h
                    refine lv_aload_n hx hb dX8_reads_127 rfl (lv_at hl 1 rfl) ?_
                    refine va_get (D := D) (ci := 8) (v := .int (z13.2 3)) (C := RX8) (T := TX8) (N := 24) hx hb hts in_X8_reads_X8 hown hK.1 hP 0 rfl rfl 4 (by decide) (hts _ kw_X8_reads_5) (fun _ h9 => h9) rfl dX8_reads_128 ?_
                    refine lv_if_eq (tgt := 138) hx hb dX8_reads_131 (by decide) (fun c17 => ?_) (fun c17 => ?_)
                    · have h := jt c17 h
                      obtain rfl := Option.some.inj h
                      exact hk6 H locs hP hD hS ls (lv_sub hl [1, 0] rfl)
                    · have h := jf c17 h
                      refine lv_aload_n hx hb dX8_reads_134 rfl (lv_at hl 1 rfl) ?_
                      obtain ⟨z18, hz18, h⟩ := jb h
                      refine jgv (w1 := fun u : Mo => wM cyI cyZ qa u) (wn := wM cyI cyZ qa z18) (jmV (As := []) (rest := []) ⟨hx, hb, hml, hown, hts⟩ (c_X8_fails l D cyI cyZ cyT qa H.size (z13.1, va_up z13.2 7 ((z13.2 7) + (1 : Int32))) z18 hz18) (cwV 0 hts gX8_reads_X8_fails rfl rfl rfl (by decide +kernel) ⟨Nat.le_of_ble_eq_true rfl, Nat.le_of_ble_eq_true rfl⟩) hK hP hD rfl 8 0 rfl rfl rfl hl.1 (Nat.le_of_ble_eq_true rfl) dX8_reads_135 ⟨Nat.le_of_ble_eq_true rfl, Nat.le_of_ble_eq_true rfl⟩) hP hD hS hA [0, 1, 2, 3, 4, 5, 6, 7, 8, 9, 10, 11, 12, 13] [] [0, 1, 2, 3, 4, 5, 6, 7, 8, 9, 10, 11, 12, 13] rfl rfl (by decide) (by decide) rfl (by decide) (fun H locs hP hD hS => ?_)
                      clear hz18
                      obtain rfl := Option.some.inj h
                      exact hk6 H locs hP hD hS ls (lv_sub hl [1, 0] rfl)
                clear h
                have h := hz14
                clear hz14
                refine lv_icmp_ne (tgt := 121) hx hb dX8_reads_114 (by decide) (fun c15 => ?_) (fun c15 => ?_)
                · have h := jf c15 h
                  refine lv_iconst (v := (0 : Int32)) hx hb dX8_reads_121 (by decide) ?_
                  obtain rfl := Option.some.inj h
                  exact hk14 H locs hP hD hS ls (lv_sub hl [2] rfl)
                · have h := jt c15 h
                  refine lv_iconst (v := (1 : Int32)) hx hb dX8_reads_117 (by decide) ?_
                  refine lv_goto (tgt := 122) hx hb dX8_reads_118 (by decide) ?_
                  obtain rfl := Option.some.inj h
                  exact hk14 H locs hP hD hS ls (lv_sub hl [2] rfl)
              · have h := jt c11 h
                refine lv_aload_n hx hb dX8_reads_78 rfl (lv_at hl 1 rfl) ?_
                obtain ⟨z19, hz19, h⟩ := jb h
                refine jgv (w1 := fun u : Mo => wM cyI cyZ qa u) (wn := wM cyI cyZ qa z19) (jmV (As := []) (rest := []) ⟨hx, hb, hml, hown, hts⟩ (c_X8_fails l D cyI cyZ cyT qa H.size z5 z19 hz19) (cwV 0 hts gX8_reads_X8_fails rfl rfl rfl (by decide +kernel) ⟨Nat.le_of_ble_eq_true rfl, Nat.le_of_ble_eq_true rfl⟩) hK hP hD rfl 8 0 rfl rfl rfl hl.1 (Nat.le_of_ble_eq_true rfl) dX8_reads_79 ⟨Nat.le_of_ble_eq_true rfl, Nat.le_of_ble_eq_true rfl⟩) hP hD hS hA [0, 1, 2, 3, 4, 5, 6, 7, 8, 9, 10, 11, 12, 13] [] [0, 1, 2, 3, 4, 5, 6, 7, 8, 9, 10, 11, 12, 13] rfl rfl (by decide) (by decide) rfl (by decide) (fun H locs hP hD hS => ?_)
                clear hz19
                refine lv_goto (tgt := 138) hx hb dX8_reads_82 (by decide) ?_
                obtain rfl := Option.some.inj h
                exact hk6 H locs hP hD hS ls (lv_sub hl [1, 2] rfl)
          · have h := jt c7 h
            refine lv_aload_n hx hb dX8_reads_51 rfl (lv_at hl 1 rfl) ?_
            refine lv_iload_n hx hb dX8_reads_52 rfl (lv_at hl 0 rfl) ?_
            refine va_put (D := D) (ci := 8) (v := .int (z2.2.2 4)) (ty := .int) (C := RX8) (T := TX8) (N := 24) hx hb hts in_X8_reads_X8 tyX8 tyX8_ok nmX8 hown hK.1 hP hD hS 0 rfl rfl 9 (by decide) (hts _ kw_X8_reads_1) (fun _ h9 => h9) rfl (tyX8_ok 9 (by decide)) rfl rfl (Nat.le_of_ble_eq_true rfl) dX8_reads_53 (fun H locs hP hD hS => ?_)
            have hP : va_P D vwCl (wM cyI cyZ qa (z5.1, va_up z5.2 8 (z2.2.2 4))) H := hP
            have hD : va_D A (wM cyI cyZ qa (z5.1, va_up z5.2 8 (z2.2.2 4))) := hD
            refine lv_goto (tgt := 138) hx hb dX8_reads_56 (by decide) ?_
            obtain rfl := Option.some.inj h
            exact hk6 H locs hP hD hS ls (lv_sub hl [1, 2] rfl)
    exact hlp2 _ _ hz2 H locs hP hD hS ls (lv_sub hl [1, 0] rfl)
  exact key s.heap [] hP hD hS
theorem kw_X8_fault_1 : (.fieldLink RX8 50 "BellTheCatModel" "thrown" "I" : Cond) ∈ wsX8_fault := List.mem_of_getElem? (i := 1) rfl
theorem kw_X8_fault_2 : (.fieldLink RX8 108 "BellTheCatModel" "faultAt" "I" : Cond) ∈ wsX8_fault := List.mem_of_getElem? (i := 2) rfl
theorem in_X8_fault_X8 : ∀ w ∈ wsX80, w ∈ wsX8_fault := fun w h => List.mem_cons_of_mem _ (List.mem_append_right _ h)
abbrev rm_X8_fault : Room := { frames := 7, cells := 0, slots := 0, locals := 154 }
set_option maxHeartbeats 4000000 in
set_option maxRecDepth 100000 in
theorem c_X8_fault (l : Launch) (D : va_G) (cyI cyZ cyT : ClassId) (qa : Nat → Nat) (sz : Nat) (N : Nat) (M : Mo) (o : (Int32 × Mo)) (hf : f_X8_fault N M = some o) : Met l yX8_fault wsX8_fault rm_X8_fault (va_Pc [.ref (qa 0)] (jM D cyI cyZ cyT (wM cyI cyZ qa M) sz)) (jQi D (va_A (wM cyI cyZ qa M) sz) (fun u : Mo => wM cyI cyZ qa u) o) 0 0 (va_A (wM cyI cyZ qa M) sz) := by
  refine Met.ofW (cc := cX8_fault) (maxL := 1) (ret := (some .int)) (by decide) rfl ?_
  intro p e s m args below meth c s₁ B hml hv
  obtain ⟨rfl, hsz, hP, hK, hD0⟩ := hv
  have hx := B.exec
  have hb := B.bytes
  have hr := B.returns
  have hts := atoms_spec (ws := wsX8_fault) B.pre
  have hown : s.vm.findClass RX8 = some m.cls := findClass_of_methodNamed B.named
  have hlocks := B.notSynchronized
  subst hsz
  have hD := hD0.self (sz := s.heap.size)
  generalize hAe : va_A (wM cyI cyZ qa M) s.heap.size = A at hD ⊢
  have hA : ∀ q : Nat, s.heap.size ≤ q → A q := fun q h => by rw [← hAe]; exact Or.inr h
  have hS : va_S A s.heap s.heap [] := va_S.rf
  have hl := lv_entry ([.ref (qa 0)]) (n := 1) (Nat.le_of_ble_eq_true rfl)
  rw [lg_entry_eq]
  generalize (lg_sl ([.ref (qa 0)]) ++ List.replicate (1 - (lg_sl ([.ref (qa 0)])).length) Slot.unset).toArray = ls at hl ⊢
  have hl : lv_has ls 1 [(0, .ref (qa 0))] := hl
  clear B
  generalize ([.ref (qa 0)] : List Value).toArray = args at hts ⊢
  have key : ∀ (H : Heap) (locs : List Loc), va_P D vwCl (wM cyI cyZ qa M) H → va_D A (wM cyI cyZ qa M) → va_S A s.heap H locs → W p l e rm_X8_fault s m args below meth c H locs 0 0 (MQ below (jQi D A (fun u : Mo => wM cyI cyZ qa u) o) args s 0 0 A) (F0 m 0 ls []) := by
    intro H locs hP hD hS
    have h := hf
    unfold f_X8_fault at h
    refine lv_aload_n hx hb dX8_fault_0 rfl (lv_at hl 0 rfl) ?_
    refine lv_iconst (v := (0 : Int32)) hx hb dX8_fault_1 (by decide) ?_
    refine va_put (D := D) (ci := 8) (v := .int (0 : Int32)) (ty := .int) (C := RX8) (T := TX8) (N := 24) hx hb hts in_X8_fault_X8 tyX8 tyX8_ok nmX8 hown hK.1 hP hD hS 0 rfl rfl 0 (by decide) (hts _ kw_X8_fault_1) (fun _ h9 => h9) rfl (tyX8_ok 0 (by decide)) rfl rfl (Nat.le_of_ble_eq_true rfl) dX8_fault_2 (fun H locs hP hD hS => ?_)
    have hP : va_P D vwCl (wM cyI cyZ qa (M.1, va_up M.2 0 (0 : Int32))) H := hP
    have hD : va_D A (wM cyI cyZ qa (M.1, va_up M.2 0 (0 : Int32))) := hD
    refine lv_aload_n hx hb dX8_fault_5 rfl (lv_at hl 0 rfl) ?_
    obtain ⟨z1, hz1, h⟩ := jb h
    refine jgv (w1 := fun u : Mo => wM cyI cyZ qa u) (wn := wM cyI cyZ qa z1) (jmV (As := []) (rest := []) ⟨hx, hb, hml, hown, hts⟩ (c_X8_reads l D cyI cyZ cyT qa H.size N (M.1, va_up M.2 0 (0 : Int32)) z1 hz1) (cwV 0 hts gX8_fault_X8_reads rfl rfl rfl (by decide +kernel) ⟨Nat.le_of_ble_eq_true rfl, Nat.le_of_ble_eq_true rfl⟩) hK hP hD rfl 8 0 rfl rfl rfl hl.1 (Nat.le_of_ble_eq_true rfl) dX8_fault_6 ⟨Nat.le_of_ble_eq_true rfl, Nat.le_of_ble_eq_true rfl⟩) hP hD hS hA [0, 1, 2, 3, 4, 5, 6, 7, 8, 9, 10, 11, 12, 13] [] [0, 1, 2, 3, 4, 5, 6, 7, 8, 9, 10, 11, 12, 13] rfl rfl (by decide) (by decide) rfl (by decide) (fun H locs hP hD hS => ?_)
    clear hz1
    refine lv_aload_n hx hb dX8_fault_9 rfl (lv_at hl 0 rfl) ?_
    refine va_get (D := D) (ci := 8) (v := .int (z1.2 8)) (C := RX8) (T := TX8) (N := 24) hx hb hts in_X8_fault_X8 hown hK.1 hP 0 rfl rfl 9 (by decide) (hts _ kw_X8_fault_2) (fun _ h9 => h9) rfl dX8_fault_10 ?_
    exact W.iret hx hb hr (fun t ht _ => ⟨⟨_, _, rfl, Option.some.inj h, by rw [ht]; exact hP, hD⟩, hS.F ht⟩) hS.2.2 dX8_fault_13 hlocks
  exact key s.heap [] hP hD hS
theorem kw_X8_forget_1 : (.fieldLink RX8 50 "BellTheCatModel" "thrown" "I" : Cond) ∈ wsX8_forget := List.mem_of_getElem? (i := 1) rfl
theorem kw_X8_forget_2 : (.fieldLink RX8 140 "BellTheCatModel" "seenMany" "I" : Cond) ∈ wsX8_forget := List.mem_of_getElem? (i := 2) rfl
theorem in_X8_forget_X8 : ∀ w ∈ wsX80, w ∈ wsX8_forget := fun w h => List.mem_cons_of_mem _ (List.mem_append_right _ h)
abbrev rm_X8_forget : Room := { frames := 0, cells := 0, slots := 0, locals := 0 }
set_option maxHeartbeats 4000000 in
set_option maxRecDepth 100000 in
theorem c_X8_forget (l : Launch) (D : va_G) (cyI cyZ cyT : ClassId) (qa : Nat → Nat) (sz : Nat) (M : Mo) (o : (Int32 × Mo)) (hf : f_X8_forget M = some o) : Met l yX8_forget wsX8_forget rm_X8_forget (va_Pc [.ref (qa 0)] (jM D cyI cyZ cyT (wM cyI cyZ qa M) sz)) (jQi D (va_A (wM cyI cyZ qa M) sz) (fun u : Mo => wM cyI cyZ qa u) o) 0 0 (va_A (wM cyI cyZ qa M) sz) := by
  refine Met.ofW (cc := cX8_forget) (maxL := 2) (ret := (some .int)) (by decide) rfl ?_
  intro p e s m args below meth c s₁ B hml hv
  obtain ⟨rfl, hsz, hP, hK, hD0⟩ := hv
  have hx := B.exec
  have hb := B.bytes
  have hr := B.returns
  have hts := atoms_spec (ws := wsX8_forget) B.pre
  have hown : s.vm.findClass RX8 = some m.cls := findClass_of_methodNamed B.named
  have hlocks := B.notSynchronized
  subst hsz
  have hD := hD0.self (sz := s.heap.size)
  generalize hAe : va_A (wM cyI cyZ qa M) s.heap.size = A at hD ⊢
  have hA : ∀ q : Nat, s.heap.size ≤ q → A q := fun q h => by rw [← hAe]; exact Or.inr h
  have hS : va_S A s.heap s.heap [] := va_S.rf
  have hl := lv_entry ([.ref (qa 0)]) (n := 2) (Nat.le_of_ble_eq_true rfl)
  rw [lg_entry_eq]
  generalize (lg_sl ([.ref (qa 0)]) ++ List.replicate (2 - (lg_sl ([.ref (qa 0)])).length) Slot.unset).toArray = ls at hl ⊢
  have hl : lv_has ls 2 [(0, .ref (qa 0))] := hl
  clear B
  generalize ([.ref (qa 0)] : List Value).toArray = args at hts ⊢
  have key : ∀ (H : Heap) (locs : List Loc), va_P D vwCl (wM cyI cyZ qa M) H → va_D A (wM cyI cyZ qa M) → va_S A s.heap H locs → W p l e rm_X8_forget s m args below meth c H locs 0 0 (MQ below (jQi D A (fun u : Mo => wM cyI cyZ qa u) o) args s 0 0 A) (F0 m 0 ls []) := by
    intro H locs hP hD hS
    have h := hf
    unfold f_X8_forget at h
    refine lv_aload_n hx hb dX8_forget_0 rfl (lv_at hl 0 rfl) ?_
    refine lv_iconst (v := (0 : Int32)) hx hb dX8_forget_1 (by decide) ?_
    refine va_put (D := D) (ci := 8) (v := .int (0 : Int32)) (ty := .int) (C := RX8) (T := TX8) (N := 24) hx hb hts in_X8_forget_X8 tyX8 tyX8_ok nmX8 hown hK.1 hP hD hS 0 rfl rfl 0 (by decide) (hts _ kw_X8_forget_1) (fun _ h9 => h9) rfl (tyX8_ok 0 (by decide)) rfl rfl (Nat.le_of_ble_eq_true rfl) dX8_forget_2 (fun H locs hP hD hS => ?_)
    have hP : va_P D vwCl (wM cyI cyZ qa (M.1, va_up M.2 0 (0 : Int32))) H := hP
    have hD : va_D A (wM cyI cyZ qa (M.1, va_up M.2 0 (0 : Int32))) := hD
    refine lv_aload_n hx hb dX8_forget_5 rfl (lv_at hl 0 rfl) ?_
    refine va_get (D := D) (ci := 8) (v := .int (M.2 10)) (C := RX8) (T := TX8) (N := 24) hx hb hts in_X8_forget_X8 hown hK.1 hP 0 rfl rfl 21 (by decide) (hts _ kw_X8_forget_2) (fun _ h9 => h9) rfl dX8_forget_6 ?_
    refine lv_istore_n (lv' := [(1, .int (M.2 10)), (0, .ref (qa 0))]) hx hb dX8_forget_9 rfl hl (by decide) rfl (fun ls hl => ?_)
    refine lv_aload_n hx hb dX8_forget_10 rfl (lv_at hl 1 rfl) ?_
    refine lv_iconst (v := (0 : Int32)) hx hb dX8_forget_11 (by decide) ?_
    refine va_put (D := D) (ci := 8) (v := .int (0 : Int32)) (ty := .int) (C := RX8) (T := TX8) (N := 24) hx hb hts in_X8_forget_X8 tyX8 tyX8_ok nmX8 hown hK.1 hP hD hS 0 rfl rfl 21 (by decide) (hts _ kw_X8_forget_2) (fun _ h9 => h9) rfl (tyX8_ok 21 (by decide)) rfl rfl (Nat.le_of_ble_eq_true rfl) dX8_forget_12 (fun H locs hP hD hS => ?_)
    have hP : va_P D vwCl (wM cyI cyZ qa (M.1, va_up (va_up M.2 0 (0 : Int32)) 10 (0 : Int32))) H := hP
    have hD : va_D A (wM cyI cyZ qa (M.1, va_up (va_up M.2 0 (0 : Int32)) 10 (0 : Int32))) := hD
    refine lv_iload_n hx hb dX8_forget_15 rfl (lv_at hl 0 rfl) ?_
    exact W.iret hx hb hr (fun t ht _ => ⟨⟨_, _, rfl, Option.some.inj h, by rw [ht]; exact hP, hD⟩, hS.F ht⟩) hS.2.2 dX8_forget_16 hlocks
  exact key s.heap [] hP hD hS
theorem kw_X8_isAtRest_1 : (.constantLong RX8 175 (10) : Cond) ∈ wsX8_isAtRest := List.mem_of_getElem? (i := 1) rfl
theorem kw_X8_isAtRest_2 : (.fieldLink RX8 22 "BellTheCatModel" "many" "[I" : Cond) ∈ wsX8_isAtRest := List.mem_of_getElem? (i := 2) rfl
theorem in_X8_isAtRest_X8 : ∀ w ∈ wsX80, w ∈ wsX8_isAtRest := fun w h => List.mem_cons_of_mem _ (List.mem_append_right _ h)
abbrev rm_X8_isAtRest : Room := { frames := 4, cells := 0, slots := 0, locals := 90 }
set_option maxHeartbeats 4000000 in
set_option maxRecDepth 100000 in
theorem c_X8_isAtRest (l : Launch) (D : va_G) (cyI cyZ cyT : ClassId) (qa : Nat → Nat) (N : Nat) (a1 : Int32) (a2 : Int32) (M : Mo) (o : Int32) (hf : f_X8_isAtRest N a1 a2 M = some o) : Met l yX8_isAtRest wsX8_isAtRest rm_X8_isAtRest (va_Pc [.ref (qa 0), .int a1, .int a2] (jB D cyI cyZ cyT (wM cyI cyZ qa M))) (jSi o) 0 0 (fun _ => False) := by
  refine Met.ofW (cc := cX8_isAtRest) (maxL := 13) (ret := (some .boolean)) (by decide) rfl ?_
  intro p e s m args below meth c s₁ B hml hv
  obtain ⟨rfl, hP, hK⟩ := hv
  have hx := B.exec
  have hb := B.bytes
  have hr := B.returns
  have hts := atoms_spec (ws := wsX8_isAtRest) B.pre
  have hown : s.vm.findClass RX8 = some m.cls := findClass_of_methodNamed B.named
  have hlocks := B.notSynchronized
  have hl := lv_entry ([.ref (qa 0), .int a1, .int a2]) (n := 13) (Nat.le_of_ble_eq_true rfl)
  rw [lg_entry_eq]
  generalize (lg_sl ([.ref (qa 0), .int a1, .int a2]) ++ List.replicate (13 - (lg_sl ([.ref (qa 0), .int a1, .int a2])).length) Slot.unset).toArray = ls at hl ⊢
  have hl : lv_has ls 13 [(0, .ref (qa 0)), (1, .int a1), (2, .int a2)] := hl
  clear B
  generalize ([.ref (qa 0), .int a1, .int a2] : List Value).toArray = args at hts ⊢
  have key : ∀ (H : Heap), va_P D vwCl (wM cyI cyZ qa M) H → H = s.heap → W p l e rm_X8_isAtRest s m args below meth c H [] 0 0 (MQ below (jSi o) args s 0 0 (fun _ => False)) (F0 m 0 ls []) := by
    intro H hP hH
    have h := hf
    unfold f_X8_isAtRest at h
    refine lv_ldc2 (v := (10 : Int64)) hx hb hown (hts _ kw_X8_isAtRest_1) dX8_isAtRest_0 ?_
    refine lv_aload_n hx hb dX8_isAtRest_3 rfl (lv_at hl 0 rfl) ?_
    refine va_get (D := D) (ci := 8) (v := .ref (qa 5)) (C := RX8) (T := TX8) (N := 24) hx hb hts in_X8_isAtRest_X8 hown hK.1 hP 0 rfl rfl 13 (by decide) (hts _ kw_X8_isAtRest_2) (fun _ h9 => h9) rfl dX8_isAtRest_4 ?_
    refine lv_iconst (v := (1 : Int32)) hx hb dX8_isAtRest_7 (by decide) ?_
    refine jald hx hb hK hP 5 rfl 1 (by decide) (by decide) dX8_isAtRest_8 ?_
    obtain ⟨z1, hz1, h⟩ := jb h
    refine jkl (jrS (As := [.long (10 : Int64), .int (M.1 4 1)]) (rest := []) ⟨hx, hb, hml, hown, hts⟩ (c_X8_power l D cyI cyZ cyT   N (10 : Int64) (M.1 4 1) z1 hz1) (va_cwS 2 hts gX8_isAtRest_X8_power rfl rfl rfl (by decide +kernel) ⟨Nat.le_of_ble_eq_true rfl, Nat.le_of_ble_eq_true rfl⟩) hK jP0 rfl rfl hl.1 (Nat.le_of_ble_eq_true rfl) dX8_isAtRest_9 ⟨Nat.le_of_ble_eq_true rfl, Nat.le_of_ble_eq_true rfl⟩) ?_
    clear hz1
    refine lv_lstore_n (lv' := [(3, .long z1), (0, .ref (qa 0)), (1, .int a1), (2, .int a2)]) hx hb dX8_isAtRest_12 rfl hl (by decide) rfl (fun ls hl => ?_)
    refine lv_iconst (v := (1 : Int32)) hx hb dX8_isAtRest_13 (by decide) ?_
    refine lv_istore (lv' := [(5, .int (1 : Int32)), (3, .long z1), (0, .ref (qa 0)), (1, .int a1), (2, .int a2)]) hx hb dX8_isAtRest_14 hl (by decide) rfl (fun ls hl => ?_)
    refine lv_iconst (v := (0 : Int32)) hx hb dX8_isAtRest_16 (by decide) ?_
    refine lv_istore (lv' := [(6, .int (0 : Int32)), (5, .int (1 : Int32)), (3, .long z1), (0, .ref (qa 0)), (1, .int a1), (2, .int a2)]) hx hb dX8_isAtRest_17 hl (by decide) rfl (fun ls hl => ?_)
    obtain ⟨r2, hz2, h2_⟩ := jb h
    have hex2 : ∀ e2 : Int32, r2 = e2 → ∀ (ls : Array Slot), lv_has ls 13 [(5, .int e2)] → W p l e rm_X8_isAtRest s m args below meth c H [] 0 0 (MQ below (jSi o) args s 0 0 (fun _ => False)) (F0 m 146 ls []) := by
      intro e2 he ls hl
      rw [he] at h2_
      have h := h2_
      clear hz2
      refine lv_iload hx hb dX8_isAtRest_146 (lv_at hl 0 rfl) ?_
      obtain ⟨gz, h⟩ := jn h
      exact W.zret hx hb hr (jz_n gz) (fun t ht _ => ⟨_, rfl, Option.some.inj h, ht.trans hH⟩) (fun q h => by cases h) dX8_isAtRest_148 hlocks
    have hlp2 : ∀ (nn : Nat) (z2 : (Int32 × Int32)), jw (X8_isAtRest_s19 N a1 a2 M z1) nn z2 = some r2 → ∀ (ls : Array Slot), lv_has ls 13 [(0, .ref (qa 0)), (1, .int a1), (2, .int a2), (3, .long z1), (5, .int z2.1), (6, .int z2.2)] → W p l e rm_X8_isAtRest s m args below meth c H [] 0 0 (MQ below (jSi o) args s 0 0 (fun _ => False)) (F0 m 19 ls []) := by
      refine jw_P (r := r2) (P := fun z2 : (Int32 × Int32) => ∀ (ls : Array Slot), lv_has ls 13 [(0, .ref (qa 0)), (1, .int a1), (2, .int a2), (3, .long z1), (5, .int z2.1), (6, .int z2.2)] → W p l e rm_X8_isAtRest s m args below meth c H [] 0 0 (MQ below (jSi o) args s 0 0 (fun _ => False)) (F0 m 19 ls [])) ?_
      intro z2 x2 h hin hout ls hl
      unfold X8_isAtRest_s19 at h
      refine lv_iload hx hb dX8_isAtRest_19 (lv_at hl 5 rfl) ?_
      refine lv_aload_n hx hb dX8_isAtRest_21 rfl (lv_at hl 0 rfl) ?_
      refine va_get (D := D) (ci := 8) (v := .ref (qa 5)) (C := RX8) (T := TX8) (N := 24) hx hb hts in_X8_isAtRest_X8 hown hK.1 hP 0 rfl rfl 13 (by decide) (hts _ kw_X8_isAtRest_2) (fun _ h9 => h9) rfl dX8_isAtRest_22 ?_
      refine lv_iconst (v := (0 : Int32)) hx hb dX8_isAtRest_25 (by decide) ?_
      refine jald hx hb hK hP 5 rfl 0 (by decide) (by decide) dX8_isAtRest_26 ?_
      refine lv_icmp_ge (tgt := 146) hx hb dX8_isAtRest_27 (by decide) (fun c3 => ?_) (fun c3 => ?_)
      · have h := jt c3 h
        exact hex2 _ (hout _ (Option.some.inj h).symm).symm ls (lv_sub hl [4] rfl)
      · have h := jf c3 h
        refine lv_aload_n hx hb dX8_isAtRest_30 rfl (lv_at hl 0 rfl) ?_
        refine lv_iload hx hb dX8_isAtRest_31 (lv_at hl 5 rfl) ?_
        obtain ⟨z4, hz4, h⟩ := jb h
        refine jki (jrV (As := [.int z2.2]) (rest := []) ⟨hx, hb, hml, hown, hts⟩ (c_X8_isLiving l D cyI cyZ cyT qa  z2.2 M z4 hz4) (cwV 1 hts gX8_isAtRest_X8_isLiving rfl rfl rfl (by decide +kernel) ⟨Nat.le_of_ble_eq_true rfl, Nat.le_of_ble_eq_true rfl⟩) hK hP rfl 8 0 rfl rfl rfl hl.1 (Nat.le_of_ble_eq_true rfl) dX8_isAtRest_33 ⟨Nat.le_of_ble_eq_true rfl, Nat.le_of_ble_eq_true rfl⟩) ?_
        clear hz4
        obtain ⟨z5, hz5, h⟩ := jb h
        have hk5 : ∀ (ls : Array Slot), lv_has ls 13 [(0, .ref (qa 0)), (1, .int a1), (2, .int a2), (3, .long z1), (5, .int z5), (6, .int z2.2)] → W p l e rm_X8_isAtRest s m args below meth c H [] 0 0 (MQ below (jSi o) args s 0 0 (fun _ => False)) (F0 m 140 ls []) := by
          intro ls hl
          refine lv_iinc (v := z2.2 + (1 : Int32)) (lv' := [(6, .int (z2.2 + (1 : Int32))), (0, .ref (qa 0)), (1, .int a1), (2, .int a2), (3, .long z1), (5, .int z5)]) hx hb dX8_isAtRest_140 hl (k := 5) rfl rfl (by decide) rfl (fun ls hl => ?_)
          refine lv_goto (tgt := 19) hx hb dX8_isAtRest_143 (by decide) ?_
          exact hin _ (Option.some.inj h).symm ls (lv_sub hl [1, 2, 3, 4, 5, 0] rfl)
        clear h
        have h := hz5
        clear hz5
        refine lv_if_eq (tgt := 140) hx hb dX8_isAtRest_36 (by decide) (fun c6 => ?_) (fun c6 => ?_)
        · have h := jt c6 h
          obtain rfl := Option.some.inj h
          exact hk5 ls (lv_sub hl [0, 1, 2, 3, 4, 5] rfl)
        · have h := jf c6 h
          refine lv_iload_n hx hb dX8_isAtRest_39 rfl (lv_at hl 2 rfl) ?_
          refine lv_i2l (v := a2.toInt64) hx hb dX8_isAtRest_40 rfl ?_
          refine lv_lload_n hx hb dX8_isAtRest_41 rfl (lv_at hl 3 rfl) ?_
          refine lv_lmul hx hb dX8_isAtRest_42 ?_
          refine lv_aload_n hx hb dX8_isAtRest_43 rfl (lv_at hl 0 rfl) ?_
          refine lv_iload hx hb dX8_isAtRest_44 (lv_at hl 5 rfl) ?_
          obtain ⟨z7, hz7, h⟩ := jb h
          refine jkl (jrV (As := [.int z2.2]) (rest := [.long (a2.toInt64 * z1)]) ⟨hx, hb, hml, hown, hts⟩ (c_X8_dreadOf l D cyI cyZ cyT qa  N z2.2 M z7 hz7) (cwV 1 hts gX8_isAtRest_X8_dreadOf rfl rfl rfl (by decide +kernel) ⟨Nat.le_of_ble_eq_true rfl, Nat.le_of_ble_eq_true rfl⟩) hK hP rfl 8 0 rfl rfl rfl hl.1 (Nat.le_of_ble_eq_true rfl) dX8_isAtRest_46 ⟨Nat.le_of_ble_eq_true rfl, Nat.le_of_ble_eq_true rfl⟩) ?_
          clear hz7
          refine lv_lsub hx hb dX8_isAtRest_49 ?_
          refine lv_lstore (lv' := [(7, .long ((a2.toInt64 * z1) - z7)), (0, .ref (qa 0)), (1, .int a1), (2, .int a2), (3, .long z1), (5, .int z2.1), (6, .int z2.2)]) hx hb dX8_isAtRest_50 hl (by decide) rfl (fun ls hl => ?_)
          refine lv_iload_n hx hb dX8_isAtRest_52 rfl (lv_at hl 2 rfl) ?_
          refine lv_iload hx hb dX8_isAtRest_53 (lv_at hl 6 rfl) ?_
          refine lv_ishr hx hb dX8_isAtRest_55 ?_
          refine lv_iconst (v := (1 : Int32)) hx hb dX8_isAtRest_56 (by decide) ?_
          refine lv_iand hx hb dX8_isAtRest_57 ?_
          refine lv_iconst (v := (1 : Int32)) hx hb dX8_isAtRest_58 (by decide) ?_
          obtain ⟨z8, hz8, h⟩ := jb h
          have hk8 : ∀ (ls : Array Slot), lv_has ls 13 [(0, .ref (qa 0)), (1, .int a1), (2, .int a2), (3, .long z1), (5, .int z2.1), (6, .int z2.2), (7, .long ((a2.toInt64 * z1) - z7))] → W p l e rm_X8_isAtRest s m args below meth c H [] 0 0 (MQ below (jSi o) args s 0 0 (fun _ => False)) (F0 m 67 ls [.int z8]) := by
            intro ls hl
            refine lv_istore (lv' := [(9, .int z8), (0, .ref (qa 0)), (1, .int a1), (2, .int a2), (3, .long z1), (5, .int z2.1), (6, .int z2.2), (7, .long ((a2.toInt64 * z1) - z7))]) hx hb dX8_isAtRest_67 hl (by decide) rfl (fun ls hl => ?_)
            refine lv_iload_n hx hb dX8_isAtRest_69 rfl (lv_at hl 2 rfl) ?_
            refine lv_iconst (v := (1 : Int32)) hx hb dX8_isAtRest_70 (by decide) ?_
            refine lv_iload hx hb dX8_isAtRest_71 (lv_at hl 6 rfl) ?_
            refine lv_ishl hx hb dX8_isAtRest_73 ?_
            refine lv_iconst (v := (-1 : Int32)) hx hb dX8_isAtRest_74 (by decide) ?_
            refine lv_ixor hx hb dX8_isAtRest_75 ?_
            refine lv_iand hx hb dX8_isAtRest_76 ?_
            obtain ⟨z10, hz10, h⟩ := jb h
            refine jki (jrS (As := [.int (a1 &&& (((1 : Int32) <<< (z2.2 &&& 31)) ^^^ (-1 : Int32)))]) (rest := []) ⟨hx, hb, hml, hown, hts⟩ (c_X8_ones l D cyI cyZ cyT   N (a1 &&& (((1 : Int32) <<< (z2.2 &&& 31)) ^^^ (-1 : Int32))) z10 hz10) (va_cwS 1 hts gX8_isAtRest_X8_ones rfl rfl rfl (by decide +kernel) ⟨Nat.le_of_ble_eq_true rfl, Nat.le_of_ble_eq_true rfl⟩) hK jP0 rfl rfl hl.1 (Nat.le_of_ble_eq_true rfl) dX8_isAtRest_77 ⟨Nat.le_of_ble_eq_true rfl, Nat.le_of_ble_eq_true rfl⟩) ?_
            clear hz10
            refine lv_istore (lv' := [(10, .int z10), (9, .int z8), (0, .ref (qa 0)), (1, .int a1), (2, .int a2), (3, .long z1), (5, .int z2.1), (6, .int z2.2), (7, .long ((a2.toInt64 * z1) - z7))]) hx hb dX8_isAtRest_80 hl (by decide) rfl (fun ls hl => ?_)
            refine lv_iload hx hb dX8_isAtRest_82 (lv_at hl 0 rfl) ?_
            obtain ⟨z11, hz11, h⟩ := jb h
            have hk11 : ∀ (ls : Array Slot), lv_has ls 13 [(0, .ref (qa 0)), (1, .int a1), (2, .int a2), (3, .long z1), (5, .int z2.1), (6, .int z2.2), (9, .int z8)] → W p l e rm_X8_isAtRest s m args below meth c H [] 0 0 (MQ below (jSi o) args s 0 0 (fun _ => False)) (F0 m 104 ls [.long z11]) := by
              intro ls hl
              refine lv_lstore (lv' := [(11, .long z11), (0, .ref (qa 0)), (1, .int a1), (2, .int a2), (3, .long z1), (5, .int z2.1), (6, .int z2.2), (9, .int z8)]) hx hb dX8_isAtRest_104 hl (by decide) rfl (fun ls hl => ?_)
              refine lv_iload hx hb dX8_isAtRest_106 (lv_at hl 5 rfl) ?_
              obtain ⟨z13, hz13, h⟩ := jb h
              have hk13 : ∀ (ls : Array Slot), lv_has ls 13 [(0, .ref (qa 0)), (1, .int a1), (2, .int a2), (3, .long z1), (6, .int z2.2)] → W p l e rm_X8_isAtRest s m args below meth c H [] 0 0 (MQ below (jSi o) args s 0 0 (fun _ => False)) (F0 m 138 ls [.int z13]) := by
                intro ls hl
                refine lv_istore (lv' := [(5, .int z13), (0, .ref (qa 0)), (1, .int a1), (2, .int a2), (3, .long z1), (6, .int z2.2)]) hx hb dX8_isAtRest_138 hl (by decide) rfl (fun ls hl => ?_)
                obtain rfl := Option.some.inj h
                exact hk5 ls (lv_sub hl [1, 2, 3, 4, 0, 5] rfl)
              clear h
              have h := hz13
              clear hz13
              refine lv_if_eq (tgt := 137) hx hb dX8_isAtRest_108 (by decide) (fun c14 => ?_) (fun c14 => ?_)
              · have h := jt c14 h
                refine lv_iconst (v := (0 : Int32)) hx hb dX8_isAtRest_137 (by decide) ?_
                obtain rfl := Option.some.inj h
                exact hk13 ls (lv_sub hl [1, 2, 3, 4, 6] rfl)
              · have h := jf c14 h
                refine lv_iload hx hb dX8_isAtRest_111 (lv_at hl 7 rfl) ?_
                refine lv_if_eq (tgt := 126) hx hb dX8_isAtRest_113 (by decide) (fun c15 => ?_) (fun c15 => ?_)
                · have h := jt c15 h
                  refine lv_lload hx hb dX8_isAtRest_126 (lv_at hl 0 rfl) ?_
                  refine lv_lconst (v := (0 : Int64)) hx hb dX8_isAtRest_128 (by decide) ?_
                  refine W.lcmp hx hb dX8_isAtRest_129 ?_
                  refine lv_if_gt (tgt := 137) hx hb dX8_isAtRest_130 (by decide) (fun c16 => ?_) (fun c16 => ?_)
                  · have h := jt ((lg_cmp_gt _ _).mp c16) h
                    refine lv_iconst (v := (0 : Int32)) hx hb dX8_isAtRest_137 (by decide) ?_
                    obtain rfl := Option.some.inj h
                    exact hk13 ls (lv_sub hl [1, 2, 3, 4, 6] rfl)
                  · have h := jf (fun e => c16 ((lg_cmp_gt _ _).mpr e)) h
                    refine lv_iconst (v := (1 : Int32)) hx hb dX8_isAtRest_133 (by decide) ?_
                    refine lv_goto (tgt := 138) hx hb dX8_isAtRest_134 (by decide) ?_
                    obtain rfl := Option.some.inj h
                    exact hk13 ls (lv_sub hl [1, 2, 3, 4, 6] rfl)
                · have h := jf c15 h
                  refine lv_lload hx hb dX8_isAtRest_116 (lv_at hl 0 rfl) ?_
                  refine lv_lconst (v := (0 : Int64)) hx hb dX8_isAtRest_118 (by decide) ?_
                  refine W.lcmp hx hb dX8_isAtRest_119 ?_
                  refine lv_if_lt (tgt := 137) hx hb dX8_isAtRest_120 (by decide) (fun c17 => ?_) (fun c17 => ?_)
                  · have h := jt ((lg_cmp_lt _ _).mp c17) h
                    refine lv_iconst (v := (0 : Int32)) hx hb dX8_isAtRest_137 (by decide) ?_
                    obtain rfl := Option.some.inj h
                    exact hk13 ls (lv_sub hl [1, 2, 3, 4, 6] rfl)
                  · have h := jf (fun e => c17 ((lg_cmp_lt _ _).mpr e)) h
                    refine lv_goto (tgt := 133) hx hb dX8_isAtRest_123 (by decide) ?_
                    refine lv_iconst (v := (1 : Int32)) hx hb dX8_isAtRest_133 (by decide) ?_
                    refine lv_goto (tgt := 138) hx hb dX8_isAtRest_134 (by decide) ?_
                    obtain rfl := Option.some.inj h
                    exact hk13 ls (lv_sub hl [1, 2, 3, 4, 6] rfl)
            clear h
            have h := hz11
            clear hz11
            refine lv_if_ne (tgt := 102) hx hb dX8_isAtRest_84 (by decide) (fun c12 => ?_) (fun c12 => ?_)
            · have h := jf c12 h
              refine lv_lload hx hb dX8_isAtRest_102 (lv_at hl 8 rfl) ?_
              obtain rfl := Option.some.inj h
              exact hk11 ls (lv_sub hl [2, 3, 4, 5, 6, 7, 1] rfl)
            · have h := jt c12 h
              refine lv_lload hx hb dX8_isAtRest_87 (lv_at hl 8 rfl) ?_
              refine lv_aload_n hx hb dX8_isAtRest_89 rfl (lv_at hl 2 rfl) ?_
              refine va_get (D := D) (ci := 8) (v := .ref (qa 5)) (C := RX8) (T := TX8) (N := 24) hx hb hts in_X8_isAtRest_X8 hown hK.1 hP 0 rfl rfl 13 (by decide) (hts _ kw_X8_isAtRest_2) (fun _ h9 => h9) rfl dX8_isAtRest_90 ?_
              refine lv_iconst (v := (3 : Int32)) hx hb dX8_isAtRest_93 (by decide) ?_
              refine jald hx hb hK hP 5 rfl 3 (by decide) (by decide) dX8_isAtRest_94 ?_
              refine lv_i2l (v := (M.1 4 3).toInt64) hx hb dX8_isAtRest_95 rfl ?_
              refine lv_lload_n hx hb dX8_isAtRest_96 rfl (lv_at hl 5 rfl) ?_
              refine lv_lmul hx hb dX8_isAtRest_97 ?_
              refine lv_ladd hx hb dX8_isAtRest_98 ?_
              refine lv_goto (tgt := 104) hx hb dX8_isAtRest_99 (by decide) ?_
              obtain rfl := Option.some.inj h
              exact hk11 ls (lv_sub hl [2, 3, 4, 5, 6, 7, 1] rfl)
          clear h
          have h := hz8
          clear hz8
          refine lv_icmp_ne (tgt := 66) hx hb dX8_isAtRest_59 (by decide) (fun c9 => ?_) (fun c9 => ?_)
          · have h := jf c9 h
            refine lv_iconst (v := (0 : Int32)) hx hb dX8_isAtRest_66 (by decide) ?_
            obtain rfl := Option.some.inj h
            exact hk8 ls (lv_sub hl [1, 2, 3, 4, 5, 6, 0] rfl)
          · have h := jt c9 h
            refine lv_iconst (v := (1 : Int32)) hx hb dX8_isAtRest_62 (by decide) ?_
            refine lv_goto (tgt := 67) hx hb dX8_isAtRest_63 (by decide) ?_
            obtain rfl := Option.some.inj h
            exact hk8 ls (lv_sub hl [1, 2, 3, 4, 5, 6, 0] rfl)
    exact hlp2 _ _ hz2 ls (lv_sub hl [3, 4, 5, 2, 1, 0] rfl)
  exact key s.heap hP rfl
theorem kw_X8_leastAtRest_1 : (.fieldLink RX8 22 "BellTheCatModel" "many" "[I" : Cond) ∈ wsX8_leastAtRest := List.mem_of_getElem? (i := 1) rfl
theorem kw_X8_leastAtRest_2 : (.fieldLink RX8 25 "BellTheCatModel" "s" "[I" : Cond) ∈ wsX8_leastAtRest := List.mem_of_getElem? (i := 2) rfl
theorem in_X8_leastAtRest_X8 : ∀ w ∈ wsX80, w ∈ wsX8_leastAtRest := fun w h => List.mem_cons_of_mem _ (List.mem_append_right _ h)
abbrev rm_X8_leastAtRest : Room := { frames := 5, cells := 0, slots := 0, locals := 122 }
set_option maxHeartbeats 4000000 in
set_option maxRecDepth 100000 in
theorem c_X8_leastAtRest (l : Launch) (D : va_G) (cyI cyZ cyT : ClassId) (qa : Nat → Nat) (N : Nat) (a1 : Int32) (a2 : Int32) (M : Mo) (o : Int32) (hf : f_X8_leastAtRest N a1 a2 M = some o) : Met l yX8_leastAtRest wsX8_leastAtRest rm_X8_leastAtRest (va_Pc [.ref (qa 0), .int a1, .int a2] (jB D cyI cyZ cyT (wM cyI cyZ qa M))) (jSi o) 0 0 (fun _ => False) := by
  refine Met.ofW (cc := cX8_leastAtRest) (maxL := 4) (ret := (some .int)) (by decide) rfl ?_
  intro p e s m args below meth c s₁ B hml hv
  obtain ⟨rfl, hP, hK⟩ := hv
  have hx := B.exec
  have hb := B.bytes
  have hr := B.returns
  have hts := atoms_spec (ws := wsX8_leastAtRest) B.pre
  have hown : s.vm.findClass RX8 = some m.cls := findClass_of_methodNamed B.named
  have hlocks := B.notSynchronized
  have hl := lv_entry ([.ref (qa 0), .int a1, .int a2]) (n := 4) (Nat.le_of_ble_eq_true rfl)
  rw [lg_entry_eq]
  generalize (lg_sl ([.ref (qa 0), .int a1, .int a2]) ++ List.replicate (4 - (lg_sl ([.ref (qa 0), .int a1, .int a2])).length) Slot.unset).toArray = ls at hl ⊢
  have hl : lv_has ls 4 [(0, .ref (qa 0)), (1, .int a1), (2, .int a2)] := hl
  clear B
  generalize ([.ref (qa 0), .int a1, .int a2] : List Value).toArray = args at hts ⊢
  have key : ∀ (H : Heap), va_P D vwCl (wM cyI cyZ qa M) H → H = s.heap → W p l e rm_X8_leastAtRest s m args below meth c H [] 0 0 (MQ below (jSi o) args s 0 0 (fun _ => False)) (F0 m 0 ls []) := by
    intro H hP hH
    have h := hf
    unfold f_X8_leastAtRest at h
    refine lv_iload_n hx hb dX8_leastAtRest_0 rfl (lv_at hl 2 rfl) ?_
    obtain ⟨z1, hz1, h⟩ := jb h
    have hk1 : ∀ (ls : Array Slot), lv_has ls 4 [(0, .ref (qa 0)), (1, .int a1)] → W p l e rm_X8_leastAtRest s m args below meth c H [] 0 0 (MQ below (jSi o) args s 0 0 (fun _ => False)) (F0 m 9 ls [.int z1]) := by
      intro ls hl
      refine lv_istore_n (lv' := [(3, .int z1), (0, .ref (qa 0)), (1, .int a1)]) hx hb dX8_leastAtRest_9 rfl hl (by decide) rfl (fun ls hl => ?_)
      obtain ⟨r3, hz3, h3_⟩ := jb h
      have hex3 : ∀ e3 : Unit, r3 = .inl e3 → ∀ (ls : Array Slot), lv_has ls 4 [] → W p l e rm_X8_leastAtRest s m args below meth c H [] 0 0 (MQ below (jSi o) args s 0 0 (fun _ => False)) (F0 m 52 ls []) := by
        intro e3 he ls hl
        have h := jsl h3_ he
        clear hz3
        refine lv_iconst (v := (-1 : Int32)) hx hb dX8_leastAtRest_52 (by decide) ?_
        exact W.iret hx hb hr (fun t ht _ => ⟨_, rfl, Option.some.inj h, ht.trans hH⟩) (fun q h => by cases h) dX8_leastAtRest_53 hlocks
      have hlp3 : ∀ (nn : Nat) (z3 : Int32), jw (X8_leastAtRest_s10 N a1 M) nn z3 = some r3 → ∀ (ls : Array Slot), lv_has ls 4 [(0, .ref (qa 0)), (1, .int a1), (3, .int z3)] → W p l e rm_X8_leastAtRest s m args below meth c H [] 0 0 (MQ below (jSi o) args s 0 0 (fun _ => False)) (F0 m 10 ls []) := by
        refine jw_P (r := r3) (P := fun z3 : Int32 => ∀ (ls : Array Slot), lv_has ls 4 [(0, .ref (qa 0)), (1, .int a1), (3, .int z3)] → W p l e rm_X8_leastAtRest s m args below meth c H [] 0 0 (MQ below (jSi o) args s 0 0 (fun _ => False)) (F0 m 10 ls [])) ?_
        intro z3 x3 h hin hout ls hl
        unfold X8_leastAtRest_s10 at h
        refine lv_iload_n hx hb dX8_leastAtRest_10 rfl (lv_at hl 2 rfl) ?_
        refine lv_iconst (v := (1 : Int32)) hx hb dX8_leastAtRest_11 (by decide) ?_
        refine lv_aload_n hx hb dX8_leastAtRest_12 rfl (lv_at hl 0 rfl) ?_
        refine va_get (D := D) (ci := 8) (v := .ref (qa 5)) (C := RX8) (T := TX8) (N := 24) hx hb hts in_X8_leastAtRest_X8 hown hK.1 hP 0 rfl rfl 13 (by decide) (hts _ kw_X8_leastAtRest_1) (fun _ h9 => h9) rfl dX8_leastAtRest_13 ?_
        refine lv_iconst (v := (0 : Int32)) hx hb dX8_leastAtRest_16 (by decide) ?_
        refine jald hx hb hK hP 5 rfl 0 (by decide) (by decide) dX8_leastAtRest_17 ?_
        refine lv_ishl hx hb dX8_leastAtRest_18 ?_
        refine lv_icmp_ge (tgt := 52) hx hb dX8_leastAtRest_19 (by decide) (fun c4 => ?_) (fun c4 => ?_)
        · have h := jt c4 h
          exact hex3 _ (hout _ (Option.some.inj h).symm).symm ls (lv_sub hl [] rfl)
        · have h := jf c4 h
          refine lv_iload_n hx hb dX8_leastAtRest_22 rfl (lv_at hl 2 rfl) ?_
          refine lv_aload_n hx hb dX8_leastAtRest_23 rfl (lv_at hl 0 rfl) ?_
          refine va_get (D := D) (ci := 8) (v := .ref (qa 6)) (C := RX8) (T := TX8) (N := 24) hx hb hts in_X8_leastAtRest_X8 hown hK.1 hP 0 rfl rfl 14 (by decide) (hts _ kw_X8_leastAtRest_2) (fun _ h9 => h9) rfl dX8_leastAtRest_24 ?_
          refine lv_iconst (v := (1 : Int32)) hx hb dX8_leastAtRest_27 (by decide) ?_
          refine jald hx hb hK hP 6 rfl 1 (by decide) (by decide) dX8_leastAtRest_28 ?_
          refine lv_iconst (v := (-1 : Int32)) hx hb dX8_leastAtRest_29 (by decide) ?_
          refine lv_ixor hx hb dX8_leastAtRest_30 ?_
          refine lv_iand hx hb dX8_leastAtRest_31 ?_
          refine lv_if_ne (tgt := 46) hx hb dX8_leastAtRest_32 (by decide) (fun c5 => ?_) (fun c5 => ?_)
          · have h := jf c5 h
            refine lv_iinc (v := z3 + (1 : Int32)) (lv' := [(3, .int (z3 + (1 : Int32))), (0, .ref (qa 0)), (1, .int a1)]) hx hb dX8_leastAtRest_46 hl (k := 2) rfl rfl (by decide) rfl (fun ls hl => ?_)
            refine lv_goto (tgt := 10) hx hb dX8_leastAtRest_49 (by decide) ?_
            exact hin _ (Option.some.inj h).symm ls (lv_sub hl [1, 2, 0] rfl)
          · have h := jt c5 h
            refine lv_aload_n hx hb dX8_leastAtRest_35 rfl (lv_at hl 0 rfl) ?_
            refine lv_iload_n hx hb dX8_leastAtRest_36 rfl (lv_at hl 2 rfl) ?_
            refine lv_iload_n hx hb dX8_leastAtRest_37 rfl (lv_at hl 1 rfl) ?_
            obtain ⟨z6, hz6, h⟩ := jb h
            refine jki (jrV (As := [.int z3, .int a1]) (rest := []) ⟨hx, hb, hml, hown, hts⟩ (c_X8_isAtRest l D cyI cyZ cyT qa  N z3 a1 M z6 hz6) (cwV 2 hts gX8_leastAtRest_X8_isAtRest rfl rfl rfl (by decide +kernel) ⟨Nat.le_of_ble_eq_true rfl, Nat.le_of_ble_eq_true rfl⟩) hK hP rfl 8 0 rfl rfl rfl hl.1 (Nat.le_of_ble_eq_true rfl) dX8_leastAtRest_38 ⟨Nat.le_of_ble_eq_true rfl, Nat.le_of_ble_eq_true rfl⟩) ?_
            clear hz6
            refine lv_if_eq (tgt := 46) hx hb dX8_leastAtRest_41 (by decide) (fun c7 => ?_) (fun c7 => ?_)
            · have h := jt c7 h
              refine lv_iinc (v := z3 + (1 : Int32)) (lv' := [(3, .int (z3 + (1 : Int32))), (0, .ref (qa 0)), (1, .int a1)]) hx hb dX8_leastAtRest_46 hl (k := 2) rfl rfl (by decide) rfl (fun ls hl => ?_)
              refine lv_goto (tgt := 10) hx hb dX8_leastAtRest_49 (by decide) ?_
              exact hin _ (Option.some.inj h).symm ls (lv_sub hl [1, 2, 0] rfl)
            · have h := jf c7 h
              refine lv_iload_n hx hb dX8_leastAtRest_44 rfl (lv_at hl 2 rfl) ?_
              have h := jsr h3_ (hout _ (Option.some.inj h).symm).symm
              exact W.iret hx hb hr (fun t ht _ => ⟨_, rfl, Option.some.inj h, ht.trans hH⟩) (fun q h => by cases h) dX8_leastAtRest_45 hlocks
      exact hlp3 _ _ hz3 ls (lv_sub hl [1, 2, 0] rfl)
    clear h
    have h := hz1
    clear hz1
    refine lv_if_eq (tgt := 8) hx hb dX8_leastAtRest_1 (by decide) (fun c2 => ?_) (fun c2 => ?_)
    · have h := jt c2 h
      refine lv_iconst (v := (0 : Int32)) hx hb dX8_leastAtRest_8 (by decide) ?_
      obtain rfl := Option.some.inj h
      exact hk1 ls (lv_sub hl [0, 1] rfl)
    · have h := jf c2 h
      refine lv_iconst (v := (1 : Int32)) hx hb dX8_leastAtRest_4 (by decide) ?_
      refine lv_goto (tgt := 9) hx hb dX8_leastAtRest_5 (by decide) ?_
      obtain rfl := Option.some.inj h
      exact hk1 ls (lv_sub hl [0, 1] rfl)
  exact key s.heap hP rfl
theorem kw_X8_fund_1 : (.fieldLink RX8 50 "BellTheCatModel" "thrown" "I" : Cond) ∈ wsX8_fund := List.mem_of_getElem? (i := 1) rfl
theorem in_X8_fund_X8 : ∀ w ∈ wsX80, w ∈ wsX8_fund := fun w h => List.mem_cons_of_mem _ (List.mem_append_right _ h)
abbrev rm_X8_fund : Room := { frames := 6, cells := 0, slots := 0, locals := 145 }
set_option maxHeartbeats 4000000 in
set_option maxRecDepth 100000 in
theorem c_X8_fund (l : Launch) (D : va_G) (cyI cyZ cyT : ClassId) (qa : Nat → Nat) (sz : Nat) (N : Nat) (M : Mo) (o : (Int32 × Mo)) (hf : f_X8_fund N M = some o) : Met l yX8_fund wsX8_fund rm_X8_fund (va_Pc [.ref (qa 0)] (jM D cyI cyZ cyT (wM cyI cyZ qa M) sz)) (jQi D (va_A (wM cyI cyZ qa M) sz) (fun u : Mo => wM cyI cyZ qa u) o) 0 0 (va_A (wM cyI cyZ qa M) sz) := by
  refine Met.ofW (cc := cX8_fund) (maxL := 2) (ret := (some .int)) (by decide) rfl ?_
  intro p e s m args below meth c s₁ B hml hv
  obtain ⟨rfl, hsz, hP, hK, hD0⟩ := hv
  have hx := B.exec
  have hb := B.bytes
  have hr := B.returns
  have hts := atoms_spec (ws := wsX8_fund) B.pre
  have hown : s.vm.findClass RX8 = some m.cls := findClass_of_methodNamed B.named
  have hlocks := B.notSynchronized
  subst hsz
  have hD := hD0.self (sz := s.heap.size)
  generalize hAe : va_A (wM cyI cyZ qa M) s.heap.size = A at hD ⊢
  have hA : ∀ q : Nat, s.heap.size ≤ q → A q := fun q h => by rw [← hAe]; exact Or.inr h
  have hS : va_S A s.heap s.heap [] := va_S.rf
  have hl := lv_entry ([.ref (qa 0)]) (n := 2) (Nat.le_of_ble_eq_true rfl)
  rw [lg_entry_eq]
  generalize (lg_sl ([.ref (qa 0)]) ++ List.replicate (2 - (lg_sl ([.ref (qa 0)])).length) Slot.unset).toArray = ls at hl ⊢
  have hl : lv_has ls 2 [(0, .ref (qa 0))] := hl
  clear B
  generalize ([.ref (qa 0)] : List Value).toArray = args at hts ⊢
  have key : ∀ (H : Heap) (locs : List Loc), va_P D vwCl (wM cyI cyZ qa M) H → va_D A (wM cyI cyZ qa M) → va_S A s.heap H locs → W p l e rm_X8_fund s m args below meth c H locs 0 0 (MQ below (jQi D A (fun u : Mo => wM cyI cyZ qa u) o) args s 0 0 A) (F0 m 0 ls []) := by
    intro H locs hP hD hS
    have h := hf
    unfold f_X8_fund at h
    refine lv_aload_n hx hb dX8_fund_0 rfl (lv_at hl 0 rfl) ?_
    refine lv_iconst (v := (0 : Int32)) hx hb dX8_fund_1 (by decide) ?_
    refine va_put (D := D) (ci := 8) (v := .int (0 : Int32)) (ty := .int) (C := RX8) (T := TX8) (N := 24) hx hb hts in_X8_fund_X8 tyX8 tyX8_ok nmX8 hown hK.1 hP hD hS 0 rfl rfl 0 (by decide) (hts _ kw_X8_fund_1) (fun _ h9 => h9) rfl (tyX8_ok 0 (by decide)) rfl rfl (Nat.le_of_ble_eq_true rfl) dX8_fund_2 (fun H locs hP hD hS => ?_)
    have hP : va_P D vwCl (wM cyI cyZ qa (M.1, va_up M.2 0 (0 : Int32))) H := hP
    have hD : va_D A (wM cyI cyZ qa (M.1, va_up M.2 0 (0 : Int32))) := hD
    refine lv_iconst (v := (0 : Int32)) hx hb dX8_fund_5 (by decide) ?_
    refine lv_istore_n (lv' := [(1, .int (0 : Int32)), (0, .ref (qa 0))]) hx hb dX8_fund_6 rfl hl (by decide) rfl (fun ls hl => ?_)
    obtain ⟨r1, hz1, h1_⟩ := jb h
    have hex1 : ∀ e1 : Unit, r1 = .inl e1 → ∀ (H : Heap) (locs : List Loc), va_P D vwCl (wM cyI cyZ qa (M.1, va_up M.2 0 (0 : Int32))) H → va_D A (wM cyI cyZ qa (M.1, va_up M.2 0 (0 : Int32))) → va_S A s.heap H locs → ∀ (ls : Array Slot), lv_has ls 2 [] → W p l e rm_X8_fund s m args below meth c H locs 0 0 (MQ below (jQi D A (fun u : Mo => wM cyI cyZ qa u) o) args s 0 0 A) (F0 m 31 ls []) := by
      intro e1 he H locs hP hD hS ls hl
      have h := jsl h1_ he
      clear hz1
      refine lv_iconst (v := (-1 : Int32)) hx hb dX8_fund_31 (by decide) ?_
      exact W.iret hx hb hr (fun t ht _ => ⟨⟨_, _, rfl, Option.some.inj h, by rw [ht]; exact hP, hD⟩, hS.F ht⟩) hS.2.2 dX8_fund_32 hlocks
    have hlp1 : ∀ (nn : Nat) (z1 : Int32), jw (X8_fund_s7 N M) nn z1 = some r1 → ∀ (H : Heap) (locs : List Loc), va_P D vwCl (wM cyI cyZ qa (M.1, va_up M.2 0 (0 : Int32))) H → va_D A (wM cyI cyZ qa (M.1, va_up M.2 0 (0 : Int32))) → va_S A s.heap H locs → ∀ (ls : Array Slot), lv_has ls 2 [(0, .ref (qa 0)), (1, .int z1)] → W p l e rm_X8_fund s m args below meth c H locs 0 0 (MQ below (jQi D A (fun u : Mo => wM cyI cyZ qa u) o) args s 0 0 A) (F0 m 7 ls []) := by
      refine jw_P (r := r1) (P := fun z1 : Int32 => ∀ (H : Heap) (locs : List Loc), va_P D vwCl (wM cyI cyZ qa (M.1, va_up M.2 0 (0 : Int32))) H → va_D A (wM cyI cyZ qa (M.1, va_up M.2 0 (0 : Int32))) → va_S A s.heap H locs → ∀ (ls : Array Slot), lv_has ls 2 [(0, .ref (qa 0)), (1, .int z1)] → W p l e rm_X8_fund s m args below meth c H locs 0 0 (MQ below (jQi D A (fun u : Mo => wM cyI cyZ qa u) o) args s 0 0 A) (F0 m 7 ls [])) ?_
      intro z1 x1 h hin hout H locs hP hD hS ls hl
      unfold X8_fund_s7 at h
      refine lv_iload_n hx hb dX8_fund_7 rfl (lv_at hl 1 rfl) ?_
      refine lv_bipush (v := (100 : Int32)) hx hb dX8_fund_8 (by decide) ?_
      refine lv_icmp_ge (tgt := 31) hx hb dX8_fund_10 (by decide) (fun c2 => ?_) (fun c2 => ?_)
      · have h := jt c2 h
        exact hex1 _ (hout _ (Option.some.inj h).symm).symm H locs hP hD hS ls (lv_sub hl [] rfl)
      · have h := jf c2 h
        refine lv_aload_n hx hb dX8_fund_13 rfl (lv_at hl 0 rfl) ?_
        refine lv_iload_n hx hb dX8_fund_14 rfl (lv_at hl 1 rfl) ?_
        refine lv_iconst (v := (1 : Int32)) hx hb dX8_fund_15 (by decide) ?_
        obtain ⟨z3, hz3, h⟩ := jb h
        refine jki (jrV (As := [.int z1, .int (1 : Int32)]) (rest := []) ⟨hx, hb, hml, hown, hts⟩ (c_X8_leastAtRest l D cyI cyZ cyT qa  N z1 (1 : Int32) (M.1, va_up M.2 0 (0 : Int32)) z3 hz3) (cwV 2 hts gX8_fund_X8_leastAtRest rfl rfl rfl (by decide +kernel) ⟨Nat.le_of_ble_eq_true rfl, Nat.le_of_ble_eq_true rfl⟩) hK hP rfl 8 0 rfl rfl rfl hl.1 (Nat.le_of_ble_eq_true rfl) dX8_fund_16 ⟨Nat.le_of_ble_eq_true rfl, Nat.le_of_ble_eq_true rfl⟩) ?_
        clear hz3
        refine lv_iconst (v := (-1 : Int32)) hx hb dX8_fund_19 (by decide) ?_
        refine lv_icmp_eq (tgt := 25) hx hb dX8_fund_20 (by decide) (fun c4 => ?_) (fun c4 => ?_)
        · have h := jt c4 h
          refine lv_iinc (v := z1 + (1 : Int32)) (lv' := [(1, .int (z1 + (1 : Int32))), (0, .ref (qa 0))]) hx hb dX8_fund_25 hl (k := 1) rfl rfl (by decide) rfl (fun ls hl => ?_)
          refine lv_goto (tgt := 7) hx hb dX8_fund_28 (by decide) ?_
          exact hin _ (Option.some.inj h).symm H locs hP hD hS ls (lv_sub hl [1, 0] rfl)
        · have h := jf c4 h
          refine lv_iload_n hx hb dX8_fund_23 rfl (lv_at hl 1 rfl) ?_
          have h := jsr h1_ (hout _ (Option.some.inj h).symm).symm
          exact W.iret hx hb hr (fun t ht _ => ⟨⟨_, _, rfl, Option.some.inj h, by rw [ht]; exact hP, hD⟩, hS.F ht⟩) hS.2.2 dX8_fund_24 hlocks
    exact hlp1 _ _ hz1 H locs hP hD hS ls (lv_sub hl [1, 0] rfl)
  exact key s.heap [] hP hD hS
theorem kw_X8_hires_1 : (.fieldLink RX8 50 "BellTheCatModel" "thrown" "I" : Cond) ∈ wsX8_hires := List.mem_of_getElem? (i := 1) rfl
theorem kw_X8_hires_2 : (.fieldLink RX8 22 "BellTheCatModel" "many" "[I" : Cond) ∈ wsX8_hires := List.mem_of_getElem? (i := 2) rfl
theorem in_X8_hires_X8 : ∀ w ∈ wsX80, w ∈ wsX8_hires := fun w h => List.mem_cons_of_mem _ (List.mem_append_right _ h)
abbrev rm_X8_hires : Room := { frames := 4, cells := 0, slots := 0, locals := 90 }
set_option maxHeartbeats 4000000 in
set_option maxRecDepth 100000 in
theorem c_X8_hires (l : Launch) (D : va_G) (cyI cyZ cyT : ClassId) (qa : Nat → Nat) (sz : Nat) (N : Nat) (a1 : Int32) (M : Mo) (o : (Int32 × Mo)) (hf : f_X8_hires N a1 M = some o) : Met l yX8_hires wsX8_hires rm_X8_hires (va_Pc [.ref (qa 0), .int a1] (jM D cyI cyZ cyT (wM cyI cyZ qa M) sz)) (jQi D (va_A (wM cyI cyZ qa M) sz) (fun u : Mo => wM cyI cyZ qa u) o) 0 0 (va_A (wM cyI cyZ qa M) sz) := by
  refine Met.ofW (cc := cX8_hires) (maxL := 4) (ret := (some .int)) (by decide) rfl ?_
  intro p e s m args below meth c s₁ B hml hv
  obtain ⟨rfl, hsz, hP, hK, hD0⟩ := hv
  have hx := B.exec
  have hb := B.bytes
  have hr := B.returns
  have hts := atoms_spec (ws := wsX8_hires) B.pre
  have hown : s.vm.findClass RX8 = some m.cls := findClass_of_methodNamed B.named
  have hlocks := B.notSynchronized
  subst hsz
  have hD := hD0.self (sz := s.heap.size)
  generalize hAe : va_A (wM cyI cyZ qa M) s.heap.size = A at hD ⊢
  have hA : ∀ q : Nat, s.heap.size ≤ q → A q := fun q h => by rw [← hAe]; exact Or.inr h
  have hS : va_S A s.heap s.heap [] := va_S.rf
  have hl := lv_entry ([.ref (qa 0), .int a1]) (n := 4) (Nat.le_of_ble_eq_true rfl)
  rw [lg_entry_eq]
  generalize (lg_sl ([.ref (qa 0), .int a1]) ++ List.replicate (4 - (lg_sl ([.ref (qa 0), .int a1])).length) Slot.unset).toArray = ls at hl ⊢
  have hl : lv_has ls 4 [(0, .ref (qa 0)), (1, .int a1)] := hl
  clear B
  generalize ([.ref (qa 0), .int a1] : List Value).toArray = args at hts ⊢
  have key : ∀ (H : Heap) (locs : List Loc), va_P D vwCl (wM cyI cyZ qa M) H → va_D A (wM cyI cyZ qa M) → va_S A s.heap H locs → W p l e rm_X8_hires s m args below meth c H locs 0 0 (MQ below (jQi D A (fun u : Mo => wM cyI cyZ qa u) o) args s 0 0 A) (F0 m 0 ls []) := by
    intro H locs hP hD hS
    have h := hf
    unfold f_X8_hires at h
    refine lv_aload_n hx hb dX8_hires_0 rfl (lv_at hl 0 rfl) ?_
    refine lv_iconst (v := (0 : Int32)) hx hb dX8_hires_1 (by decide) ?_
    refine va_put (D := D) (ci := 8) (v := .int (0 : Int32)) (ty := .int) (C := RX8) (T := TX8) (N := 24) hx hb hts in_X8_hires_X8 tyX8 tyX8_ok nmX8 hown hK.1 hP hD hS 0 rfl rfl 0 (by decide) (hts _ kw_X8_hires_1) (fun _ h9 => h9) rfl (tyX8_ok 0 (by decide)) rfl rfl (Nat.le_of_ble_eq_true rfl) dX8_hires_2 (fun H locs hP hD hS => ?_)
    have hP : va_P D vwCl (wM cyI cyZ qa (M.1, va_up M.2 0 (0 : Int32))) H := hP
    have hD : va_D A (wM cyI cyZ qa (M.1, va_up M.2 0 (0 : Int32))) := hD
    refine lv_aload_n hx hb dX8_hires_5 rfl (lv_at hl 0 rfl) ?_
    refine lv_iload_n hx hb dX8_hires_6 rfl (lv_at hl 1 rfl) ?_
    obtain ⟨z1, hz1, h⟩ := jb h
    refine jki (jrV (As := [.int a1]) (rest := []) ⟨hx, hb, hml, hown, hts⟩ (c_X8_isMouse l D cyI cyZ cyT qa  a1 (M.1, va_up M.2 0 (0 : Int32)) z1 hz1) (cwV 1 hts gX8_hires_X8_isMouse rfl rfl rfl (by decide +kernel) ⟨Nat.le_of_ble_eq_true rfl, Nat.le_of_ble_eq_true rfl⟩) hK hP rfl 8 0 rfl rfl rfl hl.1 (Nat.le_of_ble_eq_true rfl) dX8_hires_7 ⟨Nat.le_of_ble_eq_true rfl, Nat.le_of_ble_eq_true rfl⟩) ?_
    clear hz1
    refine lv_if_ne (tgt := 16) hx hb dX8_hires_10 (by decide) (fun c2 => ?_) (fun c2 => ?_)
    · have h := jf c2 h
      refine lv_aload_n hx hb dX8_hires_16 rfl (lv_at hl 0 rfl) ?_
      refine lv_iload_n hx hb dX8_hires_17 rfl (lv_at hl 1 rfl) ?_
      obtain ⟨z3, hz3, h⟩ := jb h
      refine jki (jrV (As := [.int a1]) (rest := []) ⟨hx, hb, hml, hown, hts⟩ (c_X8_isLiving l D cyI cyZ cyT qa  a1 (M.1, va_up M.2 0 (0 : Int32)) z3 hz3) (cwV 1 hts gX8_hires_X8_isLiving rfl rfl rfl (by decide +kernel) ⟨Nat.le_of_ble_eq_true rfl, Nat.le_of_ble_eq_true rfl⟩) hK hP rfl 8 0 rfl rfl rfl hl.1 (Nat.le_of_ble_eq_true rfl) dX8_hires_18 ⟨Nat.le_of_ble_eq_true rfl, Nat.le_of_ble_eq_true rfl⟩) ?_
      clear hz3
      refine lv_if_ne (tgt := 27) hx hb dX8_hires_21 (by decide) (fun c4 => ?_) (fun c4 => ?_)
      · have h := jf c4 h
        refine lv_iload_n hx hb dX8_hires_27 rfl (lv_at hl 1 rfl) ?_
        refine lv_istore_n (lv' := [(2, .int a1), (0, .ref (qa 0)), (1, .int a1)]) hx hb dX8_hires_28 rfl hl (by decide) rfl (fun ls hl => ?_)
        refine lv_aload_n hx hb dX8_hires_29 rfl (lv_at hl 1 rfl) ?_
        refine va_get (D := D) (ci := 8) (v := .ref (qa 5)) (C := RX8) (T := TX8) (N := 24) hx hb hts in_X8_hires_X8 hown hK.1 hP 0 rfl rfl 13 (by decide) (hts _ kw_X8_hires_2) (fun _ h9 => h9) rfl dX8_hires_30 ?_
        refine lv_iconst (v := (0 : Int32)) hx hb dX8_hires_33 (by decide) ?_
        refine jald hx hb hK hP 5 rfl 0 (by decide) (by decide) dX8_hires_34 ?_
        refine lv_iconst (v := (1 : Int32)) hx hb dX8_hires_35 (by decide) ?_
        refine lv_isub hx hb dX8_hires_36 ?_
        refine lv_istore_n (lv' := [(3, .int ((M.1 4 0) - (1 : Int32))), (2, .int a1), (0, .ref (qa 0)), (1, .int a1)]) hx hb dX8_hires_37 rfl hl (by decide) rfl (fun ls hl => ?_)
        obtain ⟨r5, hz5, h5_⟩ := jb h
        have hex5 : ∀ e5 : Int32, r5 = e5 → ∀ (H : Heap) (locs : List Loc), va_P D vwCl (wM cyI cyZ qa (M.1, va_up M.2 0 (0 : Int32))) H → va_D A (wM cyI cyZ qa (M.1, va_up M.2 0 (0 : Int32))) → va_S A s.heap H locs → ∀ (ls : Array Slot), lv_has ls 4 [(0, .ref (qa 0)), (1, .int a1), (2, .int e5)] → W p l e rm_X8_hires s m args below meth c H locs 0 0 (MQ below (jQi D A (fun u : Mo => wM cyI cyZ qa u) o) args s 0 0 A) (F0 m 76 ls []) := by
          intro e5 he H locs hP hD hS ls hl
          rw [he] at h5_
          have h := h5_
          clear hz5
          refine lv_aload_n hx hb dX8_hires_76 rfl (lv_at hl 0 rfl) ?_
          refine lv_iload_n hx hb dX8_hires_77 rfl (lv_at hl 2 rfl) ?_
          obtain ⟨z13, hz13, h⟩ := jb h
          refine jkl (jrV (As := [.int e5]) (rest := []) ⟨hx, hb, hml, hown, hts⟩ (c_X8_dreadOf l D cyI cyZ cyT qa  N e5 (M.1, va_up M.2 0 (0 : Int32)) z13 hz13) (cwV 1 hts gX8_hires_X8_dreadOf rfl rfl rfl (by decide +kernel) ⟨Nat.le_of_ble_eq_true rfl, Nat.le_of_ble_eq_true rfl⟩) hK hP rfl 8 0 rfl rfl rfl hl.1 (Nat.le_of_ble_eq_true rfl) dX8_hires_78 ⟨Nat.le_of_ble_eq_true rfl, Nat.le_of_ble_eq_true rfl⟩) ?_
          clear hz13
          refine lv_aload_n hx hb dX8_hires_81 rfl (lv_at hl 0 rfl) ?_
          refine lv_iload_n hx hb dX8_hires_82 rfl (lv_at hl 1 rfl) ?_
          obtain ⟨z14, hz14, h⟩ := jb h
          refine jkl (jrV (As := [.int a1]) (rest := [.long z13]) ⟨hx, hb, hml, hown, hts⟩ (c_X8_dreadOf l D cyI cyZ cyT qa  N a1 (M.1, va_up M.2 0 (0 : Int32)) z14 hz14) (cwV 1 hts gX8_hires_X8_dreadOf rfl rfl rfl (by decide +kernel) ⟨Nat.le_of_ble_eq_true rfl, Nat.le_of_ble_eq_true rfl⟩) hK hP rfl 8 0 rfl rfl rfl hl.1 (Nat.le_of_ble_eq_true rfl) dX8_hires_83 ⟨Nat.le_of_ble_eq_true rfl, Nat.le_of_ble_eq_true rfl⟩) ?_
          clear hz14
          refine W.lcmp hx hb dX8_hires_86 ?_
          refine lv_if_ge (tgt := 94) hx hb dX8_hires_87 (by decide) (fun c15 => ?_) (fun c15 => ?_)
          · have h := jt ((lg_cmp_ge _ _).mp c15) h
            refine lv_iload_n hx hb dX8_hires_94 rfl (lv_at hl 1 rfl) ?_
            exact W.iret hx hb hr (fun t ht _ => ⟨⟨_, _, rfl, Option.some.inj h, by rw [ht]; exact hP, hD⟩, hS.F ht⟩) hS.2.2 dX8_hires_95 hlocks
          · have h := jf (fun e => c15 ((lg_cmp_ge _ _).mpr e)) h
            refine lv_iload_n hx hb dX8_hires_90 rfl (lv_at hl 2 rfl) ?_
            refine lv_goto (tgt := 95) hx hb dX8_hires_91 (by decide) ?_
            exact W.iret hx hb hr (fun t ht _ => ⟨⟨_, _, rfl, Option.some.inj h, by rw [ht]; exact hP, hD⟩, hS.F ht⟩) hS.2.2 dX8_hires_95 hlocks
        have hlp5 : ∀ (nn : Nat) (z5 : (Int32 × Int32)), jw (X8_hires_s38 N M) nn z5 = some r5 → ∀ (H : Heap) (locs : List Loc), va_P D vwCl (wM cyI cyZ qa (M.1, va_up M.2 0 (0 : Int32))) H → va_D A (wM cyI cyZ qa (M.1, va_up M.2 0 (0 : Int32))) → va_S A s.heap H locs → ∀ (ls : Array Slot), lv_has ls 4 [(0, .ref (qa 0)), (1, .int a1), (2, .int z5.1), (3, .int z5.2)] → W p l e rm_X8_hires s m args below meth c H locs 0 0 (MQ below (jQi D A (fun u : Mo => wM cyI cyZ qa u) o) args s 0 0 A) (F0 m 38 ls []) := by
          refine jw_P (r := r5) (P := fun z5 : (Int32 × Int32) => ∀ (H : Heap) (locs : List Loc), va_P D vwCl (wM cyI cyZ qa (M.1, va_up M.2 0 (0 : Int32))) H → va_D A (wM cyI cyZ qa (M.1, va_up M.2 0 (0 : Int32))) → va_S A s.heap H locs → ∀ (ls : Array Slot), lv_has ls 4 [(0, .ref (qa 0)), (1, .int a1), (2, .int z5.1), (3, .int z5.2)] → W p l e rm_X8_hires s m args below meth c H locs 0 0 (MQ below (jQi D A (fun u : Mo => wM cyI cyZ qa u) o) args s 0 0 A) (F0 m 38 ls [])) ?_
          intro z5 x5 h hin hout H locs hP hD hS ls hl
          unfold X8_hires_s38 at h
          refine lv_iload_n hx hb dX8_hires_38 rfl (lv_at hl 3 rfl) ?_
          refine lv_if_lt (tgt := 76) hx hb dX8_hires_39 (by decide) (fun c6 => ?_) (fun c6 => ?_)
          · have h := jt c6 h
            exact hex5 _ (hout _ (Option.some.inj h).symm).symm H locs hP hD hS ls (lv_sub hl [0, 1, 2] rfl)
          · have h := jf c6 h
            refine lv_aload_n hx hb dX8_hires_42 rfl (lv_at hl 0 rfl) ?_
            refine lv_iload_n hx hb dX8_hires_43 rfl (lv_at hl 3 rfl) ?_
            obtain ⟨z7, hz7, h⟩ := jb h
            refine jki (jrV (As := [.int z5.2]) (rest := []) ⟨hx, hb, hml, hown, hts⟩ (c_X8_isLiving l D cyI cyZ cyT qa  z5.2 (M.1, va_up M.2 0 (0 : Int32)) z7 hz7) (cwV 1 hts gX8_hires_X8_isLiving rfl rfl rfl (by decide +kernel) ⟨Nat.le_of_ble_eq_true rfl, Nat.le_of_ble_eq_true rfl⟩) hK hP rfl 8 0 rfl rfl rfl hl.1 (Nat.le_of_ble_eq_true rfl) dX8_hires_44 ⟨Nat.le_of_ble_eq_true rfl, Nat.le_of_ble_eq_true rfl⟩) ?_
            clear hz7
            obtain ⟨z8, hz8, h⟩ := jb h
            have hk8 : ∀ (H : Heap) (locs : List Loc), va_P D vwCl (wM cyI cyZ qa (M.1, va_up M.2 0 (0 : Int32))) H → va_D A (wM cyI cyZ qa (M.1, va_up M.2 0 (0 : Int32))) → va_S A s.heap H locs → ∀ (ls : Array Slot), lv_has ls 4 [(0, .ref (qa 0)), (1, .int a1), (3, .int z5.2)] → W p l e rm_X8_hires s m args below meth c H locs 0 0 (MQ below (jQi D A (fun u : Mo => wM cyI cyZ qa u) o) args s 0 0 A) (F0 m 69 ls [.int z8]) := by
              intro H locs hP hD hS ls hl
              refine lv_istore_n (lv' := [(2, .int z8), (0, .ref (qa 0)), (1, .int a1), (3, .int z5.2)]) hx hb dX8_hires_69 rfl hl (by decide) rfl (fun ls hl => ?_)
              refine lv_iinc (v := z5.2 + (-1 : Int32)) (lv' := [(3, .int (z5.2 + (-1 : Int32))), (2, .int z8), (0, .ref (qa 0)), (1, .int a1)]) hx hb dX8_hires_70 hl (k := 3) rfl rfl (by decide) rfl (fun ls hl => ?_)
              refine lv_goto (tgt := 38) hx hb dX8_hires_73 (by decide) ?_
              exact hin _ (Option.some.inj h).symm H locs hP hD hS ls (lv_sub hl [2, 3, 1, 0] rfl)
            clear h
            have h := hz8
            clear hz8
            refine lv_if_eq (tgt := 68) hx hb dX8_hires_47 (by decide) (fun c9 => ?_) (fun c9 => ?_)
            · have h := jt c9 h
              refine lv_iload_n hx hb dX8_hires_68 rfl (lv_at hl 2 rfl) ?_
              obtain rfl := Option.some.inj h
              exact hk8 H locs hP hD hS ls (lv_sub hl [0, 1, 3] rfl)
            · have h := jf c9 h
              refine lv_aload_n hx hb dX8_hires_50 rfl (lv_at hl 0 rfl) ?_
              refine lv_iload_n hx hb dX8_hires_51 rfl (lv_at hl 3 rfl) ?_
              obtain ⟨z10, hz10, h⟩ := jb h
              refine jkl (jrV (As := [.int z5.2]) (rest := []) ⟨hx, hb, hml, hown, hts⟩ (c_X8_dreadOf l D cyI cyZ cyT qa  N z5.2 (M.1, va_up M.2 0 (0 : Int32)) z10 hz10) (cwV 1 hts gX8_hires_X8_dreadOf rfl rfl rfl (by decide +kernel) ⟨Nat.le_of_ble_eq_true rfl, Nat.le_of_ble_eq_true rfl⟩) hK hP rfl 8 0 rfl rfl rfl hl.1 (Nat.le_of_ble_eq_true rfl) dX8_hires_52 ⟨Nat.le_of_ble_eq_true rfl, Nat.le_of_ble_eq_true rfl⟩) ?_
              clear hz10
              refine lv_aload_n hx hb dX8_hires_55 rfl (lv_at hl 0 rfl) ?_
              refine lv_iload_n hx hb dX8_hires_56 rfl (lv_at hl 2 rfl) ?_
              obtain ⟨z11, hz11, h⟩ := jb h
              refine jkl (jrV (As := [.int z5.1]) (rest := [.long z10]) ⟨hx, hb, hml, hown, hts⟩ (c_X8_dreadOf l D cyI cyZ cyT qa  N z5.1 (M.1, va_up M.2 0 (0 : Int32)) z11 hz11) (cwV 1 hts gX8_hires_X8_dreadOf rfl rfl rfl (by decide +kernel) ⟨Nat.le_of_ble_eq_true rfl, Nat.le_of_ble_eq_true rfl⟩) hK hP rfl 8 0 rfl rfl rfl hl.1 (Nat.le_of_ble_eq_true rfl) dX8_hires_57 ⟨Nat.le_of_ble_eq_true rfl, Nat.le_of_ble_eq_true rfl⟩) ?_
              clear hz11
              refine W.lcmp hx hb dX8_hires_60 ?_
              refine lv_if_gt (tgt := 68) hx hb dX8_hires_61 (by decide) (fun c12 => ?_) (fun c12 => ?_)
              · have h := jt ((lg_cmp_gt _ _).mp c12) h
                refine lv_iload_n hx hb dX8_hires_68 rfl (lv_at hl 2 rfl) ?_
                obtain rfl := Option.some.inj h
                exact hk8 H locs hP hD hS ls (lv_sub hl [0, 1, 3] rfl)
              · have h := jf (fun e => c12 ((lg_cmp_gt _ _).mpr e)) h
                refine lv_iload_n hx hb dX8_hires_64 rfl (lv_at hl 3 rfl) ?_
                refine lv_goto (tgt := 69) hx hb dX8_hires_65 (by decide) ?_
                obtain rfl := Option.some.inj h
                exact hk8 H locs hP hD hS ls (lv_sub hl [0, 1, 3] rfl)
        exact hlp5 _ _ hz5 H locs hP hD hS ls (lv_sub hl [2, 3, 1, 0] rfl)
      · have h := jt c4 h
        refine lv_bipush (v := (-4 : Int32)) hx hb dX8_hires_24 (by decide) ?_
        exact W.iret hx hb hr (fun t ht _ => ⟨⟨_, _, rfl, Option.some.inj h, by rw [ht]; exact hP, hD⟩, hS.F ht⟩) hS.2.2 dX8_hires_26 hlocks
    · have h := jt c2 h
      refine lv_bipush (v := (-2 : Int32)) hx hb dX8_hires_13 (by decide) ?_
      exact W.iret hx hb hr (fun t ht _ => ⟨⟨_, _, rfl, Option.some.inj h, by rw [ht]; exact hP, hD⟩, hS.F ht⟩) hS.2.2 dX8_hires_15 hlocks
  exact key s.heap [] hP hD hS
theorem kw_X8_house_1 : (.fieldLink RX8 50 "BellTheCatModel" "thrown" "I" : Cond) ∈ wsX8_house := List.mem_of_getElem? (i := 1) rfl
theorem kw_X8_house_2 : (.fieldLink RX8 108 "BellTheCatModel" "faultAt" "I" : Cond) ∈ wsX8_house := List.mem_of_getElem? (i := 2) rfl
theorem kw_X8_house_3 : (.fieldLink RX8 13 "BellTheCatModel" "mice" "[I" : Cond) ∈ wsX8_house := List.mem_of_getElem? (i := 3) rfl
theorem kw_X8_house_4 : (.fieldLink RX8 16 "BellTheCatModel" "noise" "[I" : Cond) ∈ wsX8_house := List.mem_of_getElem? (i := 4) rfl
theorem kw_X8_house_5 : (.fieldLink RX8 19 "BellTheCatModel" "rats" "[I" : Cond) ∈ wsX8_house := List.mem_of_getElem? (i := 5) rfl
theorem kw_X8_house_6 : (.fieldLink RX8 22 "BellTheCatModel" "many" "[I" : Cond) ∈ wsX8_house := List.mem_of_getElem? (i := 6) rfl
theorem kw_X8_house_7 : (.fieldLink RX8 25 "BellTheCatModel" "s" "[I" : Cond) ∈ wsX8_house := List.mem_of_getElem? (i := 7) rfl
theorem kw_X8_house_8 : (.fieldLink RX8 58 "BellTheCatModel" "typed" "I" : Cond) ∈ wsX8_house := List.mem_of_getElem? (i := 8) rfl
theorem kw_X8_house_9 : (.fieldLink RX8 137 "BellTheCatModel" "undos" "I" : Cond) ∈ wsX8_house := List.mem_of_getElem? (i := 9) rfl
theorem kw_X8_house_10 : (.fieldLink RX8 140 "BellTheCatModel" "seenMany" "I" : Cond) ∈ wsX8_house := List.mem_of_getElem? (i := 10) rfl
theorem kw_X8_house_11 : (.fieldLink RX8 34 "BellTheCatModel" "isKept" "[Z" : Cond) ∈ wsX8_house := List.mem_of_getElem? (i := 11) rfl
theorem kw_X8_house_12 : (.fieldLink RX8 123 "BellTheCatModel" "clauses" "I" : Cond) ∈ wsX8_house := List.mem_of_getElem? (i := 12) rfl
theorem in_X8_house_X8 : ∀ w ∈ wsX80, w ∈ wsX8_house := fun w h => List.mem_cons_of_mem _ (List.mem_append_right _ h)
abbrev rm_X8_house : Room := { frames := 7, cells := 0, slots := 0, locals := 154 }
set_option maxHeartbeats 4000000 in
set_option maxRecDepth 100000 in
theorem c_X8_house (l : Launch) (D : va_G) (cyI cyZ cyT : ClassId) (qa : Nat → Nat) (sz : Nat) (N : Nat) (M : Mo) (o : (Int32 × Mo)) (hf : f_X8_house N M = some o) : Met l yX8_house wsX8_house rm_X8_house (va_Pc [.ref (qa 0)] (jM D cyI cyZ cyT (wM cyI cyZ qa M) sz)) (jQi D (va_A (wM cyI cyZ qa M) sz) (fun u : Mo => wM cyI cyZ qa u) o) 0 0 (va_A (wM cyI cyZ qa M) sz) := by
  refine Met.ofW (cc := cX8_house) (maxL := 2) (ret := (some .int)) (by decide) rfl ?_
  intro p e s m args below meth c s₁ B hml hv
  obtain ⟨rfl, hsz, hP, hK, hD0⟩ := hv
  have hx := B.exec
  have hb := B.bytes
  have hr := B.returns
  have hts := atoms_spec (ws := wsX8_house) B.pre
  have hown : s.vm.findClass RX8 = some m.cls := findClass_of_methodNamed B.named
  have hlocks := B.notSynchronized
  subst hsz
  have hD := hD0.self (sz := s.heap.size)
  generalize hAe : va_A (wM cyI cyZ qa M) s.heap.size = A at hD ⊢
  have hA : ∀ q : Nat, s.heap.size ≤ q → A q := fun q h => by rw [← hAe]; exact Or.inr h
  have hS : va_S A s.heap s.heap [] := va_S.rf
  have hl := lv_entry ([.ref (qa 0)]) (n := 2) (Nat.le_of_ble_eq_true rfl)
  rw [lg_entry_eq]
  generalize (lg_sl ([.ref (qa 0)]) ++ List.replicate (2 - (lg_sl ([.ref (qa 0)])).length) Slot.unset).toArray = ls at hl ⊢
  have hl : lv_has ls 2 [(0, .ref (qa 0))] := hl
  clear B
  generalize ([.ref (qa 0)] : List Value).toArray = args at hts ⊢
  have key : ∀ (H : Heap) (locs : List Loc), va_P D vwCl (wM cyI cyZ qa M) H → va_D A (wM cyI cyZ qa M) → va_S A s.heap H locs → W p l e rm_X8_house s m args below meth c H locs 0 0 (MQ below (jQi D A (fun u : Mo => wM cyI cyZ qa u) o) args s 0 0 A) (F0 m 0 ls []) := by
    intro H locs hP hD hS
    have h := hf
    unfold f_X8_house at h
    refine lv_aload_n hx hb dX8_house_0 rfl (lv_at hl 0 rfl) ?_
    refine lv_iconst (v := (0 : Int32)) hx hb dX8_house_1 (by decide) ?_
    refine va_put (D := D) (ci := 8) (v := .int (0 : Int32)) (ty := .int) (C := RX8) (T := TX8) (N := 24) hx hb hts in_X8_house_X8 tyX8 tyX8_ok nmX8 hown hK.1 hP hD hS 0 rfl rfl 0 (by decide) (hts _ kw_X8_house_1) (fun _ h9 => h9) rfl (tyX8_ok 0 (by decide)) rfl rfl (Nat.le_of_ble_eq_true rfl) dX8_house_2 (fun H locs hP hD hS => ?_)
    have hP : va_P D vwCl (wM cyI cyZ qa (M.1, va_up M.2 0 (0 : Int32))) H := hP
    have hD : va_D A (wM cyI cyZ qa (M.1, va_up M.2 0 (0 : Int32))) := hD
    refine lv_aload_n hx hb dX8_house_5 rfl (lv_at hl 0 rfl) ?_
    obtain ⟨z1, hz1, h⟩ := jb h
    refine jgv (w1 := fun u : Mo => wM cyI cyZ qa u) (wn := wM cyI cyZ qa z1) (jmV (As := []) (rest := []) ⟨hx, hb, hml, hown, hts⟩ (c_X8_reads l D cyI cyZ cyT qa H.size N (M.1, va_up M.2 0 (0 : Int32)) z1 hz1) (cwV 0 hts gX8_house_X8_reads rfl rfl rfl (by decide +kernel) ⟨Nat.le_of_ble_eq_true rfl, Nat.le_of_ble_eq_true rfl⟩) hK hP hD rfl 8 0 rfl rfl rfl hl.1 (Nat.le_of_ble_eq_true rfl) dX8_house_6 ⟨Nat.le_of_ble_eq_true rfl, Nat.le_of_ble_eq_true rfl⟩) hP hD hS hA [0, 1, 2, 3, 4, 5, 6, 7, 8, 9, 10, 11, 12, 13] [] [0, 1, 2, 3, 4, 5, 6, 7, 8, 9, 10, 11, 12, 13] rfl rfl (by decide) (by decide) rfl (by decide) (fun H locs hP hD hS => ?_)
    clear hz1
    refine lv_aload_n hx hb dX8_house_9 rfl (lv_at hl 0 rfl) ?_
    refine va_get (D := D) (ci := 8) (v := .int (z1.2 8)) (C := RX8) (T := TX8) (N := 24) hx hb hts in_X8_house_X8 hown hK.1 hP 0 rfl rfl 9 (by decide) (hts _ kw_X8_house_2) (fun _ h9 => h9) rfl dX8_house_10 ?_
    refine lv_iconst (v := (-1 : Int32)) hx hb dX8_house_13 (by decide) ?_
    refine lv_icmp_eq (tgt := 20) hx hb dX8_house_14 (by decide) (fun c2 => ?_) (fun c2 => ?_)
    · have h := jt c2 h
      refine lv_iconst (v := (0 : Int32)) hx hb dX8_house_20 (by decide) ?_
      refine lv_istore_n (lv' := [(1, .int (0 : Int32)), (0, .ref (qa 0))]) hx hb dX8_house_21 rfl hl (by decide) rfl (fun ls hl => ?_)
      obtain ⟨r3, hz3, h3_⟩ := jb h
      have hex3 : ∀ e3 : Mo, r3 = e3 → ∀ (H : Heap) (locs : List Loc), va_P D vwCl (wM cyI cyZ qa e3) H → va_D A (wM cyI cyZ qa e3) → va_S A s.heap H locs → ∀ (ls : Array Slot), lv_has ls 2 [(0, .ref (qa 0))] → W p l e rm_X8_house s m args below meth c H locs 0 0 (MQ below (jQi D A (fun u : Mo => wM cyI cyZ qa u) o) args s 0 0 A) (F0 m 49 ls []) := by
        intro e3 he H locs hP hD hS ls hl
        rw [he] at h3_
        have h := h3_
        clear hz3
        refine lv_iconst (v := (0 : Int32)) hx hb dX8_house_49 (by decide) ?_
        refine lv_istore_n (lv' := [(1, .int (0 : Int32)), (0, .ref (qa 0))]) hx hb dX8_house_50 rfl hl (by decide) rfl (fun ls hl => ?_)
        obtain ⟨r7, hz7, h7_⟩ := jb h
        have hex7 : ∀ e7 : Mo, r7 = e7 → ∀ (H : Heap) (locs : List Loc), va_P D vwCl (wM cyI cyZ qa e7) H → va_D A (wM cyI cyZ qa e7) → va_S A s.heap H locs → ∀ (ls : Array Slot), lv_has ls 2 [(0, .ref (qa 0))] → W p l e rm_X8_house s m args below meth c H locs 0 0 (MQ below (jQi D A (fun u : Mo => wM cyI cyZ qa u) o) args s 0 0 A) (F0 m 76 ls []) := by
          intro e7 he H locs hP hD hS ls hl
          rw [he] at h7_
          have h := h7_
          clear hz7
          refine lv_iconst (v := (0 : Int32)) hx hb dX8_house_76 (by decide) ?_
          refine lv_istore_n (lv' := [(1, .int (0 : Int32)), (0, .ref (qa 0))]) hx hb dX8_house_77 rfl hl (by decide) rfl (fun ls hl => ?_)
          obtain ⟨r11, hz11, h11_⟩ := jb h
          have hex11 : ∀ e11 : Mo, r11 = e11 → ∀ (H : Heap) (locs : List Loc), va_P D vwCl (wM cyI cyZ qa e11) H → va_D A (wM cyI cyZ qa e11) → va_S A s.heap H locs → ∀ (ls : Array Slot), lv_has ls 2 [(0, .ref (qa 0))] → W p l e rm_X8_house s m args below meth c H locs 0 0 (MQ below (jQi D A (fun u : Mo => wM cyI cyZ qa u) o) args s 0 0 A) (F0 m 105 ls []) := by
            intro e11 he H locs hP hD hS ls hl
            rw [he] at h11_
            have h := h11_
            clear hz11
            refine lv_iconst (v := (0 : Int32)) hx hb dX8_house_105 (by decide) ?_
            refine lv_istore_n (lv' := [(1, .int (0 : Int32)), (0, .ref (qa 0))]) hx hb dX8_house_106 rfl hl (by decide) rfl (fun ls hl => ?_)
            obtain ⟨r15, hz15, h15_⟩ := jb h
            have hex15 : ∀ e15 : Mo, r15 = e15 → ∀ (H : Heap) (locs : List Loc), va_P D vwCl (wM cyI cyZ qa e15) H → va_D A (wM cyI cyZ qa e15) → va_S A s.heap H locs → ∀ (ls : Array Slot), lv_has ls 2 [(0, .ref (qa 0))] → W p l e rm_X8_house s m args below meth c H locs 0 0 (MQ below (jQi D A (fun u : Mo => wM cyI cyZ qa u) o) args s 0 0 A) (F0 m 132 ls []) := by
              intro e15 he H locs hP hD hS ls hl
              rw [he] at h15_
              have h := h15_
              clear hz15
              refine lv_iconst (v := (0 : Int32)) hx hb dX8_house_132 (by decide) ?_
              refine lv_istore_n (lv' := [(1, .int (0 : Int32)), (0, .ref (qa 0))]) hx hb dX8_house_133 rfl hl (by decide) rfl (fun ls hl => ?_)
              obtain ⟨r19, hz19, h19_⟩ := jb h
              have hex19 : ∀ e19 : Mo, r19 = e19 → ∀ (H : Heap) (locs : List Loc), va_P D vwCl (wM cyI cyZ qa e19) H → va_D A (wM cyI cyZ qa e19) → va_S A s.heap H locs → ∀ (ls : Array Slot), lv_has ls 2 [(0, .ref (qa 0))] → W p l e rm_X8_house s m args below meth c H locs 0 0 (MQ below (jQi D A (fun u : Mo => wM cyI cyZ qa u) o) args s 0 0 A) (F0 m 153 ls []) := by
                intro e19 he H locs hP hD hS ls hl
                rw [he] at h19_
                have h := h19_
                clear hz19
                refine lv_aload_n hx hb dX8_house_153 rfl (lv_at hl 0 rfl) ?_
                refine va_get (D := D) (ci := 8) (v := .ref (qa 6)) (C := RX8) (T := TX8) (N := 24) hx hb hts in_X8_house_X8 hown hK.1 hP 0 rfl rfl 14 (by decide) (hts _ kw_X8_house_7) (fun _ h9 => h9) rfl dX8_house_154 ?_
                refine lv_iconst (v := (1 : Int32)) hx hb dX8_house_157 (by decide) ?_
                refine lv_iconst (v := (1 : Int32)) hx hb dX8_house_158 (by decide) ?_
                refine lv_aload_n hx hb dX8_house_159 rfl (lv_at hl 0 rfl) ?_
                refine va_get (D := D) (ci := 8) (v := .ref (qa 5)) (C := RX8) (T := TX8) (N := 24) hx hb hts in_X8_house_X8 hown hK.1 hP 0 rfl rfl 13 (by decide) (hts _ kw_X8_house_6) (fun _ h9 => h9) rfl dX8_house_160 ?_
                refine lv_iconst (v := (0 : Int32)) hx hb dX8_house_163 (by decide) ?_
                refine jald hx hb hK hP 5 rfl 0 (by decide) (by decide) dX8_house_164 ?_
                refine lv_ishl hx hb dX8_house_165 ?_
                refine lv_iconst (v := (1 : Int32)) hx hb dX8_house_166 (by decide) ?_
                refine lv_isub hx hb dX8_house_167 ?_
                refine jast (w' := wM cyI cyZ qa (va_up e19.1 5 (upd (e19.1 5) 1 (((1 : Int32) <<< ((e19.1 4 0) &&& 31)) - (1 : Int32))), e19.2)) hx hb hK hP hD hS 6 rfl 1 (by decide) (by decide) rfl dX8_house_168 (fun H locs hP hD hS => ?_)
                refine lv_aload_n hx hb dX8_house_169 rfl (lv_at hl 0 rfl) ?_
                refine lv_iconst (v := (0 : Int32)) hx hb dX8_house_170 (by decide) ?_
                refine va_put (D := D) (ci := 8) (v := .int (0 : Int32)) (ty := .int) (C := RX8) (T := TX8) (N := 24) hx hb hts in_X8_house_X8 tyX8 tyX8_ok nmX8 hown hK.1 hP hD hS 0 rfl rfl 2 (by decide) (hts _ kw_X8_house_8) (fun _ h9 => h9) rfl (tyX8_ok 2 (by decide)) rfl rfl (Nat.le_of_ble_eq_true rfl) dX8_house_171 (fun H locs hP hD hS => ?_)
                have hP : va_P D vwCl (wM cyI cyZ qa (va_up e19.1 5 (upd (e19.1 5) 1 (((1 : Int32) <<< ((e19.1 4 0) &&& 31)) - (1 : Int32))), va_up e19.2 1 (0 : Int32))) H := hP
                have hD : va_D A (wM cyI cyZ qa (va_up e19.1 5 (upd (e19.1 5) 1 (((1 : Int32) <<< ((e19.1 4 0) &&& 31)) - (1 : Int32))), va_up e19.2 1 (0 : Int32))) := hD
                refine lv_aload_n hx hb dX8_house_174 rfl (lv_at hl 0 rfl) ?_
                refine lv_iconst (v := (0 : Int32)) hx hb dX8_house_175 (by decide) ?_
                refine va_put (D := D) (ci := 8) (v := .int (0 : Int32)) (ty := .int) (C := RX8) (T := TX8) (N := 24) hx hb hts in_X8_house_X8 tyX8 tyX8_ok nmX8 hown hK.1 hP hD hS 0 rfl rfl 16 (by decide) (hts _ kw_X8_house_9) (fun _ h9 => h9) rfl (tyX8_ok 16 (by decide)) rfl rfl (Nat.le_of_ble_eq_true rfl) dX8_house_176 (fun H locs hP hD hS => ?_)
                have hP : va_P D vwCl (wM cyI cyZ qa (va_up e19.1 5 (upd (e19.1 5) 1 (((1 : Int32) <<< ((e19.1 4 0) &&& 31)) - (1 : Int32))), va_up (va_up e19.2 1 (0 : Int32)) 9 (0 : Int32))) H := hP
                have hD : va_D A (wM cyI cyZ qa (va_up e19.1 5 (upd (e19.1 5) 1 (((1 : Int32) <<< ((e19.1 4 0) &&& 31)) - (1 : Int32))), va_up (va_up e19.2 1 (0 : Int32)) 9 (0 : Int32))) := hD
                refine lv_aload_n hx hb dX8_house_179 rfl (lv_at hl 0 rfl) ?_
                refine lv_iconst (v := (0 : Int32)) hx hb dX8_house_180 (by decide) ?_
                refine va_put (D := D) (ci := 8) (v := .int (0 : Int32)) (ty := .int) (C := RX8) (T := TX8) (N := 24) hx hb hts in_X8_house_X8 tyX8 tyX8_ok nmX8 hown hK.1 hP hD hS 0 rfl rfl 21 (by decide) (hts _ kw_X8_house_10) (fun _ h9 => h9) rfl (tyX8_ok 21 (by decide)) rfl rfl (Nat.le_of_ble_eq_true rfl) dX8_house_181 (fun H locs hP hD hS => ?_)
                have hP : va_P D vwCl (wM cyI cyZ qa (va_up e19.1 5 (upd (e19.1 5) 1 (((1 : Int32) <<< ((e19.1 4 0) &&& 31)) - (1 : Int32))), va_up (va_up (va_up e19.2 1 (0 : Int32)) 9 (0 : Int32)) 10 (0 : Int32))) H := hP
                have hD : va_D A (wM cyI cyZ qa (va_up e19.1 5 (upd (e19.1 5) 1 (((1 : Int32) <<< ((e19.1 4 0) &&& 31)) - (1 : Int32))), va_up (va_up (va_up e19.2 1 (0 : Int32)) 9 (0 : Int32)) 10 (0 : Int32))) := hD
                refine lv_aload_n hx hb dX8_house_184 rfl (lv_at hl 0 rfl) ?_
                refine va_get (D := D) (ci := 8) (v := .ref (qa 9)) (C := RX8) (T := TX8) (N := 24) hx hb hts in_X8_house_X8 hown hK.1 hP 0 rfl rfl 18 (by decide) (hts _ kw_X8_house_11) (fun _ h9 => h9) rfl dX8_house_185 ?_
                refine lv_iconst (v := (0 : Int32)) hx hb dX8_house_188 (by decide) ?_
                refine lv_iconst (v := (0 : Int32)) hx hb dX8_house_189 (by decide) ?_
                refine jzst (w' := wM cyI cyZ qa (va_up (va_up e19.1 5 (upd (e19.1 5) 1 (((1 : Int32) <<< ((e19.1 4 0) &&& 31)) - (1 : Int32)))) 8 (upd (e19.1 8) 0 (0 : Int32)), va_up (va_up (va_up e19.2 1 (0 : Int32)) 9 (0 : Int32)) 10 (0 : Int32))) hx hb hK hP hD hS 9 rfl (by decide) 0 (by decide) (by decide) rfl dX8_house_190 (fun H locs hP hD hS => ?_)
                refine lv_aload_n hx hb dX8_house_191 rfl (lv_at hl 0 rfl) ?_
                refine va_get (D := D) (ci := 8) (v := .ref (qa 9)) (C := RX8) (T := TX8) (N := 24) hx hb hts in_X8_house_X8 hown hK.1 hP 0 rfl rfl 18 (by decide) (hts _ kw_X8_house_11) (fun _ h9 => h9) rfl dX8_house_192 ?_
                refine lv_iconst (v := (1 : Int32)) hx hb dX8_house_195 (by decide) ?_
                refine lv_iconst (v := (0 : Int32)) hx hb dX8_house_196 (by decide) ?_
                refine jzst (w' := wM cyI cyZ qa (va_up (va_up e19.1 5 (upd (e19.1 5) 1 (((1 : Int32) <<< ((e19.1 4 0) &&& 31)) - (1 : Int32)))) 8 (upd (upd (e19.1 8) 0 (0 : Int32)) 1 (0 : Int32)), va_up (va_up (va_up e19.2 1 (0 : Int32)) 9 (0 : Int32)) 10 (0 : Int32))) hx hb hK hP hD hS 9 rfl (by decide) 1 (by decide) (by decide) rfl dX8_house_197 (fun H locs hP hD hS => ?_)
                refine lv_aload_n hx hb dX8_house_198 rfl (lv_at hl 0 rfl) ?_
                refine va_get (D := D) (ci := 8) (v := .int (e19.2 7)) (C := RX8) (T := TX8) (N := 24) hx hb hts in_X8_house_X8 hown hK.1 hP 0 rfl rfl 8 (by decide) (hts _ kw_X8_house_12) (fun _ h9 => h9) rfl dX8_house_199 ?_
                exact W.iret hx hb hr (fun t ht _ => ⟨⟨_, _, rfl, Option.some.inj h, by rw [ht]; exact hP, hD⟩, hS.F ht⟩) hS.2.2 dX8_house_202 hlocks
              have hlp19 : ∀ (nn : Nat) (z19 : (Int32 × Mo)), jw (X8_house_s134) nn z19 = some r19 → ∀ (H : Heap) (locs : List Loc), va_P D vwCl (wM cyI cyZ qa z19.2) H → va_D A (wM cyI cyZ qa z19.2) → va_S A s.heap H locs → ∀ (ls : Array Slot), lv_has ls 2 [(0, .ref (qa 0)), (1, .int z19.1)] → W p l e rm_X8_house s m args below meth c H locs 0 0 (MQ below (jQi D A (fun u : Mo => wM cyI cyZ qa u) o) args s 0 0 A) (F0 m 134 ls []) := by
                refine jw_P (r := r19) (P := fun z19 : (Int32 × Mo) => ∀ (H : Heap) (locs : List Loc), va_P D vwCl (wM cyI cyZ qa z19.2) H → va_D A (wM cyI cyZ qa z19.2) → va_S A s.heap H locs → ∀ (ls : Array Slot), lv_has ls 2 [(0, .ref (qa 0)), (1, .int z19.1)] → W p l e rm_X8_house s m args below meth c H locs 0 0 (MQ below (jQi D A (fun u : Mo => wM cyI cyZ qa u) o) args s 0 0 A) (F0 m 134 ls [])) ?_
                intro z19 x19 h hin hout H locs hP hD hS ls hl
                unfold X8_house_s134 at h
                refine lv_iload_n hx hb dX8_house_134 rfl (lv_at hl 1 rfl) ?_
                refine lv_bipush (v := (8 : Int32)) hx hb dX8_house_135 (by decide) ?_
                refine lv_icmp_ge (tgt := 153) hx hb dX8_house_137 (by decide) (fun c20 => ?_) (fun c20 => ?_)
                · have h := jt c20 h
                  exact hex19 _ (hout _ (Option.some.inj h).symm).symm H locs hP hD hS ls (lv_sub hl [0] rfl)
                · have h := jf c20 h
                  refine lv_aload_n hx hb dX8_house_140 rfl (lv_at hl 0 rfl) ?_
                  refine va_get (D := D) (ci := 8) (v := .ref (qa 6)) (C := RX8) (T := TX8) (N := 24) hx hb hts in_X8_house_X8 hown hK.1 hP 0 rfl rfl 14 (by decide) (hts _ kw_X8_house_7) (fun _ h9 => h9) rfl dX8_house_141 ?_
                  refine lv_iload_n hx hb dX8_house_144 rfl (lv_at hl 1 rfl) ?_
                  refine lv_iconst (v := (0 : Int32)) hx hb dX8_house_145 (by decide) ?_
                  obtain ⟨g21, h⟩ := jn h
                  refine jast (w' := wM cyI cyZ qa (va_up z19.2.1 5 (upd (z19.2.1 5) z19.1.toNatClampNeg (0 : Int32)), z19.2.2)) hx hb hK hP hD hS 6 rfl _ rfl g21 rfl dX8_house_146 (fun H locs hP hD hS => ?_)
                  refine lv_iinc (v := z19.1 + (1 : Int32)) (lv' := [(1, .int (z19.1 + (1 : Int32))), (0, .ref (qa 0))]) hx hb dX8_house_147 hl (k := 1) rfl rfl (by decide) rfl (fun ls hl => ?_)
                  refine lv_goto (tgt := 134) hx hb dX8_house_150 (by decide) ?_
                  exact hin _ (Option.some.inj h).symm H locs hP hD hS ls (lv_sub hl [1, 0] rfl)
              exact hlp19 _ _ hz19 H locs hP hD hS ls (lv_sub hl [1, 0] rfl)
            have hlp15 : ∀ (nn : Nat) (z15 : (Int32 × Mo)), jw (X8_house_s107) nn z15 = some r15 → ∀ (H : Heap) (locs : List Loc), va_P D vwCl (wM cyI cyZ qa z15.2) H → va_D A (wM cyI cyZ qa z15.2) → va_S A s.heap H locs → ∀ (ls : Array Slot), lv_has ls 2 [(0, .ref (qa 0)), (1, .int z15.1)] → W p l e rm_X8_house s m args below meth c H locs 0 0 (MQ below (jQi D A (fun u : Mo => wM cyI cyZ qa u) o) args s 0 0 A) (F0 m 107 ls []) := by
              refine jw_P (r := r15) (P := fun z15 : (Int32 × Mo) => ∀ (H : Heap) (locs : List Loc), va_P D vwCl (wM cyI cyZ qa z15.2) H → va_D A (wM cyI cyZ qa z15.2) → va_S A s.heap H locs → ∀ (ls : Array Slot), lv_has ls 2 [(0, .ref (qa 0)), (1, .int z15.1)] → W p l e rm_X8_house s m args below meth c H locs 0 0 (MQ below (jQi D A (fun u : Mo => wM cyI cyZ qa u) o) args s 0 0 A) (F0 m 107 ls [])) ?_
              intro z15 x15 h hin hout H locs hP hD hS ls hl
              unfold X8_house_s107 at h
              refine lv_iload_n hx hb dX8_house_107 rfl (lv_at hl 1 rfl) ?_
              refine lv_iconst (v := (4 : Int32)) hx hb dX8_house_108 (by decide) ?_
              refine lv_icmp_ge (tgt := 132) hx hb dX8_house_109 (by decide) (fun c16 => ?_) (fun c16 => ?_)
              · have h := jt c16 h
                exact hex15 _ (hout _ (Option.some.inj h).symm).symm H locs hP hD hS ls (lv_sub hl [0] rfl)
              · have h := jf c16 h
                refine lv_aload_n hx hb dX8_house_112 rfl (lv_at hl 0 rfl) ?_
                refine va_get (D := D) (ci := 8) (v := .ref (qa 5)) (C := RX8) (T := TX8) (N := 24) hx hb hts in_X8_house_X8 hown hK.1 hP 0 rfl rfl 13 (by decide) (hts _ kw_X8_house_6) (fun _ h9 => h9) rfl dX8_house_113 ?_
                refine lv_iload_n hx hb dX8_house_116 rfl (lv_at hl 1 rfl) ?_
                refine lv_aload_n hx hb dX8_house_117 rfl (lv_at hl 0 rfl) ?_
                refine va_get (D := D) (ci := 8) (v := .ref (qa 5)) (C := RX8) (T := TX8) (N := 24) hx hb hts in_X8_house_X8 hown hK.1 hP 0 rfl rfl 13 (by decide) (hts _ kw_X8_house_6) (fun _ h9 => h9) rfl dX8_house_118 ?_
                refine lv_iconst (v := (4 : Int32)) hx hb dX8_house_121 (by decide) ?_
                refine lv_iload_n hx hb dX8_house_122 rfl (lv_at hl 1 rfl) ?_
                refine lv_iadd hx hb dX8_house_123 ?_
                obtain ⟨g17, h⟩ := jn h
                refine jald hx hb hK hP 5 rfl _ rfl g17 dX8_house_124 ?_
                obtain ⟨g18, h⟩ := jn h
                refine jast (w' := wM cyI cyZ qa (va_up z15.2.1 4 (upd (z15.2.1 4) z15.1.toNatClampNeg (z15.2.1 4 ((4 : Int32) + z15.1).toNatClampNeg)), z15.2.2)) hx hb hK hP hD hS 5 rfl _ rfl g18 rfl dX8_house_125 (fun H locs hP hD hS => ?_)
                refine lv_iinc (v := z15.1 + (1 : Int32)) (lv' := [(1, .int (z15.1 + (1 : Int32))), (0, .ref (qa 0))]) hx hb dX8_house_126 hl (k := 1) rfl rfl (by decide) rfl (fun ls hl => ?_)
                refine lv_goto (tgt := 107) hx hb dX8_house_129 (by decide) ?_
                exact hin _ (Option.some.inj h).symm H locs hP hD hS ls (lv_sub hl [1, 0] rfl)
            exact hlp15 _ _ hz15 H locs hP hD hS ls (lv_sub hl [1, 0] rfl)
          have hlp11 : ∀ (nn : Nat) (z11 : (Int32 × Mo)), jw (X8_house_s78) nn z11 = some r11 → ∀ (H : Heap) (locs : List Loc), va_P D vwCl (wM cyI cyZ qa z11.2) H → va_D A (wM cyI cyZ qa z11.2) → va_S A s.heap H locs → ∀ (ls : Array Slot), lv_has ls 2 [(0, .ref (qa 0)), (1, .int z11.1)] → W p l e rm_X8_house s m args below meth c H locs 0 0 (MQ below (jQi D A (fun u : Mo => wM cyI cyZ qa u) o) args s 0 0 A) (F0 m 78 ls []) := by
            refine jw_P (r := r11) (P := fun z11 : (Int32 × Mo) => ∀ (H : Heap) (locs : List Loc), va_P D vwCl (wM cyI cyZ qa z11.2) H → va_D A (wM cyI cyZ qa z11.2) → va_S A s.heap H locs → ∀ (ls : Array Slot), lv_has ls 2 [(0, .ref (qa 0)), (1, .int z11.1)] → W p l e rm_X8_house s m args below meth c H locs 0 0 (MQ below (jQi D A (fun u : Mo => wM cyI cyZ qa u) o) args s 0 0 A) (F0 m 78 ls [])) ?_
            intro z11 x11 h hin hout H locs hP hD hS ls hl
            unfold X8_house_s78 at h
            refine lv_iload_n hx hb dX8_house_78 rfl (lv_at hl 1 rfl) ?_
            refine lv_bipush (v := (12 : Int32)) hx hb dX8_house_79 (by decide) ?_
            refine lv_icmp_ge (tgt := 105) hx hb dX8_house_81 (by decide) (fun c12 => ?_) (fun c12 => ?_)
            · have h := jt c12 h
              exact hex11 _ (hout _ (Option.some.inj h).symm).symm H locs hP hD hS ls (lv_sub hl [0] rfl)
            · have h := jf c12 h
              refine lv_aload_n hx hb dX8_house_84 rfl (lv_at hl 0 rfl) ?_
              refine va_get (D := D) (ci := 8) (v := .ref (qa 4)) (C := RX8) (T := TX8) (N := 24) hx hb hts in_X8_house_X8 hown hK.1 hP 0 rfl rfl 12 (by decide) (hts _ kw_X8_house_5) (fun _ h9 => h9) rfl dX8_house_85 ?_
              refine lv_iload_n hx hb dX8_house_88 rfl (lv_at hl 1 rfl) ?_
              refine lv_aload_n hx hb dX8_house_89 rfl (lv_at hl 0 rfl) ?_
              refine va_get (D := D) (ci := 8) (v := .ref (qa 4)) (C := RX8) (T := TX8) (N := 24) hx hb hts in_X8_house_X8 hown hK.1 hP 0 rfl rfl 12 (by decide) (hts _ kw_X8_house_5) (fun _ h9 => h9) rfl dX8_house_90 ?_
              refine lv_bipush (v := (12 : Int32)) hx hb dX8_house_93 (by decide) ?_
              refine lv_iload_n hx hb dX8_house_95 rfl (lv_at hl 1 rfl) ?_
              refine lv_iadd hx hb dX8_house_96 ?_
              obtain ⟨g13, h⟩ := jn h
              refine jald hx hb hK hP 4 rfl _ rfl g13 dX8_house_97 ?_
              obtain ⟨g14, h⟩ := jn h
              refine jast (w' := wM cyI cyZ qa (va_up z11.2.1 3 (upd (z11.2.1 3) z11.1.toNatClampNeg (z11.2.1 3 ((12 : Int32) + z11.1).toNatClampNeg)), z11.2.2)) hx hb hK hP hD hS 4 rfl _ rfl g14 rfl dX8_house_98 (fun H locs hP hD hS => ?_)
              refine lv_iinc (v := z11.1 + (1 : Int32)) (lv' := [(1, .int (z11.1 + (1 : Int32))), (0, .ref (qa 0))]) hx hb dX8_house_99 hl (k := 1) rfl rfl (by decide) rfl (fun ls hl => ?_)
              refine lv_goto (tgt := 78) hx hb dX8_house_102 (by decide) ?_
              exact hin _ (Option.some.inj h).symm H locs hP hD hS ls (lv_sub hl [1, 0] rfl)
          exact hlp11 _ _ hz11 H locs hP hD hS ls (lv_sub hl [1, 0] rfl)
        have hlp7 : ∀ (nn : Nat) (z7 : (Int32 × Mo)), jw (X8_house_s51) nn z7 = some r7 → ∀ (H : Heap) (locs : List Loc), va_P D vwCl (wM cyI cyZ qa z7.2) H → va_D A (wM cyI cyZ qa z7.2) → va_S A s.heap H locs → ∀ (ls : Array Slot), lv_has ls 2 [(0, .ref (qa 0)), (1, .int z7.1)] → W p l e rm_X8_house s m args below meth c H locs 0 0 (MQ below (jQi D A (fun u : Mo => wM cyI cyZ qa u) o) args s 0 0 A) (F0 m 51 ls []) := by
          refine jw_P (r := r7) (P := fun z7 : (Int32 × Mo) => ∀ (H : Heap) (locs : List Loc), va_P D vwCl (wM cyI cyZ qa z7.2) H → va_D A (wM cyI cyZ qa z7.2) → va_S A s.heap H locs → ∀ (ls : Array Slot), lv_has ls 2 [(0, .ref (qa 0)), (1, .int z7.1)] → W p l e rm_X8_house s m args below meth c H locs 0 0 (MQ below (jQi D A (fun u : Mo => wM cyI cyZ qa u) o) args s 0 0 A) (F0 m 51 ls [])) ?_
          intro z7 x7 h hin hout H locs hP hD hS ls hl
          unfold X8_house_s51 at h
          refine lv_iload_n hx hb dX8_house_51 rfl (lv_at hl 1 rfl) ?_
          refine lv_iconst (v := (5 : Int32)) hx hb dX8_house_52 (by decide) ?_
          refine lv_icmp_ge (tgt := 76) hx hb dX8_house_53 (by decide) (fun c8 => ?_) (fun c8 => ?_)
          · have h := jt c8 h
            exact hex7 _ (hout _ (Option.some.inj h).symm).symm H locs hP hD hS ls (lv_sub hl [0] rfl)
          · have h := jf c8 h
            refine lv_aload_n hx hb dX8_house_56 rfl (lv_at hl 0 rfl) ?_
            refine va_get (D := D) (ci := 8) (v := .ref (qa 3)) (C := RX8) (T := TX8) (N := 24) hx hb hts in_X8_house_X8 hown hK.1 hP 0 rfl rfl 11 (by decide) (hts _ kw_X8_house_4) (fun _ h9 => h9) rfl dX8_house_57 ?_
            refine lv_iload_n hx hb dX8_house_60 rfl (lv_at hl 1 rfl) ?_
            refine lv_aload_n hx hb dX8_house_61 rfl (lv_at hl 0 rfl) ?_
            refine va_get (D := D) (ci := 8) (v := .ref (qa 3)) (C := RX8) (T := TX8) (N := 24) hx hb hts in_X8_house_X8 hown hK.1 hP 0 rfl rfl 11 (by decide) (hts _ kw_X8_house_4) (fun _ h9 => h9) rfl dX8_house_62 ?_
            refine lv_iconst (v := (5 : Int32)) hx hb dX8_house_65 (by decide) ?_
            refine lv_iload_n hx hb dX8_house_66 rfl (lv_at hl 1 rfl) ?_
            refine lv_iadd hx hb dX8_house_67 ?_
            obtain ⟨g9, h⟩ := jn h
            refine jald hx hb hK hP 3 rfl _ rfl g9 dX8_house_68 ?_
            obtain ⟨g10, h⟩ := jn h
            refine jast (w' := wM cyI cyZ qa (va_up z7.2.1 2 (upd (z7.2.1 2) z7.1.toNatClampNeg (z7.2.1 2 ((5 : Int32) + z7.1).toNatClampNeg)), z7.2.2)) hx hb hK hP hD hS 3 rfl _ rfl g10 rfl dX8_house_69 (fun H locs hP hD hS => ?_)
            refine lv_iinc (v := z7.1 + (1 : Int32)) (lv' := [(1, .int (z7.1 + (1 : Int32))), (0, .ref (qa 0))]) hx hb dX8_house_70 hl (k := 1) rfl rfl (by decide) rfl (fun ls hl => ?_)
            refine lv_goto (tgt := 51) hx hb dX8_house_73 (by decide) ?_
            exact hin _ (Option.some.inj h).symm H locs hP hD hS ls (lv_sub hl [1, 0] rfl)
        exact hlp7 _ _ hz7 H locs hP hD hS ls (lv_sub hl [1, 0] rfl)
      have hlp3 : ∀ (nn : Nat) (z3 : (Int32 × Mo)), jw (X8_house_s22) nn z3 = some r3 → ∀ (H : Heap) (locs : List Loc), va_P D vwCl (wM cyI cyZ qa z3.2) H → va_D A (wM cyI cyZ qa z3.2) → va_S A s.heap H locs → ∀ (ls : Array Slot), lv_has ls 2 [(0, .ref (qa 0)), (1, .int z3.1)] → W p l e rm_X8_house s m args below meth c H locs 0 0 (MQ below (jQi D A (fun u : Mo => wM cyI cyZ qa u) o) args s 0 0 A) (F0 m 22 ls []) := by
        refine jw_P (r := r3) (P := fun z3 : (Int32 × Mo) => ∀ (H : Heap) (locs : List Loc), va_P D vwCl (wM cyI cyZ qa z3.2) H → va_D A (wM cyI cyZ qa z3.2) → va_S A s.heap H locs → ∀ (ls : Array Slot), lv_has ls 2 [(0, .ref (qa 0)), (1, .int z3.1)] → W p l e rm_X8_house s m args below meth c H locs 0 0 (MQ below (jQi D A (fun u : Mo => wM cyI cyZ qa u) o) args s 0 0 A) (F0 m 22 ls [])) ?_
        intro z3 x3 h hin hout H locs hP hD hS ls hl
        unfold X8_house_s22 at h
        refine lv_iload_n hx hb dX8_house_22 rfl (lv_at hl 1 rfl) ?_
        refine lv_bipush (v := (24 : Int32)) hx hb dX8_house_23 (by decide) ?_
        refine lv_icmp_ge (tgt := 49) hx hb dX8_house_25 (by decide) (fun c4 => ?_) (fun c4 => ?_)
        · have h := jt c4 h
          exact hex3 _ (hout _ (Option.some.inj h).symm).symm H locs hP hD hS ls (lv_sub hl [0] rfl)
        · have h := jf c4 h
          refine lv_aload_n hx hb dX8_house_28 rfl (lv_at hl 0 rfl) ?_
          refine va_get (D := D) (ci := 8) (v := .ref (qa 2)) (C := RX8) (T := TX8) (N := 24) hx hb hts in_X8_house_X8 hown hK.1 hP 0 rfl rfl 10 (by decide) (hts _ kw_X8_house_3) (fun _ h9 => h9) rfl dX8_house_29 ?_
          refine lv_iload_n hx hb dX8_house_32 rfl (lv_at hl 1 rfl) ?_
          refine lv_aload_n hx hb dX8_house_33 rfl (lv_at hl 0 rfl) ?_
          refine va_get (D := D) (ci := 8) (v := .ref (qa 2)) (C := RX8) (T := TX8) (N := 24) hx hb hts in_X8_house_X8 hown hK.1 hP 0 rfl rfl 10 (by decide) (hts _ kw_X8_house_3) (fun _ h9 => h9) rfl dX8_house_34 ?_
          refine lv_bipush (v := (24 : Int32)) hx hb dX8_house_37 (by decide) ?_
          refine lv_iload_n hx hb dX8_house_39 rfl (lv_at hl 1 rfl) ?_
          refine lv_iadd hx hb dX8_house_40 ?_
          obtain ⟨g5, h⟩ := jn h
          refine jald hx hb hK hP 2 rfl _ rfl g5 dX8_house_41 ?_
          obtain ⟨g6, h⟩ := jn h
          refine jast (w' := wM cyI cyZ qa (va_up z3.2.1 1 (upd (z3.2.1 1) z3.1.toNatClampNeg (z3.2.1 1 ((24 : Int32) + z3.1).toNatClampNeg)), z3.2.2)) hx hb hK hP hD hS 2 rfl _ rfl g6 rfl dX8_house_42 (fun H locs hP hD hS => ?_)
          refine lv_iinc (v := z3.1 + (1 : Int32)) (lv' := [(1, .int (z3.1 + (1 : Int32))), (0, .ref (qa 0))]) hx hb dX8_house_43 hl (k := 1) rfl rfl (by decide) rfl (fun ls hl => ?_)
          refine lv_goto (tgt := 22) hx hb dX8_house_46 (by decide) ?_
          exact hin _ (Option.some.inj h).symm H locs hP hD hS ls (lv_sub hl [1, 0] rfl)
      exact hlp3 _ _ hz3 H locs hP hD hS ls (lv_sub hl [1, 0] rfl)
    · have h := jf c2 h
      refine lv_bipush (v := (-4 : Int32)) hx hb dX8_house_17 (by decide) ?_
      exact W.iret hx hb hr (fun t ht _ => ⟨⟨_, _, rfl, Option.some.inj h, by rw [ht]; exact hP, hD⟩, hS.F ht⟩) hS.2.2 dX8_house_19 hlocks
  exact key s.heap [] hP hD hS
theorem kw_X8_keep_1 : (.fieldLink RX8 50 "BellTheCatModel" "thrown" "I" : Cond) ∈ wsX8_keep := List.mem_of_getElem? (i := 1) rfl
theorem kw_X8_keep_2 : (.fieldLink RX8 31 "BellTheCatModel" "kept" "[I" : Cond) ∈ wsX8_keep := List.mem_of_getElem? (i := 2) rfl
theorem kw_X8_keep_3 : (.fieldLink RX8 25 "BellTheCatModel" "s" "[I" : Cond) ∈ wsX8_keep := List.mem_of_getElem? (i := 3) rfl
theorem kw_X8_keep_4 : (.fieldLink RX8 34 "BellTheCatModel" "isKept" "[Z" : Cond) ∈ wsX8_keep := List.mem_of_getElem? (i := 4) rfl
theorem in_X8_keep_X8 : ∀ w ∈ wsX80, w ∈ wsX8_keep := fun w h => List.mem_cons_of_mem _ (List.mem_append_right _ h)
abbrev rm_X8_keep : Room := { frames := 1, cells := 0, slots := 0, locals := 22 }
set_option maxHeartbeats 4000000 in
set_option maxRecDepth 100000 in
theorem c_X8_keep (l : Launch) (D : va_G) (cyI cyZ cyT : ClassId) (qa : Nat → Nat) (sz : Nat) (N : Nat) (a1 : Int32) (M : Mo) (o : (Int32 × Mo)) (hf : f_X8_keep N a1 M = some o) : Met l yX8_keep wsX8_keep rm_X8_keep (va_Pc [.ref (qa 0), .int a1] (jM D cyI cyZ cyT (wM cyI cyZ qa M) sz)) (jQi D (va_A (wM cyI cyZ qa M) sz) (fun u : Mo => wM cyI cyZ qa u) o) 0 0 (va_A (wM cyI cyZ qa M) sz) := by
  refine Met.ofW (cc := cX8_keep) (maxL := 3) (ret := (some .int)) (by decide) rfl ?_
  intro p e s m args below meth c s₁ B hml hv
  obtain ⟨rfl, hsz, hP, hK, hD0⟩ := hv
  have hx := B.exec
  have hb := B.bytes
  have hr := B.returns
  have hts := atoms_spec (ws := wsX8_keep) B.pre
  have hown : s.vm.findClass RX8 = some m.cls := findClass_of_methodNamed B.named
  have hlocks := B.notSynchronized
  subst hsz
  have hD := hD0.self (sz := s.heap.size)
  generalize hAe : va_A (wM cyI cyZ qa M) s.heap.size = A at hD ⊢
  have hA : ∀ q : Nat, s.heap.size ≤ q → A q := fun q h => by rw [← hAe]; exact Or.inr h
  have hS : va_S A s.heap s.heap [] := va_S.rf
  have hl := lv_entry ([.ref (qa 0), .int a1]) (n := 3) (Nat.le_of_ble_eq_true rfl)
  rw [lg_entry_eq]
  generalize (lg_sl ([.ref (qa 0), .int a1]) ++ List.replicate (3 - (lg_sl ([.ref (qa 0), .int a1])).length) Slot.unset).toArray = ls at hl ⊢
  have hl : lv_has ls 3 [(0, .ref (qa 0)), (1, .int a1)] := hl
  clear B
  generalize ([.ref (qa 0), .int a1] : List Value).toArray = args at hts ⊢
  have key : ∀ (H : Heap) (locs : List Loc), va_P D vwCl (wM cyI cyZ qa M) H → va_D A (wM cyI cyZ qa M) → va_S A s.heap H locs → W p l e rm_X8_keep s m args below meth c H locs 0 0 (MQ below (jQi D A (fun u : Mo => wM cyI cyZ qa u) o) args s 0 0 A) (F0 m 0 ls []) := by
    intro H locs hP hD hS
    have h := hf
    unfold f_X8_keep at h
    refine lv_aload_n hx hb dX8_keep_0 rfl (lv_at hl 0 rfl) ?_
    refine lv_iconst (v := (0 : Int32)) hx hb dX8_keep_1 (by decide) ?_
    refine va_put (D := D) (ci := 8) (v := .int (0 : Int32)) (ty := .int) (C := RX8) (T := TX8) (N := 24) hx hb hts in_X8_keep_X8 tyX8 tyX8_ok nmX8 hown hK.1 hP hD hS 0 rfl rfl 0 (by decide) (hts _ kw_X8_keep_1) (fun _ h9 => h9) rfl (tyX8_ok 0 (by decide)) rfl rfl (Nat.le_of_ble_eq_true rfl) dX8_keep_2 (fun H locs hP hD hS => ?_)
    have hP : va_P D vwCl (wM cyI cyZ qa (M.1, va_up M.2 0 (0 : Int32))) H := hP
    have hD : va_D A (wM cyI cyZ qa (M.1, va_up M.2 0 (0 : Int32))) := hD
    refine lv_iload_n hx hb dX8_keep_5 rfl (lv_at hl 1 rfl) ?_
    refine lv_iconst (v := (0 : Int32)) hx hb dX8_keep_6 (by decide) ?_
    refine lv_iconst (v := (1 : Int32)) hx hb dX8_keep_7 (by decide) ?_
    obtain ⟨z1, hz1, h⟩ := jb h
    refine jki (jrS (As := [.int a1, .int (0 : Int32), .int (1 : Int32)]) (rest := []) ⟨hx, hb, hml, hown, hts⟩ (c_X8_in l D cyI cyZ cyT   a1 (0 : Int32) (1 : Int32) z1 hz1) (va_cwS 3 hts gX8_keep_X8_in rfl rfl rfl (by decide +kernel) ⟨Nat.le_of_ble_eq_true rfl, Nat.le_of_ble_eq_true rfl⟩) hK jP0 rfl rfl hl.1 (Nat.le_of_ble_eq_true rfl) dX8_keep_8 ⟨Nat.le_of_ble_eq_true rfl, Nat.le_of_ble_eq_true rfl⟩) ?_
    clear hz1
    refine lv_if_ne (tgt := 17) hx hb dX8_keep_11 (by decide) (fun c2 => ?_) (fun c2 => ?_)
    · have h := jf c2 h
      refine lv_iconst (v := (0 : Int32)) hx hb dX8_keep_17 (by decide) ?_
      refine lv_istore_n (lv' := [(2, .int (0 : Int32)), (0, .ref (qa 0)), (1, .int a1)]) hx hb dX8_keep_18 rfl hl (by decide) rfl (fun ls hl => ?_)
      obtain ⟨r3, hz3, h3_⟩ := jb h
      have hex3 : ∀ e3 : Mo, r3 = e3 → ∀ (H : Heap) (locs : List Loc), va_P D vwCl (wM cyI cyZ qa e3) H → va_D A (wM cyI cyZ qa e3) → va_S A s.heap H locs → ∀ (ls : Array Slot), lv_has ls 3 [(0, .ref (qa 0)), (1, .int a1)] → W p l e rm_X8_keep s m args below meth c H locs 0 0 (MQ below (jQi D A (fun u : Mo => wM cyI cyZ qa u) o) args s 0 0 A) (F0 m 48 ls []) := by
        intro e3 he H locs hP hD hS ls hl
        rw [he] at h3_
        have h := h3_
        clear hz3
        refine lv_aload_n hx hb dX8_keep_48 rfl (lv_at hl 0 rfl) ?_
        refine va_get (D := D) (ci := 8) (v := .ref (qa 9)) (C := RX8) (T := TX8) (N := 24) hx hb hts in_X8_keep_X8 hown hK.1 hP 0 rfl rfl 18 (by decide) (hts _ kw_X8_keep_4) (fun _ h9 => h9) rfl dX8_keep_49 ?_
        refine lv_iload_n hx hb dX8_keep_52 rfl (lv_at hl 1 rfl) ?_
        refine lv_iconst (v := (1 : Int32)) hx hb dX8_keep_53 (by decide) ?_
        obtain ⟨g7, h⟩ := jn h
        refine jzst (w' := wM cyI cyZ qa (va_up e3.1 8 (upd (e3.1 8) a1.toNatClampNeg (1 : Int32)), e3.2)) hx hb hK hP hD hS 9 rfl (by decide) _ rfl g7 rfl dX8_keep_54 (fun H locs hP hD hS => ?_)
        refine lv_aload_n hx hb dX8_keep_55 rfl (lv_at hl 0 rfl) ?_
        refine va_get (D := D) (ci := 8) (v := .ref (qa 6)) (C := RX8) (T := TX8) (N := 24) hx hb hts in_X8_keep_X8 hown hK.1 hP 0 rfl rfl 14 (by decide) (hts _ kw_X8_keep_3) (fun _ h9 => h9) rfl dX8_keep_56 ?_
        refine lv_iconst (v := (0 : Int32)) hx hb dX8_keep_59 (by decide) ?_
        refine jald hx hb hK hP 6 rfl 0 (by decide) (by decide) dX8_keep_60 ?_
        exact W.iret hx hb hr (fun t ht _ => ⟨⟨_, _, rfl, Option.some.inj h, by rw [ht]; exact hP, hD⟩, hS.F ht⟩) hS.2.2 dX8_keep_61 hlocks
      have hlp3 : ∀ (nn : Nat) (z3 : (Int32 × Mo)), jw (X8_keep_s19 a1) nn z3 = some r3 → ∀ (H : Heap) (locs : List Loc), va_P D vwCl (wM cyI cyZ qa z3.2) H → va_D A (wM cyI cyZ qa z3.2) → va_S A s.heap H locs → ∀ (ls : Array Slot), lv_has ls 3 [(0, .ref (qa 0)), (1, .int a1), (2, .int z3.1)] → W p l e rm_X8_keep s m args below meth c H locs 0 0 (MQ below (jQi D A (fun u : Mo => wM cyI cyZ qa u) o) args s 0 0 A) (F0 m 19 ls []) := by
        refine jw_P (r := r3) (P := fun z3 : (Int32 × Mo) => ∀ (H : Heap) (locs : List Loc), va_P D vwCl (wM cyI cyZ qa z3.2) H → va_D A (wM cyI cyZ qa z3.2) → va_S A s.heap H locs → ∀ (ls : Array Slot), lv_has ls 3 [(0, .ref (qa 0)), (1, .int a1), (2, .int z3.1)] → W p l e rm_X8_keep s m args below meth c H locs 0 0 (MQ below (jQi D A (fun u : Mo => wM cyI cyZ qa u) o) args s 0 0 A) (F0 m 19 ls [])) ?_
        intro z3 x3 h hin hout H locs hP hD hS ls hl
        unfold X8_keep_s19 at h
        refine lv_iload_n hx hb dX8_keep_19 rfl (lv_at hl 2 rfl) ?_
        refine lv_bipush (v := (8 : Int32)) hx hb dX8_keep_20 (by decide) ?_
        refine lv_icmp_ge (tgt := 48) hx hb dX8_keep_22 (by decide) (fun c4 => ?_) (fun c4 => ?_)
        · have h := jt c4 h
          exact hex3 _ (hout _ (Option.some.inj h).symm).symm H locs hP hD hS ls (lv_sub hl [0, 1] rfl)
        · have h := jf c4 h
          refine lv_aload_n hx hb dX8_keep_25 rfl (lv_at hl 0 rfl) ?_
          refine va_get (D := D) (ci := 8) (v := .ref (qa 8)) (C := RX8) (T := TX8) (N := 24) hx hb hts in_X8_keep_X8 hown hK.1 hP 0 rfl rfl 17 (by decide) (hts _ kw_X8_keep_2) (fun _ h9 => h9) rfl dX8_keep_26 ?_
          refine lv_bipush (v := (8 : Int32)) hx hb dX8_keep_29 (by decide) ?_
          refine lv_iload_n hx hb dX8_keep_31 rfl (lv_at hl 1 rfl) ?_
          refine lv_imul hx hb dX8_keep_32 ?_
          refine lv_iload_n hx hb dX8_keep_33 rfl (lv_at hl 2 rfl) ?_
          refine lv_iadd hx hb dX8_keep_34 ?_
          refine lv_aload_n hx hb dX8_keep_35 rfl (lv_at hl 0 rfl) ?_
          refine va_get (D := D) (ci := 8) (v := .ref (qa 6)) (C := RX8) (T := TX8) (N := 24) hx hb hts in_X8_keep_X8 hown hK.1 hP 0 rfl rfl 14 (by decide) (hts _ kw_X8_keep_3) (fun _ h9 => h9) rfl dX8_keep_36 ?_
          refine lv_iload_n hx hb dX8_keep_39 rfl (lv_at hl 2 rfl) ?_
          obtain ⟨g5, h⟩ := jn h
          refine jald hx hb hK hP 6 rfl _ rfl g5 dX8_keep_40 ?_
          obtain ⟨g6, h⟩ := jn h
          refine jast (w' := wM cyI cyZ qa (va_up z3.2.1 7 (upd (z3.2.1 7) (((8 : Int32) * a1) + z3.1).toNatClampNeg (z3.2.1 5 z3.1.toNatClampNeg)), z3.2.2)) hx hb hK hP hD hS 8 rfl _ rfl g6 rfl dX8_keep_41 (fun H locs hP hD hS => ?_)
          refine lv_iinc (v := z3.1 + (1 : Int32)) (lv' := [(2, .int (z3.1 + (1 : Int32))), (0, .ref (qa 0)), (1, .int a1)]) hx hb dX8_keep_42 hl (k := 2) rfl rfl (by decide) rfl (fun ls hl => ?_)
          refine lv_goto (tgt := 19) hx hb dX8_keep_45 (by decide) ?_
          exact hin _ (Option.some.inj h).symm H locs hP hD hS ls (lv_sub hl [1, 2, 0] rfl)
      exact hlp3 _ _ hz3 H locs hP hD hS ls (lv_sub hl [1, 2, 0] rfl)
    · have h := jt c2 h
      refine lv_bipush (v := (-2 : Int32)) hx hb dX8_keep_14 (by decide) ?_
      exact W.iret hx hb hr (fun t ht _ => ⟨⟨_, _, rfl, Option.some.inj h, by rw [ht]; exact hP, hD⟩, hS.F ht⟩) hS.2.2 dX8_keep_16 hlocks
  exact key s.heap [] hP hD hS
theorem kw_X8_loss_1 : (.fieldLink RX8 50 "BellTheCatModel" "thrown" "I" : Cond) ∈ wsX8_loss := List.mem_of_getElem? (i := 1) rfl
theorem kw_X8_loss_2 : (.fieldLink RX8 22 "BellTheCatModel" "many" "[I" : Cond) ∈ wsX8_loss := List.mem_of_getElem? (i := 2) rfl
theorem kw_X8_loss_3 : (.fieldLink RX8 25 "BellTheCatModel" "s" "[I" : Cond) ∈ wsX8_loss := List.mem_of_getElem? (i := 3) rfl
theorem kw_X8_loss_4 : (.fieldLink RX8 13 "BellTheCatModel" "mice" "[I" : Cond) ∈ wsX8_loss := List.mem_of_getElem? (i := 4) rfl
theorem kw_X8_loss_5 : (.constantLong RX8 175 (10) : Cond) ∈ wsX8_loss := List.mem_of_getElem? (i := 5) rfl
theorem in_X8_loss_X8 : ∀ w ∈ wsX80, w ∈ wsX8_loss := fun w h => List.mem_cons_of_mem _ (List.mem_append_right _ h)
abbrev rm_X8_loss : Room := { frames := 3, cells := 0, slots := 0, locals := 69 }
set_option maxHeartbeats 4000000 in
set_option maxRecDepth 100000 in
theorem c_X8_loss (l : Launch) (D : va_G) (cyI cyZ cyT : ClassId) (qa : Nat → Nat) (sz : Nat) (N : Nat) (a1 : Int32) (M : Mo) (o : (Int32 × Mo)) (hf : f_X8_loss N a1 M = some o) : Met l yX8_loss wsX8_loss rm_X8_loss (va_Pc [.ref (qa 0), .int a1] (jM D cyI cyZ cyT (wM cyI cyZ qa M) sz)) (jQi D (va_A (wM cyI cyZ qa M) sz) (fun u : Mo => wM cyI cyZ qa u) o) 0 0 (va_A (wM cyI cyZ qa M) sz) := by
  refine Met.ofW (cc := cX8_loss) (maxL := 6) (ret := (some .int)) (by decide) rfl ?_
  intro p e s m args below meth c s₁ B hml hv
  obtain ⟨rfl, hsz, hP, hK, hD0⟩ := hv
  have hx := B.exec
  have hb := B.bytes
  have hr := B.returns
  have hts := atoms_spec (ws := wsX8_loss) B.pre
  have hown : s.vm.findClass RX8 = some m.cls := findClass_of_methodNamed B.named
  have hlocks := B.notSynchronized
  subst hsz
  have hD := hD0.self (sz := s.heap.size)
  generalize hAe : va_A (wM cyI cyZ qa M) s.heap.size = A at hD ⊢
  have hA : ∀ q : Nat, s.heap.size ≤ q → A q := fun q h => by rw [← hAe]; exact Or.inr h
  have hS : va_S A s.heap s.heap [] := va_S.rf
  have hl := lv_entry ([.ref (qa 0), .int a1]) (n := 6) (Nat.le_of_ble_eq_true rfl)
  rw [lg_entry_eq]
  generalize (lg_sl ([.ref (qa 0), .int a1]) ++ List.replicate (6 - (lg_sl ([.ref (qa 0), .int a1])).length) Slot.unset).toArray = ls at hl ⊢
  have hl : lv_has ls 6 [(0, .ref (qa 0)), (1, .int a1)] := hl
  clear B
  generalize ([.ref (qa 0), .int a1] : List Value).toArray = args at hts ⊢
  have key : ∀ (H : Heap) (locs : List Loc), va_P D vwCl (wM cyI cyZ qa M) H → va_D A (wM cyI cyZ qa M) → va_S A s.heap H locs → W p l e rm_X8_loss s m args below meth c H locs 0 0 (MQ below (jQi D A (fun u : Mo => wM cyI cyZ qa u) o) args s 0 0 A) (F0 m 0 ls []) := by
    intro H locs hP hD hS
    have h := hf
    unfold f_X8_loss at h
    refine lv_aload_n hx hb dX8_loss_0 rfl (lv_at hl 0 rfl) ?_
    refine lv_iconst (v := (0 : Int32)) hx hb dX8_loss_1 (by decide) ?_
    refine va_put (D := D) (ci := 8) (v := .int (0 : Int32)) (ty := .int) (C := RX8) (T := TX8) (N := 24) hx hb hts in_X8_loss_X8 tyX8 tyX8_ok nmX8 hown hK.1 hP hD hS 0 rfl rfl 0 (by decide) (hts _ kw_X8_loss_1) (fun _ h9 => h9) rfl (tyX8_ok 0 (by decide)) rfl rfl (Nat.le_of_ble_eq_true rfl) dX8_loss_2 (fun H locs hP hD hS => ?_)
    have hP : va_P D vwCl (wM cyI cyZ qa (M.1, va_up M.2 0 (0 : Int32))) H := hP
    have hD : va_D A (wM cyI cyZ qa (M.1, va_up M.2 0 (0 : Int32))) := hD
    refine lv_iload_n hx hb dX8_loss_5 rfl (lv_at hl 1 rfl) ?_
    obtain ⟨z1, hz1, h⟩ := jb h
    refine jki (jrS (As := [.int a1]) (rest := []) ⟨hx, hb, hml, hown, hts⟩ (c_X8_isPart l D cyI cyZ cyT   a1 z1 hz1) (va_cwS 1 hts gX8_loss_X8_isPart rfl rfl rfl (by decide +kernel) ⟨Nat.le_of_ble_eq_true rfl, Nat.le_of_ble_eq_true rfl⟩) hK jP0 rfl rfl hl.1 (Nat.le_of_ble_eq_true rfl) dX8_loss_6 ⟨Nat.le_of_ble_eq_true rfl, Nat.le_of_ble_eq_true rfl⟩) ?_
    clear hz1
    refine lv_if_ne (tgt := 15) hx hb dX8_loss_9 (by decide) (fun c2 => ?_) (fun c2 => ?_)
    · have h := jf c2 h
      refine lv_aload_n hx hb dX8_loss_15 rfl (lv_at hl 0 rfl) ?_
      obtain ⟨z3, hz3, h⟩ := jb h
      refine jki (jrV (As := []) (rest := []) ⟨hx, hb, hml, hown, hts⟩ (c_X8_isWhole l D cyI cyZ cyT qa  N (M.1, va_up M.2 0 (0 : Int32)) z3 hz3) (cwV 0 hts gX8_loss_X8_isWhole rfl rfl rfl (by decide +kernel) ⟨Nat.le_of_ble_eq_true rfl, Nat.le_of_ble_eq_true rfl⟩) hK hP rfl 8 0 rfl rfl rfl hl.1 (Nat.le_of_ble_eq_true rfl) dX8_loss_16 ⟨Nat.le_of_ble_eq_true rfl, Nat.le_of_ble_eq_true rfl⟩) ?_
      clear hz3
      refine lv_if_ne (tgt := 25) hx hb dX8_loss_19 (by decide) (fun c4 => ?_) (fun c4 => ?_)
      · have h := jf c4 h
        refine lv_lconst (v := (0 : Int64)) hx hb dX8_loss_25 (by decide) ?_
        refine lv_lstore_n (lv' := [(2, .long (0 : Int64)), (0, .ref (qa 0)), (1, .int a1)]) hx hb dX8_loss_26 rfl hl (by decide) rfl (fun ls hl => ?_)
        refine lv_iconst (v := (0 : Int32)) hx hb dX8_loss_27 (by decide) ?_
        refine lv_istore (lv' := [(4, .int (0 : Int32)), (2, .long (0 : Int64)), (0, .ref (qa 0)), (1, .int a1)]) hx hb dX8_loss_28 hl (by decide) rfl (fun ls hl => ?_)
        obtain ⟨r5, hz5, h5_⟩ := jb h
        have hex5 : ∀ e5 : Int64, r5 = e5 → ∀ (H : Heap) (locs : List Loc), va_P D vwCl (wM cyI cyZ qa (M.1, va_up M.2 0 (0 : Int32))) H → va_D A (wM cyI cyZ qa (M.1, va_up M.2 0 (0 : Int32))) → va_S A s.heap H locs → ∀ (ls : Array Slot), lv_has ls 6 [(0, .ref (qa 0)), (1, .int a1), (2, .long e5)] → W p l e rm_X8_loss s m args below meth c H locs 0 0 (MQ below (jQi D A (fun u : Mo => wM cyI cyZ qa u) o) args s 0 0 A) (F0 m 110 ls []) := by
          intro e5 he H locs hP hD hS ls hl
          rw [he] at h5_
          have h := h5_
          clear hz5
          refine lv_lload_n hx hb dX8_loss_110 rfl (lv_at hl 2 rfl) ?_
          refine lv_ldc2 (v := (10 : Int64)) hx hb hown (hts _ kw_X8_loss_5) dX8_loss_111 ?_
          refine lv_aload_n hx hb dX8_loss_114 rfl (lv_at hl 0 rfl) ?_
          refine va_get (D := D) (ci := 8) (v := .ref (qa 5)) (C := RX8) (T := TX8) (N := 24) hx hb hts in_X8_loss_X8 hown hK.1 hP 0 rfl rfl 13 (by decide) (hts _ kw_X8_loss_2) (fun _ h9 => h9) rfl dX8_loss_115 ?_
          refine lv_iconst (v := (1 : Int32)) hx hb dX8_loss_118 (by decide) ?_
          refine jald hx hb hK hP 5 rfl 1 (by decide) (by decide) dX8_loss_119 ?_
          obtain ⟨z12, hz12, h⟩ := jb h
          refine jkl (jrS (As := [.long (10 : Int64), .int (M.1 4 1)]) (rest := [.long e5]) ⟨hx, hb, hml, hown, hts⟩ (c_X8_power l D cyI cyZ cyT   N (10 : Int64) (M.1 4 1) z12 hz12) (va_cwS 2 hts gX8_loss_X8_power rfl rfl rfl (by decide +kernel) ⟨Nat.le_of_ble_eq_true rfl, Nat.le_of_ble_eq_true rfl⟩) hK jP0 rfl rfl hl.1 (Nat.le_of_ble_eq_true rfl) dX8_loss_120 ⟨Nat.le_of_ble_eq_true rfl, Nat.le_of_ble_eq_true rfl⟩) ?_
          clear hz12
          refine lv_iload_n hx hb dX8_loss_123 rfl (lv_at hl 1 rfl) ?_
          obtain ⟨z13, hz13, h⟩ := jb h
          refine jkl (jrS (As := [.long e5, .long z12, .int a1]) (rest := []) ⟨hx, hb, hml, hown, hts⟩ (c_X8_part l D cyI cyZ cyT   N e5 z12 a1 z13 hz13) (va_cwS 3 hts gX8_loss_X8_part rfl rfl rfl (by decide +kernel) ⟨Nat.le_of_ble_eq_true rfl, Nat.le_of_ble_eq_true rfl⟩) hK jP0 rfl rfl hl.1 (Nat.le_of_ble_eq_true rfl) dX8_loss_124 ⟨Nat.le_of_ble_eq_true rfl, Nat.le_of_ble_eq_true rfl⟩) ?_
          clear hz13
          refine lv_l2i (v := z13.toInt32) hx hb dX8_loss_127 rfl ?_
          exact W.iret hx hb hr (fun t ht _ => ⟨⟨_, _, rfl, Option.some.inj h, by rw [ht]; exact hP, hD⟩, hS.F ht⟩) hS.2.2 dX8_loss_128 hlocks
        have hlp5 : ∀ (nn : Nat) (z5 : (Int64 × Int32)), jw (X8_loss_s30 N M) nn z5 = some r5 → ∀ (H : Heap) (locs : List Loc), va_P D vwCl (wM cyI cyZ qa (M.1, va_up M.2 0 (0 : Int32))) H → va_D A (wM cyI cyZ qa (M.1, va_up M.2 0 (0 : Int32))) → va_S A s.heap H locs → ∀ (ls : Array Slot), lv_has ls 6 [(0, .ref (qa 0)), (1, .int a1), (2, .long z5.1), (4, .int z5.2)] → W p l e rm_X8_loss s m args below meth c H locs 0 0 (MQ below (jQi D A (fun u : Mo => wM cyI cyZ qa u) o) args s 0 0 A) (F0 m 30 ls []) := by
          refine jw_P (r := r5) (P := fun z5 : (Int64 × Int32) => ∀ (H : Heap) (locs : List Loc), va_P D vwCl (wM cyI cyZ qa (M.1, va_up M.2 0 (0 : Int32))) H → va_D A (wM cyI cyZ qa (M.1, va_up M.2 0 (0 : Int32))) → va_S A s.heap H locs → ∀ (ls : Array Slot), lv_has ls 6 [(0, .ref (qa 0)), (1, .int a1), (2, .long z5.1), (4, .int z5.2)] → W p l e rm_X8_loss s m args below meth c H locs 0 0 (MQ below (jQi D A (fun u : Mo => wM cyI cyZ qa u) o) args s 0 0 A) (F0 m 30 ls [])) ?_
          intro z5 x5 h hin hout H locs hP hD hS ls hl
          unfold X8_loss_s30 at h
          refine lv_iload hx hb dX8_loss_30 (lv_at hl 3 rfl) ?_
          refine lv_aload_n hx hb dX8_loss_32 rfl (lv_at hl 0 rfl) ?_
          refine va_get (D := D) (ci := 8) (v := .ref (qa 5)) (C := RX8) (T := TX8) (N := 24) hx hb hts in_X8_loss_X8 hown hK.1 hP 0 rfl rfl 13 (by decide) (hts _ kw_X8_loss_2) (fun _ h9 => h9) rfl dX8_loss_33 ?_
          refine lv_iconst (v := (1 : Int32)) hx hb dX8_loss_36 (by decide) ?_
          refine jald hx hb hK hP 5 rfl 1 (by decide) (by decide) dX8_loss_37 ?_
          refine lv_icmp_ge (tgt := 110) hx hb dX8_loss_38 (by decide) (fun c6 => ?_) (fun c6 => ?_)
          · have h := jt c6 h
            exact hex5 _ (hout _ (Option.some.inj h).symm).symm H locs hP hD hS ls (lv_sub hl [0, 1, 2] rfl)
          · have h := jf c6 h
            refine lv_aload_n hx hb dX8_loss_41 rfl (lv_at hl 0 rfl) ?_
            refine va_get (D := D) (ci := 8) (v := .ref (qa 6)) (C := RX8) (T := TX8) (N := 24) hx hb hts in_X8_loss_X8 hown hK.1 hP 0 rfl rfl 14 (by decide) (hts _ kw_X8_loss_3) (fun _ h9 => h9) rfl dX8_loss_42 ?_
            refine lv_iconst (v := (3 : Int32)) hx hb dX8_loss_45 (by decide) ?_
            refine lv_iload hx hb dX8_loss_46 (lv_at hl 3 rfl) ?_
            refine lv_iadd hx hb dX8_loss_48 ?_
            obtain ⟨g7, h⟩ := jn h
            refine jald hx hb hK hP 6 rfl _ rfl g7 dX8_loss_49 ?_
            refine lv_iconst (v := (1 : Int32)) hx hb dX8_loss_50 (by decide) ?_
            refine lv_isub hx hb dX8_loss_51 ?_
            refine lv_istore (lv' := [(5, .int ((M.1 5 ((3 : Int32) + z5.2).toNatClampNeg) - (1 : Int32))), (0, .ref (qa 0)), (1, .int a1), (2, .long z5.1), (4, .int z5.2)]) hx hb dX8_loss_52 hl (by decide) rfl (fun ls hl => ?_)
            refine lv_lload_n hx hb dX8_loss_54 rfl (lv_at hl 3 rfl) ?_
            refine lv_aload_n hx hb dX8_loss_55 rfl (lv_at hl 1 rfl) ?_
            refine lv_iload hx hb dX8_loss_56 (lv_at hl 4 rfl) ?_
            obtain ⟨z8, hz8, h⟩ := jb h
            refine jkl (jrV (As := [.int z5.2]) (rest := [.long z5.1]) ⟨hx, hb, hml, hown, hts⟩ (c_X8_throughTo l D cyI cyZ cyT qa  N z5.2 (M.1, va_up M.2 0 (0 : Int32)) z8 hz8) (cwV 1 hts gX8_loss_X8_throughTo rfl rfl rfl (by decide +kernel) ⟨Nat.le_of_ble_eq_true rfl, Nat.le_of_ble_eq_true rfl⟩) hK hP rfl 8 0 rfl rfl rfl hl.1 (Nat.le_of_ble_eq_true rfl) dX8_loss_58 ⟨Nat.le_of_ble_eq_true rfl, Nat.le_of_ble_eq_true rfl⟩) ?_
            clear hz8
            refine lv_aload_n hx hb dX8_loss_61 rfl (lv_at hl 1 rfl) ?_
            refine lv_iload hx hb dX8_loss_62 (lv_at hl 4 rfl) ?_
            refine lv_iload hx hb dX8_loss_64 (lv_at hl 0 rfl) ?_
            obtain ⟨z9, hz9, h⟩ := jb h
            refine jki (jrV (As := [.int z5.2, .int ((M.1 5 ((3 : Int32) + z5.2).toNatClampNeg) - (1 : Int32))]) (rest := [.long z8, .long z5.1]) ⟨hx, hb, hml, hown, hts⟩ (c_X8_dangerTo l D cyI cyZ cyT qa  z5.2 ((M.1 5 ((3 : Int32) + z5.2).toNatClampNeg) - (1 : Int32)) (M.1, va_up M.2 0 (0 : Int32)) z9 hz9) (cwV 2 hts gX8_loss_X8_dangerTo rfl rfl rfl (by decide +kernel) ⟨Nat.le_of_ble_eq_true rfl, Nat.le_of_ble_eq_true rfl⟩) hK hP rfl 8 0 rfl rfl rfl hl.1 (Nat.le_of_ble_eq_true rfl) dX8_loss_66 ⟨Nat.le_of_ble_eq_true rfl, Nat.le_of_ble_eq_true rfl⟩) ?_
            clear hz9
            refine lv_i2l (v := z9.toInt64) hx hb dX8_loss_69 rfl ?_
            refine lv_lmul hx hb dX8_loss_70 ?_
            refine lv_aload_n hx hb dX8_loss_71 rfl (lv_at hl 1 rfl) ?_
            refine va_get (D := D) (ci := 8) (v := .ref (qa 2)) (C := RX8) (T := TX8) (N := 24) hx hb hts in_X8_loss_X8 hown hK.1 hP 0 rfl rfl 10 (by decide) (hts _ kw_X8_loss_4) (fun _ h9 => h9) rfl dX8_loss_72 ?_
            refine lv_iconst (v := (4 : Int32)) hx hb dX8_loss_75 (by decide) ?_
            refine lv_iload hx hb dX8_loss_76 (lv_at hl 0 rfl) ?_
            refine lv_imul hx hb dX8_loss_78 ?_
            refine lv_iconst (v := (2 : Int32)) hx hb dX8_loss_79 (by decide) ?_
            refine lv_iadd hx hb dX8_loss_80 ?_
            obtain ⟨g10, h⟩ := jn h
            refine jald hx hb hK hP 2 rfl _ rfl g10 dX8_loss_81 ?_
            refine lv_i2l (v := (M.1 1 (((4 : Int32) * ((M.1 5 ((3 : Int32) + z5.2).toNatClampNeg) - (1 : Int32))) + (2 : Int32)).toNatClampNeg).toInt64) hx hb dX8_loss_82 rfl ?_
            refine lv_lmul hx hb dX8_loss_83 ?_
            refine lv_ldc2 (v := (10 : Int64)) hx hb hown (hts _ kw_X8_loss_5) dX8_loss_84 ?_
            refine lv_aload_n hx hb dX8_loss_87 rfl (lv_at hl 1 rfl) ?_
            refine va_get (D := D) (ci := 8) (v := .ref (qa 5)) (C := RX8) (T := TX8) (N := 24) hx hb hts in_X8_loss_X8 hown hK.1 hP 0 rfl rfl 13 (by decide) (hts _ kw_X8_loss_2) (fun _ h9 => h9) rfl dX8_loss_88 ?_
            refine lv_iconst (v := (1 : Int32)) hx hb dX8_loss_91 (by decide) ?_
            refine jald hx hb hK hP 5 rfl 1 (by decide) (by decide) dX8_loss_92 ?_
            refine lv_iload hx hb dX8_loss_93 (lv_at hl 4 rfl) ?_
            refine lv_isub hx hb dX8_loss_95 ?_
            refine lv_iconst (v := (1 : Int32)) hx hb dX8_loss_96 (by decide) ?_
            refine lv_isub hx hb dX8_loss_97 ?_
            obtain ⟨z11, hz11, h⟩ := jb h
            refine jkl (jrS (As := [.long (10 : Int64), .int (((M.1 4 1) - z5.2) - (1 : Int32))]) (rest := [.long ((z8 * z9.toInt64) * ((M.1 1 (((4 : Int32) * ((M.1 5 ((3 : Int32) + z5.2).toNatClampNeg) - (1 : Int32))) + (2 : Int32)).toNatClampNeg).toInt64)), .long z5.1]) ⟨hx, hb, hml, hown, hts⟩ (c_X8_power l D cyI cyZ cyT   N (10 : Int64) (((M.1 4 1) - z5.2) - (1 : Int32)) z11 hz11) (va_cwS 2 hts gX8_loss_X8_power rfl rfl rfl (by decide +kernel) ⟨Nat.le_of_ble_eq_true rfl, Nat.le_of_ble_eq_true rfl⟩) hK jP0 rfl rfl hl.1 (Nat.le_of_ble_eq_true rfl) dX8_loss_98 ⟨Nat.le_of_ble_eq_true rfl, Nat.le_of_ble_eq_true rfl⟩) ?_
            clear hz11
            refine lv_lmul hx hb dX8_loss_101 ?_
            refine lv_ladd hx hb dX8_loss_102 ?_
            refine lv_lstore_n (lv' := [(2, .long (z5.1 + (((z8 * z9.toInt64) * ((M.1 1 (((4 : Int32) * ((M.1 5 ((3 : Int32) + z5.2).toNatClampNeg) - (1 : Int32))) + (2 : Int32)).toNatClampNeg).toInt64)) * z11))), (5, .int ((M.1 5 ((3 : Int32) + z5.2).toNatClampNeg) - (1 : Int32))), (0, .ref (qa 0)), (1, .int a1), (4, .int z5.2)]) hx hb dX8_loss_103 rfl hl (by decide) rfl (fun ls hl => ?_)
            refine lv_iinc (v := z5.2 + (1 : Int32)) (lv' := [(4, .int (z5.2 + (1 : Int32))), (2, .long (z5.1 + (((z8 * z9.toInt64) * ((M.1 1 (((4 : Int32) * ((M.1 5 ((3 : Int32) + z5.2).toNatClampNeg) - (1 : Int32))) + (2 : Int32)).toNatClampNeg).toInt64)) * z11))), (5, .int ((M.1 5 ((3 : Int32) + z5.2).toNatClampNeg) - (1 : Int32))), (0, .ref (qa 0)), (1, .int a1)]) hx hb dX8_loss_104 hl (k := 4) rfl rfl (by decide) rfl (fun ls hl => ?_)
            refine lv_goto (tgt := 30) hx hb dX8_loss_107 (by decide) ?_
            exact hin _ (Option.some.inj h).symm H locs hP hD hS ls (lv_sub hl [3, 4, 1, 0] rfl)
        exact hlp5 _ _ hz5 H locs hP hD hS ls (lv_sub hl [2, 3, 1, 0] rfl)
      · have h := jt c4 h
        refine lv_bipush (v := (-4 : Int32)) hx hb dX8_loss_22 (by decide) ?_
        exact W.iret hx hb hr (fun t ht _ => ⟨⟨_, _, rfl, Option.some.inj h, by rw [ht]; exact hP, hD⟩, hS.F ht⟩) hS.2.2 dX8_loss_24 hlocks
    · have h := jt c2 h
      refine lv_bipush (v := (-3 : Int32)) hx hb dX8_loss_12 (by decide) ?_
      exact W.iret hx hb hr (fun t ht _ => ⟨⟨_, _, rfl, Option.some.inj h, by rw [ht]; exact hP, hD⟩, hS.F ht⟩) hS.2.2 dX8_loss_14 hlocks
  exact key s.heap [] hP hD hS
theorem kw_X8_stepsOf_1 : (.fieldLink RX8 22 "BellTheCatModel" "many" "[I" : Cond) ∈ wsX8_stepsOf := List.mem_of_getElem? (i := 1) rfl
theorem kw_X8_stepsOf_2 : (.fieldLink RX8 25 "BellTheCatModel" "s" "[I" : Cond) ∈ wsX8_stepsOf := List.mem_of_getElem? (i := 2) rfl
theorem in_X8_stepsOf_X8 : ∀ w ∈ wsX80, w ∈ wsX8_stepsOf := fun w h => List.mem_cons_of_mem _ (List.mem_append_right _ h)
abbrev rm_X8_stepsOf : Room := { frames := 0, cells := 0, slots := 0, locals := 0 }
set_option maxHeartbeats 4000000 in
set_option maxRecDepth 100000 in
theorem c_X8_stepsOf (l : Launch) (D : va_G) (cyI cyZ cyT : ClassId) (qa : Nat → Nat) (N : Nat) (a1 : Int32) (M : Mo) (o : Int32) (hf : f_X8_stepsOf N a1 M = some o) : Met l yX8_stepsOf wsX8_stepsOf rm_X8_stepsOf (va_Pc [.ref (qa 0), .int a1] (jB D cyI cyZ cyT (wM cyI cyZ qa M))) (jSi o) 0 0 (fun _ => False) := by
  refine Met.ofW (cc := cX8_stepsOf) (maxL := 4) (ret := (some .int)) (by decide) rfl ?_
  intro p e s m args below meth c s₁ B hml hv
  obtain ⟨rfl, hP, hK⟩ := hv
  have hx := B.exec
  have hb := B.bytes
  have hr := B.returns
  have hts := atoms_spec (ws := wsX8_stepsOf) B.pre
  have hown : s.vm.findClass RX8 = some m.cls := findClass_of_methodNamed B.named
  have hlocks := B.notSynchronized
  have hl := lv_entry ([.ref (qa 0), .int a1]) (n := 4) (Nat.le_of_ble_eq_true rfl)
  rw [lg_entry_eq]
  generalize (lg_sl ([.ref (qa 0), .int a1]) ++ List.replicate (4 - (lg_sl ([.ref (qa 0), .int a1])).length) Slot.unset).toArray = ls at hl ⊢
  have hl : lv_has ls 4 [(0, .ref (qa 0)), (1, .int a1)] := hl
  clear B
  generalize ([.ref (qa 0), .int a1] : List Value).toArray = args at hts ⊢
  have key : ∀ (H : Heap), va_P D vwCl (wM cyI cyZ qa M) H → H = s.heap → W p l e rm_X8_stepsOf s m args below meth c H [] 0 0 (MQ below (jSi o) args s 0 0 (fun _ => False)) (F0 m 0 ls []) := by
    intro H hP hH
    have h := hf
    unfold f_X8_stepsOf at h
    refine lv_iconst (v := (0 : Int32)) hx hb dX8_stepsOf_0 (by decide) ?_
    refine lv_istore_n (lv' := [(2, .int (0 : Int32)), (0, .ref (qa 0)), (1, .int a1)]) hx hb dX8_stepsOf_1 rfl hl (by decide) rfl (fun ls hl => ?_)
    refine lv_iconst (v := (0 : Int32)) hx hb dX8_stepsOf_2 (by decide) ?_
    refine lv_istore_n (lv' := [(3, .int (0 : Int32)), (2, .int (0 : Int32)), (0, .ref (qa 0)), (1, .int a1)]) hx hb dX8_stepsOf_3 rfl hl (by decide) rfl (fun ls hl => ?_)
    obtain ⟨r1, hz1, h1_⟩ := jb h
    have hex1 : ∀ e1 : Int32, r1 = e1 → ∀ (ls : Array Slot), lv_has ls 4 [(2, .int e1)] → W p l e rm_X8_stepsOf s m args below meth c H [] 0 0 (MQ below (jSi o) args s 0 0 (fun _ => False)) (F0 m 44 ls []) := by
      intro e1 he ls hl
      rw [he] at h1_
      have h := h1_
      clear hz1
      refine lv_iload_n hx hb dX8_stepsOf_44 rfl (lv_at hl 0 rfl) ?_
      exact W.iret hx hb hr (fun t ht _ => ⟨_, rfl, Option.some.inj h, ht.trans hH⟩) (fun q h => by cases h) dX8_stepsOf_45 hlocks
    have hlp1 : ∀ (nn : Nat) (z1 : (Int32 × Int32)), jw (X8_stepsOf_s4 a1 M) nn z1 = some r1 → ∀ (ls : Array Slot), lv_has ls 4 [(0, .ref (qa 0)), (1, .int a1), (2, .int z1.1), (3, .int z1.2)] → W p l e rm_X8_stepsOf s m args below meth c H [] 0 0 (MQ below (jSi o) args s 0 0 (fun _ => False)) (F0 m 4 ls []) := by
      refine jw_P (r := r1) (P := fun z1 : (Int32 × Int32) => ∀ (ls : Array Slot), lv_has ls 4 [(0, .ref (qa 0)), (1, .int a1), (2, .int z1.1), (3, .int z1.2)] → W p l e rm_X8_stepsOf s m args below meth c H [] 0 0 (MQ below (jSi o) args s 0 0 (fun _ => False)) (F0 m 4 ls [])) ?_
      intro z1 x1 h hin hout ls hl
      unfold X8_stepsOf_s4 at h
      refine lv_iload_n hx hb dX8_stepsOf_4 rfl (lv_at hl 3 rfl) ?_
      refine lv_aload_n hx hb dX8_stepsOf_5 rfl (lv_at hl 0 rfl) ?_
      refine va_get (D := D) (ci := 8) (v := .ref (qa 5)) (C := RX8) (T := TX8) (N := 24) hx hb hts in_X8_stepsOf_X8 hown hK.1 hP 0 rfl rfl 13 (by decide) (hts _ kw_X8_stepsOf_1) (fun _ h9 => h9) rfl dX8_stepsOf_6 ?_
      refine lv_iconst (v := (1 : Int32)) hx hb dX8_stepsOf_9 (by decide) ?_
      refine jald hx hb hK hP 5 rfl 1 (by decide) (by decide) dX8_stepsOf_10 ?_
      refine lv_icmp_ge (tgt := 44) hx hb dX8_stepsOf_11 (by decide) (fun c2 => ?_) (fun c2 => ?_)
      · have h := jt c2 h
        exact hex1 _ (hout _ (Option.some.inj h).symm).symm ls (lv_sub hl [2] rfl)
      · have h := jf c2 h
        refine lv_iload_n hx hb dX8_stepsOf_14 rfl (lv_at hl 2 rfl) ?_
        refine lv_aload_n hx hb dX8_stepsOf_15 rfl (lv_at hl 0 rfl) ?_
        refine va_get (D := D) (ci := 8) (v := .ref (qa 6)) (C := RX8) (T := TX8) (N := 24) hx hb hts in_X8_stepsOf_X8 hown hK.1 hP 0 rfl rfl 14 (by decide) (hts _ kw_X8_stepsOf_2) (fun _ h9 => h9) rfl dX8_stepsOf_16 ?_
        refine lv_iconst (v := (3 : Int32)) hx hb dX8_stepsOf_19 (by decide) ?_
        refine lv_iload_n hx hb dX8_stepsOf_20 rfl (lv_at hl 3 rfl) ?_
        refine lv_iadd hx hb dX8_stepsOf_21 ?_
        obtain ⟨g3, h⟩ := jn h
        refine jald hx hb hK hP 6 rfl _ rfl g3 dX8_stepsOf_22 ?_
        refine lv_iload_n hx hb dX8_stepsOf_23 rfl (lv_at hl 1 rfl) ?_
        refine lv_iconst (v := (1 : Int32)) hx hb dX8_stepsOf_24 (by decide) ?_
        refine lv_iadd hx hb dX8_stepsOf_25 ?_
        obtain ⟨z4, hz4, h⟩ := jb h
        have hk4 : ∀ (ls : Array Slot), lv_has ls 4 [(0, .ref (qa 0)), (1, .int a1), (3, .int z1.2)] → W p l e rm_X8_stepsOf s m args below meth c H [] 0 0 (MQ below (jSi o) args s 0 0 (fun _ => False)) (F0 m 36 ls [.int z4, .int z1.1]) := by
          intro ls hl
          refine lv_ior hx hb dX8_stepsOf_36 ?_
          refine lv_istore_n (lv' := [(2, .int (z1.1 ||| z4)), (0, .ref (qa 0)), (1, .int a1), (3, .int z1.2)]) hx hb dX8_stepsOf_37 rfl hl (by decide) rfl (fun ls hl => ?_)
          refine lv_iinc (v := z1.2 + (1 : Int32)) (lv' := [(3, .int (z1.2 + (1 : Int32))), (2, .int (z1.1 ||| z4)), (0, .ref (qa 0)), (1, .int a1)]) hx hb dX8_stepsOf_38 hl (k := 3) rfl rfl (by decide) rfl (fun ls hl => ?_)
          refine lv_goto (tgt := 4) hx hb dX8_stepsOf_41 (by decide) ?_
          exact hin _ (Option.some.inj h).symm ls (lv_sub hl [2, 3, 1, 0] rfl)
        clear h
        have h := hz4
        clear hz4
        refine lv_icmp_ne (tgt := 35) hx hb dX8_stepsOf_26 (by decide) (fun c5 => ?_) (fun c5 => ?_)
        · have h := jf c5 h
          refine lv_iconst (v := (0 : Int32)) hx hb dX8_stepsOf_35 (by decide) ?_
          obtain rfl := Option.some.inj h
          exact hk4 ls (lv_sub hl [0, 1, 3] rfl)
        · have h := jt c5 h
          refine lv_iconst (v := (1 : Int32)) hx hb dX8_stepsOf_29 (by decide) ?_
          refine lv_iload_n hx hb dX8_stepsOf_30 rfl (lv_at hl 3 rfl) ?_
          refine lv_ishl hx hb dX8_stepsOf_31 ?_
          refine lv_goto (tgt := 36) hx hb dX8_stepsOf_32 (by decide) ?_
          obtain rfl := Option.some.inj h
          exact hk4 ls (lv_sub hl [0, 1, 3] rfl)
    exact hlp1 _ _ hz1 ls (lv_sub hl [2, 3, 1, 0] rfl)
  exact key s.heap hP rfl
theorem kw_X8_mouse_1 : (.fieldLink RX8 50 "BellTheCatModel" "thrown" "I" : Cond) ∈ wsX8_mouse := List.mem_of_getElem? (i := 1) rfl
theorem kw_X8_mouse_2 : (.fieldLink RX8 13 "BellTheCatModel" "mice" "[I" : Cond) ∈ wsX8_mouse := List.mem_of_getElem? (i := 2) rfl
theorem in_X8_mouse_X8 : ∀ w ∈ wsX80, w ∈ wsX8_mouse := fun w h => List.mem_cons_of_mem _ (List.mem_append_right _ h)
abbrev rm_X8_mouse : Room := { frames := 2, cells := 0, slots := 0, locals := 43 }
set_option maxHeartbeats 4000000 in
set_option maxRecDepth 100000 in
theorem c_X8_mouse (l : Launch) (D : va_G) (cyI cyZ cyT : ClassId) (qa : Nat → Nat) (sz : Nat) (N : Nat) (a1 : Int32) (a2 : Int32) (M : Mo) (o : (Int32 × Mo)) (hf : f_X8_mouse N a1 a2 M = some o) : Met l yX8_mouse wsX8_mouse rm_X8_mouse (va_Pc [.ref (qa 0), .int a1, .int a2] (jM D cyI cyZ cyT (wM cyI cyZ qa M) sz)) (jQi D (va_A (wM cyI cyZ qa M) sz) (fun u : Mo => wM cyI cyZ qa u) o) 0 0 (va_A (wM cyI cyZ qa M) sz) := by
  refine Met.ofW (cc := cX8_mouse) (maxL := 3) (ret := (some .int)) (by decide) rfl ?_
  intro p e s m args below meth c s₁ B hml hv
  obtain ⟨rfl, hsz, hP, hK, hD0⟩ := hv
  have hx := B.exec
  have hb := B.bytes
  have hr := B.returns
  have hts := atoms_spec (ws := wsX8_mouse) B.pre
  have hown : s.vm.findClass RX8 = some m.cls := findClass_of_methodNamed B.named
  have hlocks := B.notSynchronized
  subst hsz
  have hD := hD0.self (sz := s.heap.size)
  generalize hAe : va_A (wM cyI cyZ qa M) s.heap.size = A at hD ⊢
  have hA : ∀ q : Nat, s.heap.size ≤ q → A q := fun q h => by rw [← hAe]; exact Or.inr h
  have hS : va_S A s.heap s.heap [] := va_S.rf
  have hl := lv_entry ([.ref (qa 0), .int a1, .int a2]) (n := 3) (Nat.le_of_ble_eq_true rfl)
  rw [lg_entry_eq]
  generalize (lg_sl ([.ref (qa 0), .int a1, .int a2]) ++ List.replicate (3 - (lg_sl ([.ref (qa 0), .int a1, .int a2])).length) Slot.unset).toArray = ls at hl ⊢
  have hl : lv_has ls 3 [(0, .ref (qa 0)), (1, .int a1), (2, .int a2)] := hl
  clear B
  generalize ([.ref (qa 0), .int a1, .int a2] : List Value).toArray = args at hts ⊢
  have key : ∀ (H : Heap) (locs : List Loc), va_P D vwCl (wM cyI cyZ qa M) H → va_D A (wM cyI cyZ qa M) → va_S A s.heap H locs → W p l e rm_X8_mouse s m args below meth c H locs 0 0 (MQ below (jQi D A (fun u : Mo => wM cyI cyZ qa u) o) args s 0 0 A) (F0 m 0 ls []) := by
    intro H locs hP hD hS
    have h := hf
    unfold f_X8_mouse at h
    refine lv_aload_n hx hb dX8_mouse_0 rfl (lv_at hl 0 rfl) ?_
    refine lv_iconst (v := (0 : Int32)) hx hb dX8_mouse_1 (by decide) ?_
    refine va_put (D := D) (ci := 8) (v := .int (0 : Int32)) (ty := .int) (C := RX8) (T := TX8) (N := 24) hx hb hts in_X8_mouse_X8 tyX8 tyX8_ok nmX8 hown hK.1 hP hD hS 0 rfl rfl 0 (by decide) (hts _ kw_X8_mouse_1) (fun _ h9 => h9) rfl (tyX8_ok 0 (by decide)) rfl rfl (Nat.le_of_ble_eq_true rfl) dX8_mouse_2 (fun H locs hP hD hS => ?_)
    have hP : va_P D vwCl (wM cyI cyZ qa (M.1, va_up M.2 0 (0 : Int32))) H := hP
    have hD : va_D A (wM cyI cyZ qa (M.1, va_up M.2 0 (0 : Int32))) := hD
    refine lv_aload_n hx hb dX8_mouse_5 rfl (lv_at hl 0 rfl) ?_
    refine lv_iload_n hx hb dX8_mouse_6 rfl (lv_at hl 1 rfl) ?_
    obtain ⟨z1, hz1, h⟩ := jb h
    refine jki (jrV (As := [.int a1]) (rest := []) ⟨hx, hb, hml, hown, hts⟩ (c_X8_isMouse l D cyI cyZ cyT qa  a1 (M.1, va_up M.2 0 (0 : Int32)) z1 hz1) (cwV 1 hts gX8_mouse_X8_isMouse rfl rfl rfl (by decide +kernel) ⟨Nat.le_of_ble_eq_true rfl, Nat.le_of_ble_eq_true rfl⟩) hK hP rfl 8 0 rfl rfl rfl hl.1 (Nat.le_of_ble_eq_true rfl) dX8_mouse_7 ⟨Nat.le_of_ble_eq_true rfl, Nat.le_of_ble_eq_true rfl⟩) ?_
    clear hz1
    refine lv_if_ne (tgt := 16) hx hb dX8_mouse_10 (by decide) (fun c2 => ?_) (fun c2 => ?_)
    · have h := jf c2 h
      refine lv_iload_n hx hb dX8_mouse_16 rfl (lv_at hl 2 rfl) ?_
      refine lv_iconst (v := (0 : Int32)) hx hb dX8_mouse_17 (by decide) ?_
      refine lv_iconst (v := (5 : Int32)) hx hb dX8_mouse_18 (by decide) ?_
      obtain ⟨z3, hz3, h⟩ := jb h
      refine jki (jrS (As := [.int a2, .int (0 : Int32), .int (5 : Int32)]) (rest := []) ⟨hx, hb, hml, hown, hts⟩ (c_X8_in l D cyI cyZ cyT   a2 (0 : Int32) (5 : Int32) z3 hz3) (va_cwS 3 hts gX8_mouse_X8_in rfl rfl rfl (by decide +kernel) ⟨Nat.le_of_ble_eq_true rfl, Nat.le_of_ble_eq_true rfl⟩) hK jP0 rfl rfl hl.1 (Nat.le_of_ble_eq_true rfl) dX8_mouse_19 ⟨Nat.le_of_ble_eq_true rfl, Nat.le_of_ble_eq_true rfl⟩) ?_
      clear hz3
      refine lv_if_ne (tgt := 28) hx hb dX8_mouse_22 (by decide) (fun c4 => ?_) (fun c4 => ?_)
      · have h := jf c4 h
        refine lv_iload_n hx hb dX8_mouse_28 rfl (lv_at hl 2 rfl) ?_
        refine lv_iconst (v := (4 : Int32)) hx hb dX8_mouse_29 (by decide) ?_
        refine lv_icmp_ge (tgt := 46) hx hb dX8_mouse_30 (by decide) (fun c5 => ?_) (fun c5 => ?_)
        · have h := jt c5 h
          refine lv_iload_n hx hb dX8_mouse_46 rfl (lv_at hl 2 rfl) ?_
          refine lv_iconst (v := (4 : Int32)) hx hb dX8_mouse_47 (by decide) ?_
          refine lv_icmp_ne (tgt := 67) hx hb dX8_mouse_48 (by decide) (fun c6 => ?_) (fun c6 => ?_)
          · have h := jf c6 h
            refine lv_aload_n hx hb dX8_mouse_67 rfl (lv_at hl 0 rfl) ?_
            refine lv_iload_n hx hb dX8_mouse_68 rfl (lv_at hl 1 rfl) ?_
            obtain ⟨z7, hz7, h⟩ := jb h
            refine jki (jrV (As := [.int a1]) (rest := []) ⟨hx, hb, hml, hown, hts⟩ (c_X8_stepsOf l D cyI cyZ cyT qa  N a1 (M.1, va_up M.2 0 (0 : Int32)) z7 hz7) (cwV 1 hts gX8_mouse_X8_stepsOf rfl rfl rfl (by decide +kernel) ⟨Nat.le_of_ble_eq_true rfl, Nat.le_of_ble_eq_true rfl⟩) hK hP rfl 8 0 rfl rfl rfl hl.1 (Nat.le_of_ble_eq_true rfl) dX8_mouse_69 ⟨Nat.le_of_ble_eq_true rfl, Nat.le_of_ble_eq_true rfl⟩) ?_
            clear hz7
            exact W.iret hx hb hr (fun t ht _ => ⟨⟨_, _, rfl, Option.some.inj h, by rw [ht]; exact hP, hD⟩, hS.F ht⟩) hS.2.2 dX8_mouse_72 hlocks
          · have h := jt c6 h
            refine lv_aload_n hx hb dX8_mouse_51 rfl (lv_at hl 0 rfl) ?_
            refine lv_iload_n hx hb dX8_mouse_52 rfl (lv_at hl 1 rfl) ?_
            obtain ⟨z8, hz8, h⟩ := jb h
            refine jki (jrV (As := [.int a1]) (rest := []) ⟨hx, hb, hml, hown, hts⟩ (c_X8_isLiving l D cyI cyZ cyT qa  a1 (M.1, va_up M.2 0 (0 : Int32)) z8 hz8) (cwV 1 hts gX8_mouse_X8_isLiving rfl rfl rfl (by decide +kernel) ⟨Nat.le_of_ble_eq_true rfl, Nat.le_of_ble_eq_true rfl⟩) hK hP rfl 8 0 rfl rfl rfl hl.1 (Nat.le_of_ble_eq_true rfl) dX8_mouse_53 ⟨Nat.le_of_ble_eq_true rfl, Nat.le_of_ble_eq_true rfl⟩) ?_
            clear hz8
            refine lv_if_eq (tgt := 63) hx hb dX8_mouse_56 (by decide) (fun c9 => ?_) (fun c9 => ?_)
            · have h := jt c9 h
              refine lv_iconst (v := (0 : Int32)) hx hb dX8_mouse_63 (by decide) ?_
              refine lv_goto (tgt := 72) hx hb dX8_mouse_64 (by decide) ?_
              exact W.iret hx hb hr (fun t ht _ => ⟨⟨_, _, rfl, Option.some.inj h, by rw [ht]; exact hP, hD⟩, hS.F ht⟩) hS.2.2 dX8_mouse_72 hlocks
            · have h := jf c9 h
              refine lv_iconst (v := (1 : Int32)) hx hb dX8_mouse_59 (by decide) ?_
              refine lv_goto (tgt := 72) hx hb dX8_mouse_60 (by decide) ?_
              exact W.iret hx hb hr (fun t ht _ => ⟨⟨_, _, rfl, Option.some.inj h, by rw [ht]; exact hP, hD⟩, hS.F ht⟩) hS.2.2 dX8_mouse_72 hlocks
        · have h := jf c5 h
          refine lv_aload_n hx hb dX8_mouse_33 rfl (lv_at hl 0 rfl) ?_
          refine va_get (D := D) (ci := 8) (v := .ref (qa 2)) (C := RX8) (T := TX8) (N := 24) hx hb hts in_X8_mouse_X8 hown hK.1 hP 0 rfl rfl 10 (by decide) (hts _ kw_X8_mouse_2) (fun _ h9 => h9) rfl dX8_mouse_34 ?_
          refine lv_iconst (v := (4 : Int32)) hx hb dX8_mouse_37 (by decide) ?_
          refine lv_iload_n hx hb dX8_mouse_38 rfl (lv_at hl 1 rfl) ?_
          refine lv_imul hx hb dX8_mouse_39 ?_
          refine lv_iload_n hx hb dX8_mouse_40 rfl (lv_at hl 2 rfl) ?_
          refine lv_iadd hx hb dX8_mouse_41 ?_
          obtain ⟨g10, h⟩ := jn h
          refine jald hx hb hK hP 2 rfl _ rfl g10 dX8_mouse_42 ?_
          refine lv_goto (tgt := 72) hx hb dX8_mouse_43 (by decide) ?_
          exact W.iret hx hb hr (fun t ht _ => ⟨⟨_, _, rfl, Option.some.inj h, by rw [ht]; exact hP, hD⟩, hS.F ht⟩) hS.2.2 dX8_mouse_72 hlocks
      · have h := jt c4 h
        refine lv_bipush (v := (-3 : Int32)) hx hb dX8_mouse_25 (by decide) ?_
        exact W.iret hx hb hr (fun t ht _ => ⟨⟨_, _, rfl, Option.some.inj h, by rw [ht]; exact hP, hD⟩, hS.F ht⟩) hS.2.2 dX8_mouse_27 hlocks
    · have h := jt c2 h
      refine lv_bipush (v := (-2 : Int32)) hx hb dX8_mouse_13 (by decide) ?_
      exact W.iret hx hb hr (fun t ht _ => ⟨⟨_, _, rfl, Option.some.inj h, by rw [ht]; exact hP, hD⟩, hS.F ht⟩) hS.2.2 dX8_mouse_15 hlocks
  exact key s.heap [] hP hD hS
theorem kw_X8_night_1 : (.fieldLink RX8 50 "BellTheCatModel" "thrown" "I" : Cond) ∈ wsX8_night := List.mem_of_getElem? (i := 1) rfl
theorem kw_X8_night_2 : (.fieldLink RX8 25 "BellTheCatModel" "s" "[I" : Cond) ∈ wsX8_night := List.mem_of_getElem? (i := 2) rfl
theorem kw_X8_night_3 : (.fieldLink RX8 22 "BellTheCatModel" "many" "[I" : Cond) ∈ wsX8_night := List.mem_of_getElem? (i := 3) rfl
theorem in_X8_night_X8 : ∀ w ∈ wsX80, w ∈ wsX8_night := fun w h => List.mem_cons_of_mem _ (List.mem_append_right _ h)
abbrev rm_X8_night : Room := { frames := 2, cells := 0, slots := 0, locals := 45 }
set_option maxHeartbeats 4000000 in
set_option maxRecDepth 100000 in
theorem c_X8_night (l : Launch) (D : va_G) (cyI cyZ cyT : ClassId) (qa : Nat → Nat) (sz : Nat) (N : Nat) (a1 : Int32) (M : Mo) (o : (Int32 × Mo)) (hf : f_X8_night N a1 M = some o) : Met l yX8_night wsX8_night rm_X8_night (va_Pc [.ref (qa 0), .int a1] (jM D cyI cyZ cyT (wM cyI cyZ qa M) sz)) (jQi D (va_A (wM cyI cyZ qa M) sz) (fun u : Mo => wM cyI cyZ qa u) o) 0 0 (va_A (wM cyI cyZ qa M) sz) := by
  refine Met.ofW (cc := cX8_night) (maxL := 5) (ret := (some .int)) (by decide) rfl ?_
  intro p e s m args below meth c s₁ B hml hv
  obtain ⟨rfl, hsz, hP, hK, hD0⟩ := hv
  have hx := B.exec
  have hb := B.bytes
  have hr := B.returns
  have hts := atoms_spec (ws := wsX8_night) B.pre
  have hown : s.vm.findClass RX8 = some m.cls := findClass_of_methodNamed B.named
  have hlocks := B.notSynchronized
  subst hsz
  have hD := hD0.self (sz := s.heap.size)
  generalize hAe : va_A (wM cyI cyZ qa M) s.heap.size = A at hD ⊢
  have hA : ∀ q : Nat, s.heap.size ≤ q → A q := fun q h => by rw [← hAe]; exact Or.inr h
  have hS : va_S A s.heap s.heap [] := va_S.rf
  have hl := lv_entry ([.ref (qa 0), .int a1]) (n := 5) (Nat.le_of_ble_eq_true rfl)
  rw [lg_entry_eq]
  generalize (lg_sl ([.ref (qa 0), .int a1]) ++ List.replicate (5 - (lg_sl ([.ref (qa 0), .int a1])).length) Slot.unset).toArray = ls at hl ⊢
  have hl : lv_has ls 5 [(0, .ref (qa 0)), (1, .int a1)] := hl
  clear B
  generalize ([.ref (qa 0), .int a1] : List Value).toArray = args at hts ⊢
  have key : ∀ (H : Heap) (locs : List Loc), va_P D vwCl (wM cyI cyZ qa M) H → va_D A (wM cyI cyZ qa M) → va_S A s.heap H locs → W p l e rm_X8_night s m args below meth c H locs 0 0 (MQ below (jQi D A (fun u : Mo => wM cyI cyZ qa u) o) args s 0 0 A) (F0 m 0 ls []) := by
    intro H locs hP hD hS
    have h := hf
    unfold f_X8_night at h
    refine lv_aload_n hx hb dX8_night_0 rfl (lv_at hl 0 rfl) ?_
    refine lv_iconst (v := (0 : Int32)) hx hb dX8_night_1 (by decide) ?_
    refine va_put (D := D) (ci := 8) (v := .int (0 : Int32)) (ty := .int) (C := RX8) (T := TX8) (N := 24) hx hb hts in_X8_night_X8 tyX8 tyX8_ok nmX8 hown hK.1 hP hD hS 0 rfl rfl 0 (by decide) (hts _ kw_X8_night_1) (fun _ h9 => h9) rfl (tyX8_ok 0 (by decide)) rfl rfl (Nat.le_of_ble_eq_true rfl) dX8_night_2 (fun H locs hP hD hS => ?_)
    have hP : va_P D vwCl (wM cyI cyZ qa (M.1, va_up M.2 0 (0 : Int32))) H := hP
    have hD : va_D A (wM cyI cyZ qa (M.1, va_up M.2 0 (0 : Int32))) := hD
    refine lv_iload_n hx hb dX8_night_5 rfl (lv_at hl 1 rfl) ?_
    refine lv_iconst (v := (0 : Int32)) hx hb dX8_night_6 (by decide) ?_
    refine lv_sipush (v := (9999 : Int32)) hx hb dX8_night_7 (by decide) ?_
    obtain ⟨z1, hz1, h⟩ := jb h
    refine jki (jrS (As := [.int a1, .int (0 : Int32), .int (9999 : Int32)]) (rest := []) ⟨hx, hb, hml, hown, hts⟩ (c_X8_in l D cyI cyZ cyT   a1 (0 : Int32) (9999 : Int32) z1 hz1) (va_cwS 3 hts gX8_night_X8_in rfl rfl rfl (by decide +kernel) ⟨Nat.le_of_ble_eq_true rfl, Nat.le_of_ble_eq_true rfl⟩) hK jP0 rfl rfl hl.1 (Nat.le_of_ble_eq_true rfl) dX8_night_10 ⟨Nat.le_of_ble_eq_true rfl, Nat.le_of_ble_eq_true rfl⟩) ?_
    clear hz1
    refine lv_if_ne (tgt := 19) hx hb dX8_night_13 (by decide) (fun c2 => ?_) (fun c2 => ?_)
    · have h := jf c2 h
      refine lv_aload_n hx hb dX8_night_19 rfl (lv_at hl 0 rfl) ?_
      obtain ⟨z3, hz3, h⟩ := jb h
      refine jki (jrV (As := []) (rest := []) ⟨hx, hb, hml, hown, hts⟩ (c_X8_isWhole l D cyI cyZ cyT qa  N (M.1, va_up M.2 0 (0 : Int32)) z3 hz3) (cwV 0 hts gX8_night_X8_isWhole rfl rfl rfl (by decide +kernel) ⟨Nat.le_of_ble_eq_true rfl, Nat.le_of_ble_eq_true rfl⟩) hK hP rfl 8 0 rfl rfl rfl hl.1 (Nat.le_of_ble_eq_true rfl) dX8_night_20 ⟨Nat.le_of_ble_eq_true rfl, Nat.le_of_ble_eq_true rfl⟩) ?_
      clear hz3
      refine lv_if_eq (tgt := 36) hx hb dX8_night_23 (by decide) (fun c4 => ?_) (fun c4 => ?_)
      · have h := jt c4 h
        refine lv_bipush (v := (-4 : Int32)) hx hb dX8_night_36 (by decide) ?_
        exact W.iret hx hb hr (fun t ht _ => ⟨⟨_, _, rfl, Option.some.inj h, by rw [ht]; exact hP, hD⟩, hS.F ht⟩) hS.2.2 dX8_night_38 hlocks
      · have h := jf c4 h
        refine lv_aload_n hx hb dX8_night_26 rfl (lv_at hl 0 rfl) ?_
        refine va_get (D := D) (ci := 8) (v := .ref (qa 6)) (C := RX8) (T := TX8) (N := 24) hx hb hts in_X8_night_X8 hown hK.1 hP 0 rfl rfl 14 (by decide) (hts _ kw_X8_night_2) (fun _ h9 => h9) rfl dX8_night_27 ?_
        refine lv_iconst (v := (2 : Int32)) hx hb dX8_night_30 (by decide) ?_
        refine jald hx hb hK hP 6 rfl 2 (by decide) (by decide) dX8_night_31 ?_
        refine lv_iconst (v := (1 : Int32)) hx hb dX8_night_32 (by decide) ?_
        refine lv_icmp_ne (tgt := 39) hx hb dX8_night_33 (by decide) (fun c5 => ?_) (fun c5 => ?_)
        · have h := jf c5 h
          refine lv_aload_n hx hb dX8_night_39 rfl (lv_at hl 0 rfl) ?_
          refine va_get (D := D) (ci := 8) (v := .ref (qa 6)) (C := RX8) (T := TX8) (N := 24) hx hb hts in_X8_night_X8 hown hK.1 hP 0 rfl rfl 14 (by decide) (hts _ kw_X8_night_2) (fun _ h9 => h9) rfl dX8_night_40 ?_
          refine lv_iconst (v := (0 : Int32)) hx hb dX8_night_43 (by decide) ?_
          refine jald hx hb hK hP 6 rfl 0 (by decide) (by decide) dX8_night_44 ?_
          refine lv_sipush (v := (999 : Int32)) hx hb dX8_night_45 (by decide) ?_
          refine lv_icmp_ne (tgt := 54) hx hb dX8_night_48 (by decide) (fun c6 => ?_) (fun c6 => ?_)
          · have h := jf c6 h
            refine lv_aload_n hx hb dX8_night_54 rfl (lv_at hl 0 rfl) ?_
            obtain ⟨z7, hz7, h⟩ := jb h
            refine jgv (w1 := fun u : Mo => wM cyI cyZ qa u) (wn := wM cyI cyZ qa z7) (jmV (As := []) (rest := []) ⟨hx, hb, hml, hown, hts⟩ (c_X8_notes l D cyI cyZ cyT qa H.size N (M.1, va_up M.2 0 (0 : Int32)) z7 hz7) (cwV 0 hts gX8_night_X8_notes rfl rfl rfl (by decide +kernel) ⟨Nat.le_of_ble_eq_true rfl, Nat.le_of_ble_eq_true rfl⟩) hK hP hD rfl 8 0 rfl rfl rfl hl.1 (Nat.le_of_ble_eq_true rfl) dX8_night_55 ⟨Nat.le_of_ble_eq_true rfl, Nat.le_of_ble_eq_true rfl⟩) hP hD hS hA [0, 1, 2, 3, 4, 5, 6, 7, 8, 9, 10, 11, 12, 13] [] [0, 1, 2, 3, 4, 5, 6, 7, 8, 9, 10, 11, 12, 13] rfl rfl (by decide) (by decide) rfl (by decide) (fun H locs hP hD hS => ?_)
            clear hz7
            refine lv_aload_n hx hb dX8_night_58 rfl (lv_at hl 0 rfl) ?_
            refine va_get (D := D) (ci := 8) (v := .ref (qa 6)) (C := RX8) (T := TX8) (N := 24) hx hb hts in_X8_night_X8 hown hK.1 hP 0 rfl rfl 14 (by decide) (hts _ kw_X8_night_2) (fun _ h9 => h9) rfl dX8_night_59 ?_
            refine lv_iconst (v := (0 : Int32)) hx hb dX8_night_62 (by decide) ?_
            refine lv_dup2_11 hx hb dX8_night_63 rfl rfl ?_
            refine jald hx hb hK hP 6 rfl 0 (by decide) (by decide) dX8_night_64 ?_
            refine lv_iconst (v := (1 : Int32)) hx hb dX8_night_65 (by decide) ?_
            refine lv_iadd hx hb dX8_night_66 ?_
            refine jast (w' := wM cyI cyZ qa (va_up z7.1 5 (upd (z7.1 5) 0 ((z7.1 5 0) + (1 : Int32))), z7.2)) hx hb hK hP hD hS 6 rfl 0 (by decide) (by decide) rfl dX8_night_67 (fun H locs hP hD hS => ?_)
            refine lv_iconst (v := (0 : Int32)) hx hb dX8_night_68 (by decide) ?_
            refine lv_istore_n (lv' := [(2, .int (0 : Int32)), (0, .ref (qa 0)), (1, .int a1)]) hx hb dX8_night_69 rfl hl (by decide) rfl (fun ls hl => ?_)
            obtain ⟨r8, hz8, h8_⟩ := jb h
            have hex8 : ∀ e8 : Unit, r8 = .inl e8 → ∀ (H : Heap) (locs : List Loc), va_P D vwCl (wM cyI cyZ qa (va_up z7.1 5 (upd (z7.1 5) 0 ((z7.1 5 0) + (1 : Int32))), z7.2)) H → va_D A (wM cyI cyZ qa (va_up z7.1 5 (upd (z7.1 5) 0 ((z7.1 5 0) + (1 : Int32))), z7.2)) → va_S A s.heap H locs → ∀ (ls : Array Slot), lv_has ls 5 [(0, .ref (qa 0))] → W p l e rm_X8_night s m args below meth c H locs 0 0 (MQ below (jQi D A (fun u : Mo => wM cyI cyZ qa u) o) args s 0 0 A) (F0 m 180 ls []) := by
              intro e8 he H locs hP hD hS ls hl
              have h := jsl h8_ he
              clear hz8
              refine lv_aload_n hx hb dX8_night_180 rfl (lv_at hl 0 rfl) ?_
              refine va_get (D := D) (ci := 8) (v := .ref (qa 6)) (C := RX8) (T := TX8) (N := 24) hx hb hts in_X8_night_X8 hown hK.1 hP 0 rfl rfl 14 (by decide) (hts _ kw_X8_night_2) (fun _ h9 => h9) rfl dX8_night_181 ?_
              refine lv_iconst (v := (2 : Int32)) hx hb dX8_night_184 (by decide) ?_
              refine lv_iconst (v := (1 : Int32)) hx hb dX8_night_185 (by decide) ?_
              refine jast (w' := wM cyI cyZ qa (va_up z7.1 5 (upd (upd (z7.1 5) 0 ((z7.1 5 0) + (1 : Int32))) 2 (1 : Int32)), z7.2)) hx hb hK hP hD hS 6 rfl 2 (by decide) (by decide) rfl dX8_night_186 (fun H locs hP hD hS => ?_)
              refine lv_iconst (v := (-1 : Int32)) hx hb dX8_night_187 (by decide) ?_
              exact W.iret hx hb hr (fun t ht _ => ⟨⟨_, _, rfl, Option.some.inj h, by rw [ht]; exact hP, hD⟩, hS.F ht⟩) hS.2.2 dX8_night_188 hlocks
            have hlp8 : ∀ (nn : Nat) (z8 : Int32), jw (X8_night_s70 N a1 z7) nn z8 = some r8 → ∀ (H : Heap) (locs : List Loc), va_P D vwCl (wM cyI cyZ qa (va_up z7.1 5 (upd (z7.1 5) 0 ((z7.1 5 0) + (1 : Int32))), z7.2)) H → va_D A (wM cyI cyZ qa (va_up z7.1 5 (upd (z7.1 5) 0 ((z7.1 5 0) + (1 : Int32))), z7.2)) → va_S A s.heap H locs → ∀ (ls : Array Slot), lv_has ls 5 [(0, .ref (qa 0)), (1, .int a1), (2, .int z8)] → W p l e rm_X8_night s m args below meth c H locs 0 0 (MQ below (jQi D A (fun u : Mo => wM cyI cyZ qa u) o) args s 0 0 A) (F0 m 70 ls []) := by
              refine jw_P (r := r8) (P := fun z8 : Int32 => ∀ (H : Heap) (locs : List Loc), va_P D vwCl (wM cyI cyZ qa (va_up z7.1 5 (upd (z7.1 5) 0 ((z7.1 5 0) + (1 : Int32))), z7.2)) H → va_D A (wM cyI cyZ qa (va_up z7.1 5 (upd (z7.1 5) 0 ((z7.1 5 0) + (1 : Int32))), z7.2)) → va_S A s.heap H locs → ∀ (ls : Array Slot), lv_has ls 5 [(0, .ref (qa 0)), (1, .int a1), (2, .int z8)] → W p l e rm_X8_night s m args below meth c H locs 0 0 (MQ below (jQi D A (fun u : Mo => wM cyI cyZ qa u) o) args s 0 0 A) (F0 m 70 ls [])) ?_
              intro z8 x8 h hin hout H locs hP hD hS ls hl
              unfold X8_night_s70 at h
              refine lv_iload_n hx hb dX8_night_70 rfl (lv_at hl 2 rfl) ?_
              refine lv_aload_n hx hb dX8_night_71 rfl (lv_at hl 0 rfl) ?_
              refine va_get (D := D) (ci := 8) (v := .ref (qa 5)) (C := RX8) (T := TX8) (N := 24) hx hb hts in_X8_night_X8 hown hK.1 hP 0 rfl rfl 13 (by decide) (hts _ kw_X8_night_3) (fun _ h9 => h9) rfl dX8_night_72 ?_
              refine lv_iconst (v := (1 : Int32)) hx hb dX8_night_75 (by decide) ?_
              refine jald hx hb hK hP 5 rfl 1 (by decide) (by decide) dX8_night_76 ?_
              refine lv_icmp_ge (tgt := 180) hx hb dX8_night_77 (by decide) (fun c9 => ?_) (fun c9 => ?_)
              · have h := jt c9 h
                exact hex8 _ (hout _ (Option.some.inj h).symm).symm H locs hP hD hS ls (lv_sub hl [0] rfl)
              · have h := jf c9 h
                refine lv_aload_n hx hb dX8_night_80 rfl (lv_at hl 0 rfl) ?_
                refine va_get (D := D) (ci := 8) (v := .ref (qa 6)) (C := RX8) (T := TX8) (N := 24) hx hb hts in_X8_night_X8 hown hK.1 hP 0 rfl rfl 14 (by decide) (hts _ kw_X8_night_2) (fun _ h9 => h9) rfl dX8_night_81 ?_
                refine lv_iconst (v := (3 : Int32)) hx hb dX8_night_84 (by decide) ?_
                refine lv_iload_n hx hb dX8_night_85 rfl (lv_at hl 2 rfl) ?_
                refine lv_iadd hx hb dX8_night_86 ?_
                obtain ⟨g10, h⟩ := jn h
                refine jald hx hb hK hP 6 rfl _ rfl g10 dX8_night_87 ?_
                refine lv_iconst (v := (1 : Int32)) hx hb dX8_night_88 (by decide) ?_
                refine lv_isub hx hb dX8_night_89 ?_
                refine lv_istore_n (lv' := [(3, .int (((upd (z7.1 5) 0 ((z7.1 5 0) + (1 : Int32))) ((3 : Int32) + z8).toNatClampNeg) - (1 : Int32))), (0, .ref (qa 0)), (1, .int a1), (2, .int z8)]) hx hb dX8_night_90 rfl hl (by decide) rfl (fun ls hl => ?_)
                refine lv_aload_n hx hb dX8_night_91 rfl (lv_at hl 1 rfl) ?_
                refine lv_iload_n hx hb dX8_night_92 rfl (lv_at hl 2 rfl) ?_
                refine lv_iload_n hx hb dX8_night_93 rfl (lv_at hl 3 rfl) ?_
                obtain ⟨z11, hz11, h⟩ := jb h
                refine jki (jrV (As := [.int a1, .int z8]) (rest := []) ⟨hx, hb, hml, hown, hts⟩ (c_X8_drawOf l D cyI cyZ cyT qa  a1 z8 (va_up z7.1 5 (upd (z7.1 5) 0 ((z7.1 5 0) + (1 : Int32))), z7.2) z11 hz11) (cwV 2 hts gX8_night_X8_drawOf rfl rfl rfl (by decide +kernel) ⟨Nat.le_of_ble_eq_true rfl, Nat.le_of_ble_eq_true rfl⟩) hK hP rfl 8 0 rfl rfl rfl hl.1 (Nat.le_of_ble_eq_true rfl) dX8_night_94 ⟨Nat.le_of_ble_eq_true rfl, Nat.le_of_ble_eq_true rfl⟩) ?_
                clear hz11
                refine lv_aload_n hx hb dX8_night_97 rfl (lv_at hl 1 rfl) ?_
                refine lv_iload_n hx hb dX8_night_98 rfl (lv_at hl 3 rfl) ?_
                refine lv_iload_n hx hb dX8_night_99 rfl (lv_at hl 0 rfl) ?_
                obtain ⟨z12, hz12, h⟩ := jb h
                refine jki (jrV (As := [.int z8, .int (((upd (z7.1 5) 0 ((z7.1 5 0) + (1 : Int32))) ((3 : Int32) + z8).toNatClampNeg) - (1 : Int32))]) (rest := [.int z11]) ⟨hx, hb, hml, hown, hts⟩ (c_X8_dangerTo l D cyI cyZ cyT qa  z8 (((upd (z7.1 5) 0 ((z7.1 5 0) + (1 : Int32))) ((3 : Int32) + z8).toNatClampNeg) - (1 : Int32)) (va_up z7.1 5 (upd (z7.1 5) 0 ((z7.1 5 0) + (1 : Int32))), z7.2) z12 hz12) (cwV 2 hts gX8_night_X8_dangerTo rfl rfl rfl (by decide +kernel) ⟨Nat.le_of_ble_eq_true rfl, Nat.le_of_ble_eq_true rfl⟩) hK hP rfl 8 0 rfl rfl rfl hl.1 (Nat.le_of_ble_eq_true rfl) dX8_night_100 ⟨Nat.le_of_ble_eq_true rfl, Nat.le_of_ble_eq_true rfl⟩) ?_
                clear hz12
                refine lv_icmp_ge (tgt := 174) hx hb dX8_night_103 (by decide) (fun c13 => ?_) (fun c13 => ?_)
                · have h := jt c13 h
                  refine lv_iinc (v := z8 + (1 : Int32)) (lv' := [(2, .int (z8 + (1 : Int32))), (3, .int (((upd (z7.1 5) 0 ((z7.1 5 0) + (1 : Int32))) ((3 : Int32) + z8).toNatClampNeg) - (1 : Int32))), (0, .ref (qa 0)), (1, .int a1)]) hx hb dX8_night_174 hl (k := 3) rfl rfl (by decide) rfl (fun ls hl => ?_)
                  refine lv_goto (tgt := 70) hx hb dX8_night_177 (by decide) ?_
                  exact hin _ (Option.some.inj h).symm H locs hP hD hS ls (lv_sub hl [2, 3, 0] rfl)
                · have h := jf c13 h
                  refine lv_aload_n hx hb dX8_night_106 rfl (lv_at hl 1 rfl) ?_
                  refine va_get (D := D) (ci := 8) (v := .ref (qa 6)) (C := RX8) (T := TX8) (N := 24) hx hb hts in_X8_night_X8 hown hK.1 hP 0 rfl rfl 14 (by decide) (hts _ kw_X8_night_2) (fun _ h9 => h9) rfl dX8_night_107 ?_
                  refine lv_iconst (v := (1 : Int32)) hx hb dX8_night_110 (by decide) ?_
                  refine lv_dup2_11 hx hb dX8_night_111 rfl rfl ?_
                  refine jald hx hb hK hP 6 rfl 1 (by decide) (by decide) dX8_night_112 ?_
                  refine lv_iconst (v := (1 : Int32)) hx hb dX8_night_113 (by decide) ?_
                  refine lv_iload_n hx hb dX8_night_114 rfl (lv_at hl 0 rfl) ?_
                  refine lv_ishl hx hb dX8_night_115 ?_
                  refine lv_iconst (v := (-1 : Int32)) hx hb dX8_night_116 (by decide) ?_
                  refine lv_ixor hx hb dX8_night_117 ?_
                  refine lv_iand hx hb dX8_night_118 ?_
                  refine jast (w' := wM cyI cyZ qa (va_up z7.1 5 (upd (upd (z7.1 5) 0 ((z7.1 5 0) + (1 : Int32))) 1 (((upd (z7.1 5) 0 ((z7.1 5 0) + (1 : Int32))) 1) &&& (((1 : Int32) <<< ((((upd (z7.1 5) 0 ((z7.1 5 0) + (1 : Int32))) ((3 : Int32) + z8).toNatClampNeg) - (1 : Int32)) &&& 31)) ^^^ (-1 : Int32)))), z7.2)) hx hb hK hP hD hS 6 rfl 1 (by decide) (by decide) rfl dX8_night_119 (fun H locs hP hD hS => ?_)
                  refine lv_iconst (v := (0 : Int32)) hx hb dX8_night_120 (by decide) ?_
                  refine lv_istore (lv' := [(4, .int (0 : Int32)), (3, .int (((upd (z7.1 5) 0 ((z7.1 5 0) + (1 : Int32))) ((3 : Int32) + z8).toNatClampNeg) - (1 : Int32))), (0, .ref (qa 0)), (1, .int a1), (2, .int z8)]) hx hb dX8_night_121 hl (by decide) rfl (fun ls hl => ?_)
                  obtain ⟨r14, hz14, h14_⟩ := jb h
                  have hex14 : ∀ e14 : Mo, r14 = e14 → ∀ (H : Heap) (locs : List Loc), va_P D vwCl (wM cyI cyZ qa e14) H → va_D A (wM cyI cyZ qa e14) → va_S A s.heap H locs → ∀ (ls : Array Slot), lv_has ls 5 [(3, .int (((upd (z7.1 5) 0 ((z7.1 5 0) + (1 : Int32))) ((3 : Int32) + z8).toNatClampNeg) - (1 : Int32)))] → W p l e rm_X8_night s m args below meth c H locs 0 0 (MQ below (jQi D A (fun u : Mo => wM cyI cyZ qa u) o) args s 0 0 A) (F0 m 172 ls []) := by
                    intro e14 he H locs hP hD hS ls hl
                    rw [he] at h14_
                    have h := h14_
                    clear hz14
                    refine lv_iload_n hx hb dX8_night_172 rfl (lv_at hl 0 rfl) ?_
                    have h := jsr h8_ (hout _ (Option.some.inj h).symm).symm
                    exact W.iret hx hb hr (fun t ht _ => ⟨⟨_, _, rfl, Option.some.inj h, by rw [ht]; exact hP, hD⟩, hS.F ht⟩) hS.2.2 dX8_night_173 hlocks
                  have hlp14 : ∀ (nn : Nat) (z14 : (Int32 × Mo)), jw (X8_night_s123 z7 z8) nn z14 = some r14 → ∀ (H : Heap) (locs : List Loc), va_P D vwCl (wM cyI cyZ qa z14.2) H → va_D A (wM cyI cyZ qa z14.2) → va_S A s.heap H locs → ∀ (ls : Array Slot), lv_has ls 5 [(0, .ref (qa 0)), (3, .int (((upd (z7.1 5) 0 ((z7.1 5 0) + (1 : Int32))) ((3 : Int32) + z8).toNatClampNeg) - (1 : Int32))), (4, .int z14.1)] → W p l e rm_X8_night s m args below meth c H locs 0 0 (MQ below (jQi D A (fun u : Mo => wM cyI cyZ qa u) o) args s 0 0 A) (F0 m 123 ls []) := by
                    refine jw_P (r := r14) (P := fun z14 : (Int32 × Mo) => ∀ (H : Heap) (locs : List Loc), va_P D vwCl (wM cyI cyZ qa z14.2) H → va_D A (wM cyI cyZ qa z14.2) → va_S A s.heap H locs → ∀ (ls : Array Slot), lv_has ls 5 [(0, .ref (qa 0)), (3, .int (((upd (z7.1 5) 0 ((z7.1 5 0) + (1 : Int32))) ((3 : Int32) + z8).toNatClampNeg) - (1 : Int32))), (4, .int z14.1)] → W p l e rm_X8_night s m args below meth c H locs 0 0 (MQ below (jQi D A (fun u : Mo => wM cyI cyZ qa u) o) args s 0 0 A) (F0 m 123 ls [])) ?_
                    intro z14 x14 h hin hout H locs hP hD hS ls hl
                    unfold X8_night_s123 at h
                    refine lv_iload hx hb dX8_night_123 (lv_at hl 2 rfl) ?_
                    refine lv_iconst (v := (5 : Int32)) hx hb dX8_night_125 (by decide) ?_
                    refine lv_icmp_ge (tgt := 172) hx hb dX8_night_126 (by decide) (fun c15 => ?_) (fun c15 => ?_)
                    · have h := jt c15 h
                      exact hex14 _ (hout _ (Option.some.inj h).symm).symm H locs hP hD hS ls (lv_sub hl [1] rfl)
                    · have h := jf c15 h
                      refine lv_aload_n hx hb dX8_night_129 rfl (lv_at hl 0 rfl) ?_
                      refine va_get (D := D) (ci := 8) (v := .ref (qa 6)) (C := RX8) (T := TX8) (N := 24) hx hb hts in_X8_night_X8 hown hK.1 hP 0 rfl rfl 14 (by decide) (hts _ kw_X8_night_2) (fun _ h9 => h9) rfl dX8_night_130 ?_
                      refine lv_iconst (v := (3 : Int32)) hx hb dX8_night_133 (by decide) ?_
                      refine lv_iload hx hb dX8_night_134 (lv_at hl 2 rfl) ?_
                      refine lv_iadd hx hb dX8_night_136 ?_
                      refine lv_aload_n hx hb dX8_night_137 rfl (lv_at hl 0 rfl) ?_
                      refine va_get (D := D) (ci := 8) (v := .ref (qa 6)) (C := RX8) (T := TX8) (N := 24) hx hb hts in_X8_night_X8 hown hK.1 hP 0 rfl rfl 14 (by decide) (hts _ kw_X8_night_2) (fun _ h9 => h9) rfl dX8_night_138 ?_
                      refine lv_iconst (v := (3 : Int32)) hx hb dX8_night_141 (by decide) ?_
                      refine lv_iload hx hb dX8_night_142 (lv_at hl 2 rfl) ?_
                      refine lv_iadd hx hb dX8_night_144 ?_
                      obtain ⟨g16, h⟩ := jn h
                      refine jald hx hb hK hP 6 rfl _ rfl g16 dX8_night_145 ?_
                      refine lv_iload_n hx hb dX8_night_146 rfl (lv_at hl 1 rfl) ?_
                      refine lv_iconst (v := (1 : Int32)) hx hb dX8_night_147 (by decide) ?_
                      refine lv_iadd hx hb dX8_night_148 ?_
                      obtain ⟨z17, hz17, h⟩ := jb h
                      have hk17 : ∀ (H : Heap) (locs : List Loc), va_P D vwCl (wM cyI cyZ qa z14.2) H → va_D A (wM cyI cyZ qa z14.2) → va_S A s.heap H locs → ∀ (ls : Array Slot), lv_has ls 5 [(0, .ref (qa 0)), (3, .int (((upd (z7.1 5) 0 ((z7.1 5 0) + (1 : Int32))) ((3 : Int32) + z8).toNatClampNeg) - (1 : Int32))), (4, .int z14.1)] → W p l e rm_X8_night s m args below meth c H locs 0 0 (MQ below (jQi D A (fun u : Mo => wM cyI cyZ qa u) o) args s 0 0 A) (F0 m 165 ls [.int z17, .int ((3 : Int32) + z14.1), .ref (qa 6)]) := by
                        intro H locs hP hD hS ls hl
                        obtain ⟨g20, h⟩ := jn h
                        refine jast (w' := wM cyI cyZ qa (va_up z14.2.1 5 (upd (z14.2.1 5) ((3 : Int32) + z14.1).toNatClampNeg z17), z14.2.2)) hx hb hK hP hD hS 6 rfl _ rfl g20 rfl dX8_night_165 (fun H locs hP hD hS => ?_)
                        refine lv_iinc (v := z14.1 + (1 : Int32)) (lv' := [(4, .int (z14.1 + (1 : Int32))), (0, .ref (qa 0)), (3, .int (((upd (z7.1 5) 0 ((z7.1 5 0) + (1 : Int32))) ((3 : Int32) + z8).toNatClampNeg) - (1 : Int32)))]) hx hb dX8_night_166 hl (k := 2) rfl rfl (by decide) rfl (fun ls hl => ?_)
                        refine lv_goto (tgt := 123) hx hb dX8_night_169 (by decide) ?_
                        exact hin _ (Option.some.inj h).symm H locs hP hD hS ls (lv_sub hl [1, 2, 0] rfl)
                      clear h
                      have h := hz17
                      clear hz17
                      refine lv_icmp_ne (tgt := 156) hx hb dX8_night_149 (by decide) (fun c18 => ?_) (fun c18 => ?_)
                      · have h := jf c18 h
                        refine lv_aload_n hx hb dX8_night_156 rfl (lv_at hl 0 rfl) ?_
                        refine va_get (D := D) (ci := 8) (v := .ref (qa 6)) (C := RX8) (T := TX8) (N := 24) hx hb hts in_X8_night_X8 hown hK.1 hP 0 rfl rfl 14 (by decide) (hts _ kw_X8_night_2) (fun _ h9 => h9) rfl dX8_night_157 ?_
                        refine lv_iconst (v := (3 : Int32)) hx hb dX8_night_160 (by decide) ?_
                        refine lv_iload hx hb dX8_night_161 (lv_at hl 2 rfl) ?_
                        refine lv_iadd hx hb dX8_night_163 ?_
                        obtain ⟨g19, h⟩ := jn h
                        refine jald hx hb hK hP 6 rfl _ rfl g19 dX8_night_164 ?_
                        obtain rfl := Option.some.inj h
                        exact hk17 H locs hP hD hS ls (lv_sub hl [0, 1, 2] rfl)
                      · have h := jt c18 h
                        refine lv_iconst (v := (0 : Int32)) hx hb dX8_night_152 (by decide) ?_
                        refine lv_goto (tgt := 165) hx hb dX8_night_153 (by decide) ?_
                        obtain rfl := Option.some.inj h
                        exact hk17 H locs hP hD hS ls (lv_sub hl [0, 1, 2] rfl)
                  exact hlp14 _ _ hz14 H locs hP hD hS ls (lv_sub hl [2, 1, 0] rfl)
            exact hlp8 _ _ hz8 H locs hP hD hS ls (lv_sub hl [1, 2, 0] rfl)
          · have h := jt c6 h
            refine lv_bipush (v := (-5 : Int32)) hx hb dX8_night_51 (by decide) ?_
            exact W.iret hx hb hr (fun t ht _ => ⟨⟨_, _, rfl, Option.some.inj h, by rw [ht]; exact hP, hD⟩, hS.F ht⟩) hS.2.2 dX8_night_53 hlocks
        · have h := jt c5 h
          refine lv_bipush (v := (-4 : Int32)) hx hb dX8_night_36 (by decide) ?_
          exact W.iret hx hb hr (fun t ht _ => ⟨⟨_, _, rfl, Option.some.inj h, by rw [ht]; exact hP, hD⟩, hS.F ht⟩) hS.2.2 dX8_night_38 hlocks
    · have h := jt c2 h
      refine lv_bipush (v := (-3 : Int32)) hx hb dX8_night_16 (by decide) ?_
      exact W.iret hx hb hr (fun t ht _ => ⟨⟨_, _, rfl, Option.some.inj h, by rw [ht]; exact hP, hD⟩, hS.F ht⟩) hS.2.2 dX8_night_18 hlocks
  exact key s.heap [] hP hD hS
theorem kw_X8_put_1 : (.fieldLink RX8 50 "BellTheCatModel" "thrown" "I" : Cond) ∈ wsX8_put := List.mem_of_getElem? (i := 1) rfl
theorem kw_X8_put_2 : (.fieldLink RX8 25 "BellTheCatModel" "s" "[I" : Cond) ∈ wsX8_put := List.mem_of_getElem? (i := 2) rfl
theorem in_X8_put_X8 : ∀ w ∈ wsX80, w ∈ wsX8_put := fun w h => List.mem_cons_of_mem _ (List.mem_append_right _ h)
abbrev rm_X8_put : Room := { frames := 2, cells := 0, slots := 0, locals := 43 }
set_option maxHeartbeats 4000000 in
set_option maxRecDepth 100000 in
theorem c_X8_put (l : Launch) (D : va_G) (cyI cyZ cyT : ClassId) (qa : Nat → Nat) (sz : Nat) (N : Nat) (a1 : Int32) (a2 : Int32) (M : Mo) (o : (Int32 × Mo)) (hf : f_X8_put N a1 a2 M = some o) : Met l yX8_put wsX8_put rm_X8_put (va_Pc [.ref (qa 0), .int a1, .int a2] (jM D cyI cyZ cyT (wM cyI cyZ qa M) sz)) (jQi D (va_A (wM cyI cyZ qa M) sz) (fun u : Mo => wM cyI cyZ qa u) o) 0 0 (va_A (wM cyI cyZ qa M) sz) := by
  refine Met.ofW (cc := cX8_put) (maxL := 3) (ret := (some .int)) (by decide) rfl ?_
  intro p e s m args below meth c s₁ B hml hv
  obtain ⟨rfl, hsz, hP, hK, hD0⟩ := hv
  have hx := B.exec
  have hb := B.bytes
  have hr := B.returns
  have hts := atoms_spec (ws := wsX8_put) B.pre
  have hown : s.vm.findClass RX8 = some m.cls := findClass_of_methodNamed B.named
  have hlocks := B.notSynchronized
  subst hsz
  have hD := hD0.self (sz := s.heap.size)
  generalize hAe : va_A (wM cyI cyZ qa M) s.heap.size = A at hD ⊢
  have hA : ∀ q : Nat, s.heap.size ≤ q → A q := fun q h => by rw [← hAe]; exact Or.inr h
  have hS : va_S A s.heap s.heap [] := va_S.rf
  have hl := lv_entry ([.ref (qa 0), .int a1, .int a2]) (n := 3) (Nat.le_of_ble_eq_true rfl)
  rw [lg_entry_eq]
  generalize (lg_sl ([.ref (qa 0), .int a1, .int a2]) ++ List.replicate (3 - (lg_sl ([.ref (qa 0), .int a1, .int a2])).length) Slot.unset).toArray = ls at hl ⊢
  have hl : lv_has ls 3 [(0, .ref (qa 0)), (1, .int a1), (2, .int a2)] := hl
  clear B
  generalize ([.ref (qa 0), .int a1, .int a2] : List Value).toArray = args at hts ⊢
  have key : ∀ (H : Heap) (locs : List Loc), va_P D vwCl (wM cyI cyZ qa M) H → va_D A (wM cyI cyZ qa M) → va_S A s.heap H locs → W p l e rm_X8_put s m args below meth c H locs 0 0 (MQ below (jQi D A (fun u : Mo => wM cyI cyZ qa u) o) args s 0 0 A) (F0 m 0 ls []) := by
    intro H locs hP hD hS
    have h := hf
    unfold f_X8_put at h
    refine lv_aload_n hx hb dX8_put_0 rfl (lv_at hl 0 rfl) ?_
    refine lv_iconst (v := (0 : Int32)) hx hb dX8_put_1 (by decide) ?_
    refine va_put (D := D) (ci := 8) (v := .int (0 : Int32)) (ty := .int) (C := RX8) (T := TX8) (N := 24) hx hb hts in_X8_put_X8 tyX8 tyX8_ok nmX8 hown hK.1 hP hD hS 0 rfl rfl 0 (by decide) (hts _ kw_X8_put_1) (fun _ h9 => h9) rfl (tyX8_ok 0 (by decide)) rfl rfl (Nat.le_of_ble_eq_true rfl) dX8_put_2 (fun H locs hP hD hS => ?_)
    have hP : va_P D vwCl (wM cyI cyZ qa (M.1, va_up M.2 0 (0 : Int32))) H := hP
    have hD : va_D A (wM cyI cyZ qa (M.1, va_up M.2 0 (0 : Int32))) := hD
    refine lv_aload_n hx hb dX8_put_5 rfl (lv_at hl 0 rfl) ?_
    refine lv_iload_n hx hb dX8_put_6 rfl (lv_at hl 1 rfl) ?_
    obtain ⟨z1, hz1, h⟩ := jb h
    refine jki (jrV (As := [.int a1]) (rest := []) ⟨hx, hb, hml, hown, hts⟩ (c_X8_isStep l D cyI cyZ cyT qa  a1 (M.1, va_up M.2 0 (0 : Int32)) z1 hz1) (cwV 1 hts gX8_put_X8_isStep rfl rfl rfl (by decide +kernel) ⟨Nat.le_of_ble_eq_true rfl, Nat.le_of_ble_eq_true rfl⟩) hK hP rfl 8 0 rfl rfl rfl hl.1 (Nat.le_of_ble_eq_true rfl) dX8_put_7 ⟨Nat.le_of_ble_eq_true rfl, Nat.le_of_ble_eq_true rfl⟩) ?_
    clear hz1
    refine lv_if_eq (tgt := 21) hx hb dX8_put_10 (by decide) (fun c2 => ?_) (fun c2 => ?_)
    · have h := jt c2 h
      refine lv_bipush (v := (-2 : Int32)) hx hb dX8_put_21 (by decide) ?_
      exact W.iret hx hb hr (fun t ht _ => ⟨⟨_, _, rfl, Option.some.inj h, by rw [ht]; exact hP, hD⟩, hS.F ht⟩) hS.2.2 dX8_put_23 hlocks
    · have h := jf c2 h
      refine lv_aload_n hx hb dX8_put_13 rfl (lv_at hl 0 rfl) ?_
      refine lv_iload_n hx hb dX8_put_14 rfl (lv_at hl 2 rfl) ?_
      obtain ⟨z3, hz3, h⟩ := jb h
      refine jki (jrV (As := [.int a2]) (rest := []) ⟨hx, hb, hml, hown, hts⟩ (c_X8_isMouse l D cyI cyZ cyT qa  a2 (M.1, va_up M.2 0 (0 : Int32)) z3 hz3) (cwV 1 hts gX8_put_X8_isMouse rfl rfl rfl (by decide +kernel) ⟨Nat.le_of_ble_eq_true rfl, Nat.le_of_ble_eq_true rfl⟩) hK hP rfl 8 0 rfl rfl rfl hl.1 (Nat.le_of_ble_eq_true rfl) dX8_put_15 ⟨Nat.le_of_ble_eq_true rfl, Nat.le_of_ble_eq_true rfl⟩) ?_
      clear hz3
      refine lv_if_ne (tgt := 24) hx hb dX8_put_18 (by decide) (fun c4 => ?_) (fun c4 => ?_)
      · have h := jf c4 h
        refine lv_aload_n hx hb dX8_put_24 rfl (lv_at hl 0 rfl) ?_
        refine lv_iload_n hx hb dX8_put_25 rfl (lv_at hl 2 rfl) ?_
        obtain ⟨z5, hz5, h⟩ := jb h
        refine jki (jrV (As := [.int a2]) (rest := []) ⟨hx, hb, hml, hown, hts⟩ (c_X8_isLiving l D cyI cyZ cyT qa  a2 (M.1, va_up M.2 0 (0 : Int32)) z5 hz5) (cwV 1 hts gX8_put_X8_isLiving rfl rfl rfl (by decide +kernel) ⟨Nat.le_of_ble_eq_true rfl, Nat.le_of_ble_eq_true rfl⟩) hK hP rfl 8 0 rfl rfl rfl hl.1 (Nat.le_of_ble_eq_true rfl) dX8_put_26 ⟨Nat.le_of_ble_eq_true rfl, Nat.le_of_ble_eq_true rfl⟩) ?_
        clear hz5
        refine lv_if_ne (tgt := 35) hx hb dX8_put_29 (by decide) (fun c6 => ?_) (fun c6 => ?_)
        · have h := jf c6 h
          refine lv_aload_n hx hb dX8_put_35 rfl (lv_at hl 0 rfl) ?_
          obtain ⟨z7, hz7, h⟩ := jb h
          refine jgv (w1 := fun u : Mo => wM cyI cyZ qa u) (wn := wM cyI cyZ qa z7) (jmV (As := []) (rest := []) ⟨hx, hb, hml, hown, hts⟩ (c_X8_notes l D cyI cyZ cyT qa H.size N (M.1, va_up M.2 0 (0 : Int32)) z7 hz7) (cwV 0 hts gX8_put_X8_notes rfl rfl rfl (by decide +kernel) ⟨Nat.le_of_ble_eq_true rfl, Nat.le_of_ble_eq_true rfl⟩) hK hP hD rfl 8 0 rfl rfl rfl hl.1 (Nat.le_of_ble_eq_true rfl) dX8_put_36 ⟨Nat.le_of_ble_eq_true rfl, Nat.le_of_ble_eq_true rfl⟩) hP hD hS hA [0, 1, 2, 3, 4, 5, 6, 7, 8, 9, 10, 11, 12, 13] [] [0, 1, 2, 3, 4, 5, 6, 7, 8, 9, 10, 11, 12, 13] rfl rfl (by decide) (by decide) rfl (by decide) (fun H locs hP hD hS => ?_)
          clear hz7
          refine lv_aload_n hx hb dX8_put_39 rfl (lv_at hl 0 rfl) ?_
          refine va_get (D := D) (ci := 8) (v := .ref (qa 6)) (C := RX8) (T := TX8) (N := 24) hx hb hts in_X8_put_X8 hown hK.1 hP 0 rfl rfl 14 (by decide) (hts _ kw_X8_put_2) (fun _ h9 => h9) rfl dX8_put_40 ?_
          refine lv_iconst (v := (3 : Int32)) hx hb dX8_put_43 (by decide) ?_
          refine lv_iload_n hx hb dX8_put_44 rfl (lv_at hl 1 rfl) ?_
          refine lv_iadd hx hb dX8_put_45 ?_
          refine lv_iload_n hx hb dX8_put_46 rfl (lv_at hl 2 rfl) ?_
          refine lv_iconst (v := (1 : Int32)) hx hb dX8_put_47 (by decide) ?_
          refine lv_iadd hx hb dX8_put_48 ?_
          obtain ⟨g8, h⟩ := jn h
          refine jast (w' := wM cyI cyZ qa (va_up z7.1 5 (upd (z7.1 5) ((3 : Int32) + a1).toNatClampNeg (a2 + (1 : Int32))), z7.2)) hx hb hK hP hD hS 6 rfl _ rfl g8 rfl dX8_put_49 (fun H locs hP hD hS => ?_)
          refine lv_aload_n hx hb dX8_put_50 rfl (lv_at hl 0 rfl) ?_
          obtain ⟨z9, hz9, h⟩ := jb h
          refine jki (jrV (As := []) (rest := []) ⟨hx, hb, hml, hown, hts⟩ (c_X8_done l D cyI cyZ cyT qa  N (va_up z7.1 5 (upd (z7.1 5) ((3 : Int32) + a1).toNatClampNeg (a2 + (1 : Int32))), z7.2) z9 hz9) (cwV 0 hts gX8_put_X8_done rfl rfl rfl (by decide +kernel) ⟨Nat.le_of_ble_eq_true rfl, Nat.le_of_ble_eq_true rfl⟩) hK hP rfl 8 0 rfl rfl rfl hl.1 (Nat.le_of_ble_eq_true rfl) dX8_put_51 ⟨Nat.le_of_ble_eq_true rfl, Nat.le_of_ble_eq_true rfl⟩) ?_
          clear hz9
          exact W.iret hx hb hr (fun t ht _ => ⟨⟨_, _, rfl, Option.some.inj h, by rw [ht]; exact hP, hD⟩, hS.F ht⟩) hS.2.2 dX8_put_54 hlocks
        · have h := jt c6 h
          refine lv_bipush (v := (-4 : Int32)) hx hb dX8_put_32 (by decide) ?_
          exact W.iret hx hb hr (fun t ht _ => ⟨⟨_, _, rfl, Option.some.inj h, by rw [ht]; exact hP, hD⟩, hS.F ht⟩) hS.2.2 dX8_put_34 hlocks
      · have h := jt c4 h
        refine lv_bipush (v := (-2 : Int32)) hx hb dX8_put_21 (by decide) ?_
        exact W.iret hx hb hr (fun t ht _ => ⟨⟨_, _, rfl, Option.some.inj h, by rw [ht]; exact hP, hD⟩, hS.F ht⟩) hS.2.2 dX8_put_23 hlocks
  exact key s.heap [] hP hD hS
theorem kw_X8_rat_1 : (.fieldLink RX8 50 "BellTheCatModel" "thrown" "I" : Cond) ∈ wsX8_rat := List.mem_of_getElem? (i := 1) rfl
theorem kw_X8_rat_2 : (.fieldLink RX8 22 "BellTheCatModel" "many" "[I" : Cond) ∈ wsX8_rat := List.mem_of_getElem? (i := 2) rfl
theorem kw_X8_rat_3 : (.fieldLink RX8 19 "BellTheCatModel" "rats" "[I" : Cond) ∈ wsX8_rat := List.mem_of_getElem? (i := 3) rfl
theorem in_X8_rat_X8 : ∀ w ∈ wsX80, w ∈ wsX8_rat := fun w h => List.mem_cons_of_mem _ (List.mem_append_right _ h)
abbrev rm_X8_rat : Room := { frames := 1, cells := 0, slots := 0, locals := 22 }
set_option maxHeartbeats 4000000 in
set_option maxRecDepth 100000 in
theorem c_X8_rat (l : Launch) (D : va_G) (cyI cyZ cyT : ClassId) (qa : Nat → Nat) (sz : Nat) (a1 : Int32) (a2 : Int32) (M : Mo) (o : (Int32 × Mo)) (hf : f_X8_rat a1 a2 M = some o) : Met l yX8_rat wsX8_rat rm_X8_rat (va_Pc [.ref (qa 0), .int a1, .int a2] (jM D cyI cyZ cyT (wM cyI cyZ qa M) sz)) (jQi D (va_A (wM cyI cyZ qa M) sz) (fun u : Mo => wM cyI cyZ qa u) o) 0 0 (va_A (wM cyI cyZ qa M) sz) := by
  refine Met.ofW (cc := cX8_rat) (maxL := 3) (ret := (some .int)) (by decide) rfl ?_
  intro p e s m args below meth c s₁ B hml hv
  obtain ⟨rfl, hsz, hP, hK, hD0⟩ := hv
  have hx := B.exec
  have hb := B.bytes
  have hr := B.returns
  have hts := atoms_spec (ws := wsX8_rat) B.pre
  have hown : s.vm.findClass RX8 = some m.cls := findClass_of_methodNamed B.named
  have hlocks := B.notSynchronized
  subst hsz
  have hD := hD0.self (sz := s.heap.size)
  generalize hAe : va_A (wM cyI cyZ qa M) s.heap.size = A at hD ⊢
  have hA : ∀ q : Nat, s.heap.size ≤ q → A q := fun q h => by rw [← hAe]; exact Or.inr h
  have hS : va_S A s.heap s.heap [] := va_S.rf
  have hl := lv_entry ([.ref (qa 0), .int a1, .int a2]) (n := 3) (Nat.le_of_ble_eq_true rfl)
  rw [lg_entry_eq]
  generalize (lg_sl ([.ref (qa 0), .int a1, .int a2]) ++ List.replicate (3 - (lg_sl ([.ref (qa 0), .int a1, .int a2])).length) Slot.unset).toArray = ls at hl ⊢
  have hl : lv_has ls 3 [(0, .ref (qa 0)), (1, .int a1), (2, .int a2)] := hl
  clear B
  generalize ([.ref (qa 0), .int a1, .int a2] : List Value).toArray = args at hts ⊢
  have key : ∀ (H : Heap) (locs : List Loc), va_P D vwCl (wM cyI cyZ qa M) H → va_D A (wM cyI cyZ qa M) → va_S A s.heap H locs → W p l e rm_X8_rat s m args below meth c H locs 0 0 (MQ below (jQi D A (fun u : Mo => wM cyI cyZ qa u) o) args s 0 0 A) (F0 m 0 ls []) := by
    intro H locs hP hD hS
    have h := hf
    unfold f_X8_rat at h
    refine lv_aload_n hx hb dX8_rat_0 rfl (lv_at hl 0 rfl) ?_
    refine lv_iconst (v := (0 : Int32)) hx hb dX8_rat_1 (by decide) ?_
    refine va_put (D := D) (ci := 8) (v := .int (0 : Int32)) (ty := .int) (C := RX8) (T := TX8) (N := 24) hx hb hts in_X8_rat_X8 tyX8 tyX8_ok nmX8 hown hK.1 hP hD hS 0 rfl rfl 0 (by decide) (hts _ kw_X8_rat_1) (fun _ h9 => h9) rfl (tyX8_ok 0 (by decide)) rfl rfl (Nat.le_of_ble_eq_true rfl) dX8_rat_2 (fun H locs hP hD hS => ?_)
    have hP : va_P D vwCl (wM cyI cyZ qa (M.1, va_up M.2 0 (0 : Int32))) H := hP
    have hD : va_D A (wM cyI cyZ qa (M.1, va_up M.2 0 (0 : Int32))) := hD
    refine lv_iload_n hx hb dX8_rat_5 rfl (lv_at hl 1 rfl) ?_
    refine lv_iconst (v := (0 : Int32)) hx hb dX8_rat_6 (by decide) ?_
    refine lv_aload_n hx hb dX8_rat_7 rfl (lv_at hl 0 rfl) ?_
    refine va_get (D := D) (ci := 8) (v := .ref (qa 5)) (C := RX8) (T := TX8) (N := 24) hx hb hts in_X8_rat_X8 hown hK.1 hP 0 rfl rfl 13 (by decide) (hts _ kw_X8_rat_2) (fun _ h9 => h9) rfl dX8_rat_8 ?_
    refine lv_iconst (v := (2 : Int32)) hx hb dX8_rat_11 (by decide) ?_
    refine jald hx hb hK hP 5 rfl 2 (by decide) (by decide) dX8_rat_12 ?_
    refine lv_iconst (v := (1 : Int32)) hx hb dX8_rat_13 (by decide) ?_
    refine lv_isub hx hb dX8_rat_14 ?_
    obtain ⟨z1, hz1, h⟩ := jb h
    refine jki (jrS (As := [.int a1, .int (0 : Int32), .int ((M.1 4 2) - (1 : Int32))]) (rest := []) ⟨hx, hb, hml, hown, hts⟩ (c_X8_in l D cyI cyZ cyT   a1 (0 : Int32) ((M.1 4 2) - (1 : Int32)) z1 hz1) (va_cwS 3 hts gX8_rat_X8_in rfl rfl rfl (by decide +kernel) ⟨Nat.le_of_ble_eq_true rfl, Nat.le_of_ble_eq_true rfl⟩) hK jP0 rfl rfl hl.1 (Nat.le_of_ble_eq_true rfl) dX8_rat_15 ⟨Nat.le_of_ble_eq_true rfl, Nat.le_of_ble_eq_true rfl⟩) ?_
    clear hz1
    refine lv_if_ne (tgt := 24) hx hb dX8_rat_18 (by decide) (fun c2 => ?_) (fun c2 => ?_)
    · have h := jf c2 h
      refine lv_iload_n hx hb dX8_rat_24 rfl (lv_at hl 2 rfl) ?_
      refine lv_iconst (v := (0 : Int32)) hx hb dX8_rat_25 (by decide) ?_
      refine lv_iconst (v := (2 : Int32)) hx hb dX8_rat_26 (by decide) ?_
      obtain ⟨z3, hz3, h⟩ := jb h
      refine jki (jrS (As := [.int a2, .int (0 : Int32), .int (2 : Int32)]) (rest := []) ⟨hx, hb, hml, hown, hts⟩ (c_X8_in l D cyI cyZ cyT   a2 (0 : Int32) (2 : Int32) z3 hz3) (va_cwS 3 hts gX8_rat_X8_in rfl rfl rfl (by decide +kernel) ⟨Nat.le_of_ble_eq_true rfl, Nat.le_of_ble_eq_true rfl⟩) hK jP0 rfl rfl hl.1 (Nat.le_of_ble_eq_true rfl) dX8_rat_27 ⟨Nat.le_of_ble_eq_true rfl, Nat.le_of_ble_eq_true rfl⟩) ?_
      clear hz3
      refine lv_if_eq (tgt := 46) hx hb dX8_rat_30 (by decide) (fun c4 => ?_) (fun c4 => ?_)
      · have h := jt c4 h
        refine lv_bipush (v := (-3 : Int32)) hx hb dX8_rat_46 (by decide) ?_
        exact W.iret hx hb hr (fun t ht _ => ⟨⟨_, _, rfl, Option.some.inj h, by rw [ht]; exact hP, hD⟩, hS.F ht⟩) hS.2.2 dX8_rat_48 hlocks
      · have h := jf c4 h
        refine lv_aload_n hx hb dX8_rat_33 rfl (lv_at hl 0 rfl) ?_
        refine va_get (D := D) (ci := 8) (v := .ref (qa 4)) (C := RX8) (T := TX8) (N := 24) hx hb hts in_X8_rat_X8 hown hK.1 hP 0 rfl rfl 12 (by decide) (hts _ kw_X8_rat_3) (fun _ h9 => h9) rfl dX8_rat_34 ?_
        refine lv_iconst (v := (3 : Int32)) hx hb dX8_rat_37 (by decide) ?_
        refine lv_iload_n hx hb dX8_rat_38 rfl (lv_at hl 1 rfl) ?_
        refine lv_imul hx hb dX8_rat_39 ?_
        refine lv_iload_n hx hb dX8_rat_40 rfl (lv_at hl 2 rfl) ?_
        refine lv_iadd hx hb dX8_rat_41 ?_
        obtain ⟨g5, h⟩ := jn h
        refine jald hx hb hK hP 4 rfl _ rfl g5 dX8_rat_42 ?_
        refine lv_goto (tgt := 48) hx hb dX8_rat_43 (by decide) ?_
        exact W.iret hx hb hr (fun t ht _ => ⟨⟨_, _, rfl, Option.some.inj h, by rw [ht]; exact hP, hD⟩, hS.F ht⟩) hS.2.2 dX8_rat_48 hlocks
    · have h := jt c2 h
      refine lv_bipush (v := (-2 : Int32)) hx hb dX8_rat_21 (by decide) ?_
      exact W.iret hx hb hr (fun t ht _ => ⟨⟨_, _, rfl, Option.some.inj h, by rw [ht]; exact hP, hD⟩, hS.F ht⟩) hS.2.2 dX8_rat_23 hlocks
  exact key s.heap [] hP hD hS
theorem kw_X8_worthOf_1 : (.fieldLink RX8 22 "BellTheCatModel" "many" "[I" : Cond) ∈ wsX8_worthOf := List.mem_of_getElem? (i := 1) rfl
theorem kw_X8_worthOf_2 : (.fieldLink RX8 19 "BellTheCatModel" "rats" "[I" : Cond) ∈ wsX8_worthOf := List.mem_of_getElem? (i := 2) rfl
theorem in_X8_worthOf_X8 : ∀ w ∈ wsX80, w ∈ wsX8_worthOf := fun w h => List.mem_cons_of_mem _ (List.mem_append_right _ h)
abbrev rm_X8_worthOf : Room := { frames := 0, cells := 0, slots := 0, locals := 0 }
set_option maxHeartbeats 4000000 in
set_option maxRecDepth 100000 in
theorem c_X8_worthOf (l : Launch) (D : va_G) (cyI cyZ cyT : ClassId) (qa : Nat → Nat) (a1 : Int32) (M : Mo) (o : Int32) (hf : f_X8_worthOf a1 M = some o) : Met l yX8_worthOf wsX8_worthOf rm_X8_worthOf (va_Pc [.ref (qa 0), .int a1] (jB D cyI cyZ cyT (wM cyI cyZ qa M))) (jSi o) 0 0 (fun _ => False) := by
  refine Met.ofW (cc := cX8_worthOf) (maxL := 2) (ret := (some .int)) (by decide) rfl ?_
  intro p e s m args below meth c s₁ B hml hv
  obtain ⟨rfl, hP, hK⟩ := hv
  have hx := B.exec
  have hb := B.bytes
  have hr := B.returns
  have hts := atoms_spec (ws := wsX8_worthOf) B.pre
  have hown : s.vm.findClass RX8 = some m.cls := findClass_of_methodNamed B.named
  have hlocks := B.notSynchronized
  have hl := lv_entry ([.ref (qa 0), .int a1]) (n := 2) (Nat.le_of_ble_eq_true rfl)
  rw [lg_entry_eq]
  generalize (lg_sl ([.ref (qa 0), .int a1]) ++ List.replicate (2 - (lg_sl ([.ref (qa 0), .int a1])).length) Slot.unset).toArray = ls at hl ⊢
  have hl : lv_has ls 2 [(0, .ref (qa 0)), (1, .int a1)] := hl
  clear B
  generalize ([.ref (qa 0), .int a1] : List Value).toArray = args at hts ⊢
  have key : ∀ (H : Heap), va_P D vwCl (wM cyI cyZ qa M) H → H = s.heap → W p l e rm_X8_worthOf s m args below meth c H [] 0 0 (MQ below (jSi o) args s 0 0 (fun _ => False)) (F0 m 0 ls []) := by
    intro H hP hH
    have h := hf
    unfold f_X8_worthOf at h
    refine lv_aload_n hx hb dX8_worthOf_0 rfl (lv_at hl 0 rfl) ?_
    refine va_get (D := D) (ci := 8) (v := .ref (qa 5)) (C := RX8) (T := TX8) (N := 24) hx hb hts in_X8_worthOf_X8 hown hK.1 hP 0 rfl rfl 13 (by decide) (hts _ kw_X8_worthOf_1) (fun _ h9 => h9) rfl dX8_worthOf_1 ?_
    refine lv_iconst (v := (3 : Int32)) hx hb dX8_worthOf_4 (by decide) ?_
    refine jald hx hb hK hP 5 rfl 3 (by decide) (by decide) dX8_worthOf_5 ?_
    refine lv_aload_n hx hb dX8_worthOf_6 rfl (lv_at hl 0 rfl) ?_
    refine va_get (D := D) (ci := 8) (v := .ref (qa 4)) (C := RX8) (T := TX8) (N := 24) hx hb hts in_X8_worthOf_X8 hown hK.1 hP 0 rfl rfl 12 (by decide) (hts _ kw_X8_worthOf_2) (fun _ h9 => h9) rfl dX8_worthOf_7 ?_
    refine lv_iconst (v := (3 : Int32)) hx hb dX8_worthOf_10 (by decide) ?_
    refine lv_iload_n hx hb dX8_worthOf_11 rfl (lv_at hl 1 rfl) ?_
    refine lv_imul hx hb dX8_worthOf_12 ?_
    refine lv_iconst (v := (1 : Int32)) hx hb dX8_worthOf_13 (by decide) ?_
    refine lv_iadd hx hb dX8_worthOf_14 ?_
    obtain ⟨g1, h⟩ := jn h
    refine jald hx hb hK hP 4 rfl _ rfl g1 dX8_worthOf_15 ?_
    refine lv_imul hx hb dX8_worthOf_16 ?_
    refine lv_aload_n hx hb dX8_worthOf_17 rfl (lv_at hl 0 rfl) ?_
    refine va_get (D := D) (ci := 8) (v := .ref (qa 4)) (C := RX8) (T := TX8) (N := 24) hx hb hts in_X8_worthOf_X8 hown hK.1 hP 0 rfl rfl 12 (by decide) (hts _ kw_X8_worthOf_2) (fun _ h9 => h9) rfl dX8_worthOf_18 ?_
    refine lv_iconst (v := (3 : Int32)) hx hb dX8_worthOf_21 (by decide) ?_
    refine lv_iload_n hx hb dX8_worthOf_22 rfl (lv_at hl 1 rfl) ?_
    refine lv_imul hx hb dX8_worthOf_23 ?_
    refine lv_iconst (v := (2 : Int32)) hx hb dX8_worthOf_24 (by decide) ?_
    refine lv_iadd hx hb dX8_worthOf_25 ?_
    obtain ⟨g2, h⟩ := jn h
    refine jald hx hb hK hP 4 rfl _ rfl g2 dX8_worthOf_26 ?_
    refine lv_imul hx hb dX8_worthOf_27 ?_
    refine lv_bipush (v := (100 : Int32)) hx hb dX8_worthOf_28 (by decide) ?_
    refine lv_aload_n hx hb dX8_worthOf_30 rfl (lv_at hl 0 rfl) ?_
    refine va_get (D := D) (ci := 8) (v := .ref (qa 4)) (C := RX8) (T := TX8) (N := 24) hx hb hts in_X8_worthOf_X8 hown hK.1 hP 0 rfl rfl 12 (by decide) (hts _ kw_X8_worthOf_2) (fun _ h9 => h9) rfl dX8_worthOf_31 ?_
    refine lv_iconst (v := (3 : Int32)) hx hb dX8_worthOf_34 (by decide) ?_
    refine lv_iload_n hx hb dX8_worthOf_35 rfl (lv_at hl 1 rfl) ?_
    refine lv_imul hx hb dX8_worthOf_36 ?_
    obtain ⟨g3, h⟩ := jn h
    refine jald hx hb hK hP 4 rfl _ rfl g3 dX8_worthOf_37 ?_
    refine lv_imul hx hb dX8_worthOf_38 ?_
    refine lv_isub hx hb dX8_worthOf_39 ?_
    exact W.iret hx hb hr (fun t ht _ => ⟨_, rfl, Option.some.inj h, ht.trans hH⟩) (fun q h => by cases h) dX8_worthOf_40 hlocks
  exact key s.heap hP rfl
theorem kw_X8_rats_1 : (.fieldLink RX8 50 "BellTheCatModel" "thrown" "I" : Cond) ∈ wsX8_rats := List.mem_of_getElem? (i := 1) rfl
theorem kw_X8_rats_2 : (.fieldLink RX8 22 "BellTheCatModel" "many" "[I" : Cond) ∈ wsX8_rats := List.mem_of_getElem? (i := 2) rfl
theorem in_X8_rats_X8 : ∀ w ∈ wsX80, w ∈ wsX8_rats := fun w h => List.mem_cons_of_mem _ (List.mem_append_right _ h)
abbrev rm_X8_rats : Room := { frames := 1, cells := 0, slots := 0, locals := 22 }
set_option maxHeartbeats 4000000 in
set_option maxRecDepth 100000 in
theorem c_X8_rats (l : Launch) (D : va_G) (cyI cyZ cyT : ClassId) (qa : Nat → Nat) (sz : Nat) (N : Nat) (a1 : Int32) (M : Mo) (o : (Int32 × Mo)) (hf : f_X8_rats N a1 M = some o) : Met l yX8_rats wsX8_rats rm_X8_rats (va_Pc [.ref (qa 0), .int a1] (jM D cyI cyZ cyT (wM cyI cyZ qa M) sz)) (jQi D (va_A (wM cyI cyZ qa M) sz) (fun u : Mo => wM cyI cyZ qa u) o) 0 0 (va_A (wM cyI cyZ qa M) sz) := by
  refine Met.ofW (cc := cX8_rats) (maxL := 5) (ret := (some .int)) (by decide) rfl ?_
  intro p e s m args below meth c s₁ B hml hv
  obtain ⟨rfl, hsz, hP, hK, hD0⟩ := hv
  have hx := B.exec
  have hb := B.bytes
  have hr := B.returns
  have hts := atoms_spec (ws := wsX8_rats) B.pre
  have hown : s.vm.findClass RX8 = some m.cls := findClass_of_methodNamed B.named
  have hlocks := B.notSynchronized
  subst hsz
  have hD := hD0.self (sz := s.heap.size)
  generalize hAe : va_A (wM cyI cyZ qa M) s.heap.size = A at hD ⊢
  have hA : ∀ q : Nat, s.heap.size ≤ q → A q := fun q h => by rw [← hAe]; exact Or.inr h
  have hS : va_S A s.heap s.heap [] := va_S.rf
  have hl := lv_entry ([.ref (qa 0), .int a1]) (n := 5) (Nat.le_of_ble_eq_true rfl)
  rw [lg_entry_eq]
  generalize (lg_sl ([.ref (qa 0), .int a1]) ++ List.replicate (5 - (lg_sl ([.ref (qa 0), .int a1])).length) Slot.unset).toArray = ls at hl ⊢
  have hl : lv_has ls 5 [(0, .ref (qa 0)), (1, .int a1)] := hl
  clear B
  generalize ([.ref (qa 0), .int a1] : List Value).toArray = args at hts ⊢
  have key : ∀ (H : Heap) (locs : List Loc), va_P D vwCl (wM cyI cyZ qa M) H → va_D A (wM cyI cyZ qa M) → va_S A s.heap H locs → W p l e rm_X8_rats s m args below meth c H locs 0 0 (MQ below (jQi D A (fun u : Mo => wM cyI cyZ qa u) o) args s 0 0 A) (F0 m 0 ls []) := by
    intro H locs hP hD hS
    have h := hf
    unfold f_X8_rats at h
    refine lv_aload_n hx hb dX8_rats_0 rfl (lv_at hl 0 rfl) ?_
    refine lv_iconst (v := (0 : Int32)) hx hb dX8_rats_1 (by decide) ?_
    refine va_put (D := D) (ci := 8) (v := .int (0 : Int32)) (ty := .int) (C := RX8) (T := TX8) (N := 24) hx hb hts in_X8_rats_X8 tyX8 tyX8_ok nmX8 hown hK.1 hP hD hS 0 rfl rfl 0 (by decide) (hts _ kw_X8_rats_1) (fun _ h9 => h9) rfl (tyX8_ok 0 (by decide)) rfl rfl (Nat.le_of_ble_eq_true rfl) dX8_rats_2 (fun H locs hP hD hS => ?_)
    have hP : va_P D vwCl (wM cyI cyZ qa (M.1, va_up M.2 0 (0 : Int32))) H := hP
    have hD : va_D A (wM cyI cyZ qa (M.1, va_up M.2 0 (0 : Int32))) := hD
    refine lv_iload_n hx hb dX8_rats_5 rfl (lv_at hl 1 rfl) ?_
    refine lv_iconst (v := (0 : Int32)) hx hb dX8_rats_6 (by decide) ?_
    refine lv_iconst (v := (1 : Int32)) hx hb dX8_rats_7 (by decide) ?_
    obtain ⟨z1, hz1, h⟩ := jb h
    refine jki (jrS (As := [.int a1, .int (0 : Int32), .int (1 : Int32)]) (rest := []) ⟨hx, hb, hml, hown, hts⟩ (c_X8_in l D cyI cyZ cyT   a1 (0 : Int32) (1 : Int32) z1 hz1) (va_cwS 3 hts gX8_rats_X8_in rfl rfl rfl (by decide +kernel) ⟨Nat.le_of_ble_eq_true rfl, Nat.le_of_ble_eq_true rfl⟩) hK jP0 rfl rfl hl.1 (Nat.le_of_ble_eq_true rfl) dX8_rats_8 ⟨Nat.le_of_ble_eq_true rfl, Nat.le_of_ble_eq_true rfl⟩) ?_
    clear hz1
    refine lv_if_ne (tgt := 17) hx hb dX8_rats_11 (by decide) (fun c2 => ?_) (fun c2 => ?_)
    · have h := jf c2 h
      refine lv_iconst (v := (-1 : Int32)) hx hb dX8_rats_17 (by decide) ?_
      refine lv_istore_n (lv' := [(2, .int (-1 : Int32)), (0, .ref (qa 0)), (1, .int a1)]) hx hb dX8_rats_18 rfl hl (by decide) rfl (fun ls hl => ?_)
      refine lv_iconst (v := (0 : Int32)) hx hb dX8_rats_19 (by decide) ?_
      refine lv_istore_n (lv' := [(3, .int (0 : Int32)), (2, .int (-1 : Int32)), (0, .ref (qa 0)), (1, .int a1)]) hx hb dX8_rats_20 rfl hl (by decide) rfl (fun ls hl => ?_)
      refine lv_iconst (v := (0 : Int32)) hx hb dX8_rats_21 (by decide) ?_
      refine lv_istore (lv' := [(4, .int (0 : Int32)), (3, .int (0 : Int32)), (2, .int (-1 : Int32)), (0, .ref (qa 0)), (1, .int a1)]) hx hb dX8_rats_22 hl (by decide) rfl (fun ls hl => ?_)
      obtain ⟨r3, hz3, h3_⟩ := jb h
      have hex3 : ∀ e3 : (Int32 × Int32), r3 = e3 → ∀ (H : Heap) (locs : List Loc), va_P D vwCl (wM cyI cyZ qa (M.1, va_up M.2 0 (0 : Int32))) H → va_D A (wM cyI cyZ qa (M.1, va_up M.2 0 (0 : Int32))) → va_S A s.heap H locs → ∀ (ls : Array Slot), lv_has ls 5 [(1, .int a1), (2, .int e3.1), (3, .int e3.2)] → W p l e rm_X8_rats s m args below meth c H locs 0 0 (MQ below (jQi D A (fun u : Mo => wM cyI cyZ qa u) o) args s 0 0 A) (F0 m 79 ls []) := by
        intro e3 he H locs hP hD hS ls hl
        rw [he] at h3_
        have h := h3_
        clear hz3
        refine lv_iload_n hx hb dX8_rats_79 rfl (lv_at hl 1 rfl) ?_
        refine lv_iconst (v := (-1 : Int32)) hx hb dX8_rats_80 (by decide) ?_
        refine lv_icmp_eq (tgt := 88) hx hb dX8_rats_81 (by decide) (fun c12 => ?_) (fun c12 => ?_)
        · have h := jt c12 h
          refine lv_iload_n hx hb dX8_rats_88 rfl (lv_at hl 1 rfl) ?_
          refine lv_goto (tgt := 93) hx hb dX8_rats_89 (by decide) ?_
          exact W.iret hx hb hr (fun t ht _ => ⟨⟨_, _, rfl, Option.some.inj h, by rw [ht]; exact hP, hD⟩, hS.F ht⟩) hS.2.2 dX8_rats_93 hlocks
        · have h := jf c12 h
          refine lv_iload_n hx hb dX8_rats_84 rfl (lv_at hl 0 rfl) ?_
          refine lv_if_ne (tgt := 92) hx hb dX8_rats_85 (by decide) (fun c13 => ?_) (fun c13 => ?_)
          · have h := jf c13 h
            refine lv_iload_n hx hb dX8_rats_92 rfl (lv_at hl 2 rfl) ?_
            exact W.iret hx hb hr (fun t ht _ => ⟨⟨_, _, rfl, Option.some.inj h, by rw [ht]; exact hP, hD⟩, hS.F ht⟩) hS.2.2 dX8_rats_93 hlocks
          · have h := jt c13 h
            refine lv_iload_n hx hb dX8_rats_88 rfl (lv_at hl 1 rfl) ?_
            refine lv_goto (tgt := 93) hx hb dX8_rats_89 (by decide) ?_
            exact W.iret hx hb hr (fun t ht _ => ⟨⟨_, _, rfl, Option.some.inj h, by rw [ht]; exact hP, hD⟩, hS.F ht⟩) hS.2.2 dX8_rats_93 hlocks
      have hlp3 : ∀ (nn : Nat) (z3 : (Int32 × Int32 × Int32)), jw (X8_rats_s24 M) nn z3 = some r3 → ∀ (H : Heap) (locs : List Loc), va_P D vwCl (wM cyI cyZ qa (M.1, va_up M.2 0 (0 : Int32))) H → va_D A (wM cyI cyZ qa (M.1, va_up M.2 0 (0 : Int32))) → va_S A s.heap H locs → ∀ (ls : Array Slot), lv_has ls 5 [(0, .ref (qa 0)), (1, .int a1), (2, .int z3.1), (3, .int z3.2.1), (4, .int z3.2.2)] → W p l e rm_X8_rats s m args below meth c H locs 0 0 (MQ below (jQi D A (fun u : Mo => wM cyI cyZ qa u) o) args s 0 0 A) (F0 m 24 ls []) := by
        refine jw_P (r := r3) (P := fun z3 : (Int32 × Int32 × Int32) => ∀ (H : Heap) (locs : List Loc), va_P D vwCl (wM cyI cyZ qa (M.1, va_up M.2 0 (0 : Int32))) H → va_D A (wM cyI cyZ qa (M.1, va_up M.2 0 (0 : Int32))) → va_S A s.heap H locs → ∀ (ls : Array Slot), lv_has ls 5 [(0, .ref (qa 0)), (1, .int a1), (2, .int z3.1), (3, .int z3.2.1), (4, .int z3.2.2)] → W p l e rm_X8_rats s m args below meth c H locs 0 0 (MQ below (jQi D A (fun u : Mo => wM cyI cyZ qa u) o) args s 0 0 A) (F0 m 24 ls [])) ?_
        intro z3 x3 h hin hout H locs hP hD hS ls hl
        unfold X8_rats_s24 at h
        refine lv_iload hx hb dX8_rats_24 (lv_at hl 4 rfl) ?_
        refine lv_aload_n hx hb dX8_rats_26 rfl (lv_at hl 0 rfl) ?_
        refine va_get (D := D) (ci := 8) (v := .ref (qa 5)) (C := RX8) (T := TX8) (N := 24) hx hb hts in_X8_rats_X8 hown hK.1 hP 0 rfl rfl 13 (by decide) (hts _ kw_X8_rats_2) (fun _ h9 => h9) rfl dX8_rats_27 ?_
        refine lv_iconst (v := (2 : Int32)) hx hb dX8_rats_30 (by decide) ?_
        refine jald hx hb hK hP 5 rfl 2 (by decide) (by decide) dX8_rats_31 ?_
        refine lv_icmp_ge (tgt := 79) hx hb dX8_rats_32 (by decide) (fun c4 => ?_) (fun c4 => ?_)
        · have h := jt c4 h
          exact hex3 _ (hout _ (Option.some.inj h).symm).symm H locs hP hD hS ls (lv_sub hl [1, 2, 3] rfl)
        · have h := jf c4 h
          refine lv_aload_n hx hb dX8_rats_35 rfl (lv_at hl 0 rfl) ?_
          refine lv_iload hx hb dX8_rats_36 (lv_at hl 4 rfl) ?_
          obtain ⟨z5, hz5, h⟩ := jb h
          refine jki (jrV (As := [.int z3.2.2]) (rest := []) ⟨hx, hb, hml, hown, hts⟩ (c_X8_worthOf l D cyI cyZ cyT qa  z3.2.2 (M.1, va_up M.2 0 (0 : Int32)) z5 hz5) (cwV 1 hts gX8_rats_X8_worthOf rfl rfl rfl (by decide +kernel) ⟨Nat.le_of_ble_eq_true rfl, Nat.le_of_ble_eq_true rfl⟩) hK hP rfl 8 0 rfl rfl rfl hl.1 (Nat.le_of_ble_eq_true rfl) dX8_rats_38 ⟨Nat.le_of_ble_eq_true rfl, Nat.le_of_ble_eq_true rfl⟩) ?_
          clear hz5
          refine lv_iload_n hx hb dX8_rats_41 rfl (lv_at hl 3 rfl) ?_
          obtain ⟨z6, hz6, h⟩ := jb h
          have hk6 : ∀ (H : Heap) (locs : List Loc), va_P D vwCl (wM cyI cyZ qa (M.1, va_up M.2 0 (0 : Int32))) H → va_D A (wM cyI cyZ qa (M.1, va_up M.2 0 (0 : Int32))) → va_S A s.heap H locs → ∀ (ls : Array Slot), lv_has ls 5 [(0, .ref (qa 0)), (1, .int a1), (3, .int z3.2.1), (4, .int z3.2.2)] → W p l e rm_X8_rats s m args below meth c H locs 0 0 (MQ below (jQi D A (fun u : Mo => wM cyI cyZ qa u) o) args s 0 0 A) (F0 m 51 ls [.int z6]) := by
            intro H locs hP hD hS ls hl
            refine lv_istore_n (lv' := [(2, .int z6), (0, .ref (qa 0)), (1, .int a1), (3, .int z3.2.1), (4, .int z3.2.2)]) hx hb dX8_rats_51 rfl hl (by decide) rfl (fun ls hl => ?_)
            refine lv_aload_n hx hb dX8_rats_52 rfl (lv_at hl 1 rfl) ?_
            refine lv_iload hx hb dX8_rats_53 (lv_at hl 4 rfl) ?_
            obtain ⟨z8, hz8, h⟩ := jb h
            refine jki (jrV (As := [.int z3.2.2]) (rest := []) ⟨hx, hb, hml, hown, hts⟩ (c_X8_worthOf l D cyI cyZ cyT qa  z3.2.2 (M.1, va_up M.2 0 (0 : Int32)) z8 hz8) (cwV 1 hts gX8_rats_X8_worthOf rfl rfl rfl (by decide +kernel) ⟨Nat.le_of_ble_eq_true rfl, Nat.le_of_ble_eq_true rfl⟩) hK hP rfl 8 0 rfl rfl rfl hl.1 (Nat.le_of_ble_eq_true rfl) dX8_rats_55 ⟨Nat.le_of_ble_eq_true rfl, Nat.le_of_ble_eq_true rfl⟩) ?_
            clear hz8
            refine lv_iload_n hx hb dX8_rats_58 rfl (lv_at hl 3 rfl) ?_
            obtain ⟨z9, hz9, h⟩ := jb h
            have hk9 : ∀ (H : Heap) (locs : List Loc), va_P D vwCl (wM cyI cyZ qa (M.1, va_up M.2 0 (0 : Int32))) H → va_D A (wM cyI cyZ qa (M.1, va_up M.2 0 (0 : Int32))) → va_S A s.heap H locs → ∀ (ls : Array Slot), lv_has ls 5 [(0, .ref (qa 0)), (1, .int a1), (2, .int z6), (4, .int z3.2.2)] → W p l e rm_X8_rats s m args below meth c H locs 0 0 (MQ below (jQi D A (fun u : Mo => wM cyI cyZ qa u) o) args s 0 0 A) (F0 m 72 ls [.int z9]) := by
              intro H locs hP hD hS ls hl
              refine lv_istore_n (lv' := [(3, .int z9), (0, .ref (qa 0)), (1, .int a1), (2, .int z6), (4, .int z3.2.2)]) hx hb dX8_rats_72 rfl hl (by decide) rfl (fun ls hl => ?_)
              refine lv_iinc (v := z3.2.2 + (1 : Int32)) (lv' := [(4, .int (z3.2.2 + (1 : Int32))), (3, .int z9), (0, .ref (qa 0)), (1, .int a1), (2, .int z6)]) hx hb dX8_rats_73 hl (k := 4) rfl rfl (by decide) rfl (fun ls hl => ?_)
              refine lv_goto (tgt := 24) hx hb dX8_rats_76 (by decide) ?_
              exact hin _ (Option.some.inj h).symm H locs hP hD hS ls (lv_sub hl [2, 3, 4, 1, 0] rfl)
            clear h
            have h := hz9
            clear hz9
            refine lv_icmp_le (tgt := 71) hx hb dX8_rats_59 (by decide) (fun c10 => ?_) (fun c10 => ?_)
            · have h := jt c10 h
              refine lv_iload_n hx hb dX8_rats_71 rfl (lv_at hl 3 rfl) ?_
              obtain rfl := Option.some.inj h
              exact hk9 H locs hP hD hS ls (lv_sub hl [1, 2, 0, 4] rfl)
            · have h := jf c10 h
              refine lv_aload_n hx hb dX8_rats_62 rfl (lv_at hl 1 rfl) ?_
              refine lv_iload hx hb dX8_rats_63 (lv_at hl 4 rfl) ?_
              obtain ⟨z11, hz11, h⟩ := jb h
              refine jki (jrV (As := [.int z3.2.2]) (rest := []) ⟨hx, hb, hml, hown, hts⟩ (c_X8_worthOf l D cyI cyZ cyT qa  z3.2.2 (M.1, va_up M.2 0 (0 : Int32)) z11 hz11) (cwV 1 hts gX8_rats_X8_worthOf rfl rfl rfl (by decide +kernel) ⟨Nat.le_of_ble_eq_true rfl, Nat.le_of_ble_eq_true rfl⟩) hK hP rfl 8 0 rfl rfl rfl hl.1 (Nat.le_of_ble_eq_true rfl) dX8_rats_65 ⟨Nat.le_of_ble_eq_true rfl, Nat.le_of_ble_eq_true rfl⟩) ?_
              clear hz11
              refine lv_goto (tgt := 72) hx hb dX8_rats_68 (by decide) ?_
              obtain rfl := Option.some.inj h
              exact hk9 H locs hP hD hS ls (lv_sub hl [1, 2, 0, 4] rfl)
          clear h
          have h := hz6
          clear hz6
          refine lv_icmp_le (tgt := 50) hx hb dX8_rats_42 (by decide) (fun c7 => ?_) (fun c7 => ?_)
          · have h := jt c7 h
            refine lv_iload_n hx hb dX8_rats_50 rfl (lv_at hl 2 rfl) ?_
            obtain rfl := Option.some.inj h
            exact hk6 H locs hP hD hS ls (lv_sub hl [0, 1, 3, 4] rfl)
          · have h := jf c7 h
            refine lv_iload hx hb dX8_rats_45 (lv_at hl 4 rfl) ?_
            refine lv_goto (tgt := 51) hx hb dX8_rats_47 (by decide) ?_
            obtain rfl := Option.some.inj h
            exact hk6 H locs hP hD hS ls (lv_sub hl [0, 1, 3, 4] rfl)
      exact hlp3 _ _ hz3 H locs hP hD hS ls (lv_sub hl [3, 4, 2, 1, 0] rfl)
    · have h := jt c2 h
      refine lv_bipush (v := (-3 : Int32)) hx hb dX8_rats_14 (by decide) ?_
      exact W.iret hx hb hr (fun t ht _ => ⟨⟨_, _, rfl, Option.some.inj h, by rw [ht]; exact hP, hD⟩, hS.F ht⟩) hS.2.2 dX8_rats_16 hlocks
  exact key s.heap [] hP hD hS
theorem kw_X8_rests_1 : (.fieldLink RX8 50 "BellTheCatModel" "thrown" "I" : Cond) ∈ wsX8_rests := List.mem_of_getElem? (i := 1) rfl
theorem kw_X8_rests_2 : (.fieldLink RX8 22 "BellTheCatModel" "many" "[I" : Cond) ∈ wsX8_rests := List.mem_of_getElem? (i := 2) rfl
theorem kw_X8_rests_3 : (.fieldLink RX8 25 "BellTheCatModel" "s" "[I" : Cond) ∈ wsX8_rests := List.mem_of_getElem? (i := 3) rfl
theorem in_X8_rests_X8 : ∀ w ∈ wsX80, w ∈ wsX8_rests := fun w h => List.mem_cons_of_mem _ (List.mem_append_right _ h)
abbrev rm_X8_rests : Room := { frames := 6, cells := 0, slots := 0, locals := 145 }
set_option maxHeartbeats 4000000 in
set_option maxRecDepth 100000 in
theorem c_X8_rests (l : Launch) (D : va_G) (cyI cyZ cyT : ClassId) (qa : Nat → Nat) (sz : Nat) (N : Nat) (a1 : Int32) (a2 : Int32) (M : Mo) (o : (Int32 × Mo)) (hf : f_X8_rests N a1 a2 M = some o) : Met l yX8_rests wsX8_rests rm_X8_rests (va_Pc [.ref (qa 0), .int a1, .int a2] (jM D cyI cyZ cyT (wM cyI cyZ qa M) sz)) (jQi D (va_A (wM cyI cyZ qa M) sz) (fun u : Mo => wM cyI cyZ qa u) o) 0 0 (va_A (wM cyI cyZ qa M) sz) := by
  refine Met.ofW (cc := cX8_rests) (maxL := 5) (ret := (some .int)) (by decide) rfl ?_
  intro p e s m args below meth c s₁ B hml hv
  obtain ⟨rfl, hsz, hP, hK, hD0⟩ := hv
  have hx := B.exec
  have hb := B.bytes
  have hr := B.returns
  have hts := atoms_spec (ws := wsX8_rests) B.pre
  have hown : s.vm.findClass RX8 = some m.cls := findClass_of_methodNamed B.named
  have hlocks := B.notSynchronized
  subst hsz
  have hD := hD0.self (sz := s.heap.size)
  generalize hAe : va_A (wM cyI cyZ qa M) s.heap.size = A at hD ⊢
  have hA : ∀ q : Nat, s.heap.size ≤ q → A q := fun q h => by rw [← hAe]; exact Or.inr h
  have hS : va_S A s.heap s.heap [] := va_S.rf
  have hl := lv_entry ([.ref (qa 0), .int a1, .int a2]) (n := 5) (Nat.le_of_ble_eq_true rfl)
  rw [lg_entry_eq]
  generalize (lg_sl ([.ref (qa 0), .int a1, .int a2]) ++ List.replicate (5 - (lg_sl ([.ref (qa 0), .int a1, .int a2])).length) Slot.unset).toArray = ls at hl ⊢
  have hl : lv_has ls 5 [(0, .ref (qa 0)), (1, .int a1), (2, .int a2)] := hl
  clear B
  generalize ([.ref (qa 0), .int a1, .int a2] : List Value).toArray = args at hts ⊢
  have key : ∀ (H : Heap) (locs : List Loc), va_P D vwCl (wM cyI cyZ qa M) H → va_D A (wM cyI cyZ qa M) → va_S A s.heap H locs → W p l e rm_X8_rests s m args below meth c H locs 0 0 (MQ below (jQi D A (fun u : Mo => wM cyI cyZ qa u) o) args s 0 0 A) (F0 m 0 ls []) := by
    intro H locs hP hD hS
    have h := hf
    unfold f_X8_rests at h
    refine lv_aload_n hx hb dX8_rests_0 rfl (lv_at hl 0 rfl) ?_
    refine lv_iconst (v := (0 : Int32)) hx hb dX8_rests_1 (by decide) ?_
    refine va_put (D := D) (ci := 8) (v := .int (0 : Int32)) (ty := .int) (C := RX8) (T := TX8) (N := 24) hx hb hts in_X8_rests_X8 tyX8 tyX8_ok nmX8 hown hK.1 hP hD hS 0 rfl rfl 0 (by decide) (hts _ kw_X8_rests_1) (fun _ h9 => h9) rfl (tyX8_ok 0 (by decide)) rfl rfl (Nat.le_of_ble_eq_true rfl) dX8_rests_2 (fun H locs hP hD hS => ?_)
    have hP : va_P D vwCl (wM cyI cyZ qa (M.1, va_up M.2 0 (0 : Int32))) H := hP
    have hD : va_D A (wM cyI cyZ qa (M.1, va_up M.2 0 (0 : Int32))) := hD
    refine lv_iload_n hx hb dX8_rests_5 rfl (lv_at hl 1 rfl) ?_
    refine lv_iconst (v := (0 : Int32)) hx hb dX8_rests_6 (by decide) ?_
    refine lv_bipush (v := (99 : Int32)) hx hb dX8_rests_7 (by decide) ?_
    obtain ⟨z1, hz1, h⟩ := jb h
    refine jki (jrS (As := [.int a1, .int (0 : Int32), .int (99 : Int32)]) (rest := []) ⟨hx, hb, hml, hown, hts⟩ (c_X8_in l D cyI cyZ cyT   a1 (0 : Int32) (99 : Int32) z1 hz1) (va_cwS 3 hts gX8_rests_X8_in rfl rfl rfl (by decide +kernel) ⟨Nat.le_of_ble_eq_true rfl, Nat.le_of_ble_eq_true rfl⟩) hK jP0 rfl rfl hl.1 (Nat.le_of_ble_eq_true rfl) dX8_rests_9 ⟨Nat.le_of_ble_eq_true rfl, Nat.le_of_ble_eq_true rfl⟩) ?_
    clear hz1
    refine lv_if_eq (tgt := 24) hx hb dX8_rests_12 (by decide) (fun c2 => ?_) (fun c2 => ?_)
    · have h := jt c2 h
      refine lv_bipush (v := (-3 : Int32)) hx hb dX8_rests_24 (by decide) ?_
      exact W.iret hx hb hr (fun t ht _ => ⟨⟨_, _, rfl, Option.some.inj h, by rw [ht]; exact hP, hD⟩, hS.F ht⟩) hS.2.2 dX8_rests_26 hlocks
    · have h := jf c2 h
      refine lv_iload_n hx hb dX8_rests_15 rfl (lv_at hl 2 rfl) ?_
      refine lv_iconst (v := (0 : Int32)) hx hb dX8_rests_16 (by decide) ?_
      refine lv_iconst (v := (1 : Int32)) hx hb dX8_rests_17 (by decide) ?_
      obtain ⟨z3, hz3, h⟩ := jb h
      refine jki (jrS (As := [.int a2, .int (0 : Int32), .int (1 : Int32)]) (rest := []) ⟨hx, hb, hml, hown, hts⟩ (c_X8_in l D cyI cyZ cyT   a2 (0 : Int32) (1 : Int32) z3 hz3) (va_cwS 3 hts gX8_rests_X8_in rfl rfl rfl (by decide +kernel) ⟨Nat.le_of_ble_eq_true rfl, Nat.le_of_ble_eq_true rfl⟩) hK jP0 rfl rfl hl.1 (Nat.le_of_ble_eq_true rfl) dX8_rests_18 ⟨Nat.le_of_ble_eq_true rfl, Nat.le_of_ble_eq_true rfl⟩) ?_
      clear hz3
      refine lv_if_ne (tgt := 27) hx hb dX8_rests_21 (by decide) (fun c4 => ?_) (fun c4 => ?_)
      · have h := jf c4 h
        refine lv_iload_n hx hb dX8_rests_27 rfl (lv_at hl 2 rfl) ?_
        refine lv_iconst (v := (1 : Int32)) hx hb dX8_rests_28 (by decide) ?_
        refine lv_icmp_ne (tgt := 39) hx hb dX8_rests_29 (by decide) (fun c5 => ?_) (fun c5 => ?_)
        · have h := jf c5 h
          refine lv_iconst (v := (0 : Int32)) hx hb dX8_rests_39 (by decide) ?_
          refine lv_istore_n (lv' := [(3, .int (0 : Int32)), (0, .ref (qa 0)), (1, .int a1), (2, .int a2)]) hx hb dX8_rests_40 rfl hl (by decide) rfl (fun ls hl => ?_)
          refine lv_iconst (v := (0 : Int32)) hx hb dX8_rests_41 (by decide) ?_
          refine lv_istore (lv' := [(4, .int (0 : Int32)), (3, .int (0 : Int32)), (0, .ref (qa 0)), (1, .int a1), (2, .int a2)]) hx hb dX8_rests_42 hl (by decide) rfl (fun ls hl => ?_)
          obtain ⟨r6, hz6, h6_⟩ := jb h
          have hex6 : ∀ e6 : Int32, r6 = e6 → ∀ (H : Heap) (locs : List Loc), va_P D vwCl (wM cyI cyZ qa (M.1, va_up M.2 0 (0 : Int32))) H → va_D A (wM cyI cyZ qa (M.1, va_up M.2 0 (0 : Int32))) → va_S A s.heap H locs → ∀ (ls : Array Slot), lv_has ls 5 [(3, .int e6)] → W p l e rm_X8_rests s m args below meth c H locs 0 0 (MQ below (jQi D A (fun u : Mo => wM cyI cyZ qa u) o) args s 0 0 A) (F0 m 95 ls []) := by
            intro e6 he H locs hP hD hS ls hl
            rw [he] at h6_
            have h := h6_
            clear hz6
            refine lv_iload_n hx hb dX8_rests_95 rfl (lv_at hl 0 rfl) ?_
            exact W.iret hx hb hr (fun t ht _ => ⟨⟨_, _, rfl, Option.some.inj h, by rw [ht]; exact hP, hD⟩, hS.F ht⟩) hS.2.2 dX8_rests_96 hlocks
          have hlp6 : ∀ (nn : Nat) (z6 : (Int32 × Int32)), jw (X8_rests_s44 N a1 M) nn z6 = some r6 → ∀ (H : Heap) (locs : List Loc), va_P D vwCl (wM cyI cyZ qa (M.1, va_up M.2 0 (0 : Int32))) H → va_D A (wM cyI cyZ qa (M.1, va_up M.2 0 (0 : Int32))) → va_S A s.heap H locs → ∀ (ls : Array Slot), lv_has ls 5 [(0, .ref (qa 0)), (1, .int a1), (3, .int z6.1), (4, .int z6.2)] → W p l e rm_X8_rests s m args below meth c H locs 0 0 (MQ below (jQi D A (fun u : Mo => wM cyI cyZ qa u) o) args s 0 0 A) (F0 m 44 ls []) := by
            refine jw_P (r := r6) (P := fun z6 : (Int32 × Int32) => ∀ (H : Heap) (locs : List Loc), va_P D vwCl (wM cyI cyZ qa (M.1, va_up M.2 0 (0 : Int32))) H → va_D A (wM cyI cyZ qa (M.1, va_up M.2 0 (0 : Int32))) → va_S A s.heap H locs → ∀ (ls : Array Slot), lv_has ls 5 [(0, .ref (qa 0)), (1, .int a1), (3, .int z6.1), (4, .int z6.2)] → W p l e rm_X8_rests s m args below meth c H locs 0 0 (MQ below (jQi D A (fun u : Mo => wM cyI cyZ qa u) o) args s 0 0 A) (F0 m 44 ls [])) ?_
            intro z6 x6 h hin hout H locs hP hD hS ls hl
            unfold X8_rests_s44 at h
            refine lv_iload hx hb dX8_rests_44 (lv_at hl 3 rfl) ?_
            refine lv_iconst (v := (1 : Int32)) hx hb dX8_rests_46 (by decide) ?_
            refine lv_aload_n hx hb dX8_rests_47 rfl (lv_at hl 0 rfl) ?_
            refine va_get (D := D) (ci := 8) (v := .ref (qa 5)) (C := RX8) (T := TX8) (N := 24) hx hb hts in_X8_rests_X8 hown hK.1 hP 0 rfl rfl 13 (by decide) (hts _ kw_X8_rests_2) (fun _ h9 => h9) rfl dX8_rests_48 ?_
            refine lv_iconst (v := (0 : Int32)) hx hb dX8_rests_51 (by decide) ?_
            refine jald hx hb hK hP 5 rfl 0 (by decide) (by decide) dX8_rests_52 ?_
            refine lv_ishl hx hb dX8_rests_53 ?_
            refine lv_icmp_ge (tgt := 95) hx hb dX8_rests_54 (by decide) (fun c7 => ?_) (fun c7 => ?_)
            · have h := jt c7 h
              exact hex6 _ (hout _ (Option.some.inj h).symm).symm H locs hP hD hS ls (lv_sub hl [2] rfl)
            · have h := jf c7 h
              refine lv_iload_n hx hb dX8_rests_57 rfl (lv_at hl 2 rfl) ?_
              refine lv_iload hx hb dX8_rests_58 (lv_at hl 3 rfl) ?_
              refine lv_aload_n hx hb dX8_rests_60 rfl (lv_at hl 0 rfl) ?_
              refine va_get (D := D) (ci := 8) (v := .ref (qa 6)) (C := RX8) (T := TX8) (N := 24) hx hb hts in_X8_rests_X8 hown hK.1 hP 0 rfl rfl 14 (by decide) (hts _ kw_X8_rests_3) (fun _ h9 => h9) rfl dX8_rests_61 ?_
              refine lv_iconst (v := (1 : Int32)) hx hb dX8_rests_64 (by decide) ?_
              refine jald hx hb hK hP 6 rfl 1 (by decide) (by decide) dX8_rests_65 ?_
              refine lv_iconst (v := (-1 : Int32)) hx hb dX8_rests_66 (by decide) ?_
              refine lv_ixor hx hb dX8_rests_67 ?_
              refine lv_iand hx hb dX8_rests_68 ?_
              obtain ⟨z8, hz8, h⟩ := jb h
              have hk8 : ∀ (H : Heap) (locs : List Loc), va_P D vwCl (wM cyI cyZ qa (M.1, va_up M.2 0 (0 : Int32))) H → va_D A (wM cyI cyZ qa (M.1, va_up M.2 0 (0 : Int32))) → va_S A s.heap H locs → ∀ (ls : Array Slot), lv_has ls 5 [(0, .ref (qa 0)), (1, .int a1), (4, .int z6.2)] → W p l e rm_X8_rests s m args below meth c H locs 0 0 (MQ below (jQi D A (fun u : Mo => wM cyI cyZ qa u) o) args s 0 0 A) (F0 m 87 ls [.int z8, .int z6.1]) := by
                intro H locs hP hD hS ls hl
                refine lv_iadd hx hb dX8_rests_87 ?_
                refine lv_istore_n (lv' := [(3, .int (z6.1 + z8)), (0, .ref (qa 0)), (1, .int a1), (4, .int z6.2)]) hx hb dX8_rests_88 rfl hl (by decide) rfl (fun ls hl => ?_)
                refine lv_iinc (v := z6.2 + (1 : Int32)) (lv' := [(4, .int (z6.2 + (1 : Int32))), (3, .int (z6.1 + z8)), (0, .ref (qa 0)), (1, .int a1)]) hx hb dX8_rests_89 hl (k := 3) rfl rfl (by decide) rfl (fun ls hl => ?_)
                refine lv_goto (tgt := 44) hx hb dX8_rests_92 (by decide) ?_
                exact hin _ (Option.some.inj h).symm H locs hP hD hS ls (lv_sub hl [2, 3, 1, 0] rfl)
              clear h
              have h := hz8
              clear hz8
              refine lv_if_ne (tgt := 86) hx hb dX8_rests_69 (by decide) (fun c9 => ?_) (fun c9 => ?_)
              · have h := jf c9 h
                refine lv_iconst (v := (0 : Int32)) hx hb dX8_rests_86 (by decide) ?_
                obtain rfl := Option.some.inj h
                exact hk8 H locs hP hD hS ls (lv_sub hl [0, 1, 3] rfl)
              · have h := jt c9 h
                refine lv_aload_n hx hb dX8_rests_72 rfl (lv_at hl 0 rfl) ?_
                refine lv_iload hx hb dX8_rests_73 (lv_at hl 3 rfl) ?_
                refine lv_iload_n hx hb dX8_rests_75 rfl (lv_at hl 1 rfl) ?_
                obtain ⟨z10, hz10, h⟩ := jb h
                refine jki (jrV (As := [.int z6.2, .int a1]) (rest := [.int z6.1]) ⟨hx, hb, hml, hown, hts⟩ (c_X8_isAtRest l D cyI cyZ cyT qa  N z6.2 a1 (M.1, va_up M.2 0 (0 : Int32)) z10 hz10) (cwV 2 hts gX8_rests_X8_isAtRest rfl rfl rfl (by decide +kernel) ⟨Nat.le_of_ble_eq_true rfl, Nat.le_of_ble_eq_true rfl⟩) hK hP rfl 8 0 rfl rfl rfl hl.1 (Nat.le_of_ble_eq_true rfl) dX8_rests_76 ⟨Nat.le_of_ble_eq_true rfl, Nat.le_of_ble_eq_true rfl⟩) ?_
                clear hz10
                refine lv_if_eq (tgt := 86) hx hb dX8_rests_79 (by decide) (fun c11 => ?_) (fun c11 => ?_)
                · have h := jt c11 h
                  refine lv_iconst (v := (0 : Int32)) hx hb dX8_rests_86 (by decide) ?_
                  obtain rfl := Option.some.inj h
                  exact hk8 H locs hP hD hS ls (lv_sub hl [0, 1, 3] rfl)
                · have h := jf c11 h
                  refine lv_iconst (v := (1 : Int32)) hx hb dX8_rests_82 (by decide) ?_
                  refine lv_goto (tgt := 87) hx hb dX8_rests_83 (by decide) ?_
                  obtain rfl := Option.some.inj h
                  exact hk8 H locs hP hD hS ls (lv_sub hl [0, 1, 3] rfl)
          exact hlp6 _ _ hz6 H locs hP hD hS ls (lv_sub hl [2, 3, 1, 0] rfl)
        · have h := jt c5 h
          refine lv_aload_n hx hb dX8_rests_32 rfl (lv_at hl 0 rfl) ?_
          refine lv_iload_n hx hb dX8_rests_33 rfl (lv_at hl 1 rfl) ?_
          refine lv_iconst (v := (0 : Int32)) hx hb dX8_rests_34 (by decide) ?_
          obtain ⟨z12, hz12, h⟩ := jb h
          refine jki (jrV (As := [.int a1, .int (0 : Int32)]) (rest := []) ⟨hx, hb, hml, hown, hts⟩ (c_X8_leastAtRest l D cyI cyZ cyT qa  N a1 (0 : Int32) (M.1, va_up M.2 0 (0 : Int32)) z12 hz12) (cwV 2 hts gX8_rests_X8_leastAtRest rfl rfl rfl (by decide +kernel) ⟨Nat.le_of_ble_eq_true rfl, Nat.le_of_ble_eq_true rfl⟩) hK hP rfl 8 0 rfl rfl rfl hl.1 (Nat.le_of_ble_eq_true rfl) dX8_rests_35 ⟨Nat.le_of_ble_eq_true rfl, Nat.le_of_ble_eq_true rfl⟩) ?_
          clear hz12
          exact W.iret hx hb hr (fun t ht _ => ⟨⟨_, _, rfl, Option.some.inj h, by rw [ht]; exact hP, hD⟩, hS.F ht⟩) hS.2.2 dX8_rests_38 hlocks
      · have h := jt c4 h
        refine lv_bipush (v := (-3 : Int32)) hx hb dX8_rests_24 (by decide) ?_
        exact W.iret hx hb hr (fun t ht _ => ⟨⟨_, _, rfl, Option.some.inj h, by rw [ht]; exact hP, hD⟩, hS.F ht⟩) hS.2.2 dX8_rests_26 hlocks
  exact key s.heap [] hP hD hS
theorem kw_X8_rowSet_1 : (.fieldLink RX8 22 "BellTheCatModel" "many" "[I" : Cond) ∈ wsX8_rowSet := List.mem_of_getElem? (i := 1) rfl
theorem kw_X8_rowSet_2 : (.fieldLink RX8 44 "BellTheCatModel" "row" "[I" : Cond) ∈ wsX8_rowSet := List.mem_of_getElem? (i := 2) rfl
theorem in_X8_rowSet_X8 : ∀ w ∈ wsX80, w ∈ wsX8_rowSet := fun w h => List.mem_cons_of_mem _ (List.mem_append_right _ h)
abbrev rm_X8_rowSet : Room := { frames := 0, cells := 0, slots := 0, locals := 0 }
set_option maxHeartbeats 4000000 in
set_option maxRecDepth 100000 in
theorem c_X8_rowSet (l : Launch) (D : va_G) (cyI cyZ cyT : ClassId) (qa : Nat → Nat) (N : Nat) (M : Mo) (o : Int32) (hf : f_X8_rowSet N M = some o) : Met l yX8_rowSet wsX8_rowSet rm_X8_rowSet (va_Pc [.ref (qa 0)] (jB D cyI cyZ cyT (wM cyI cyZ qa M))) (jSi o) 0 0 (fun _ => False) := by
  refine Met.ofW (cc := cX8_rowSet) (maxL := 3) (ret := (some .int)) (by decide) rfl ?_
  intro p e s m args below meth c s₁ B hml hv
  obtain ⟨rfl, hP, hK⟩ := hv
  have hx := B.exec
  have hb := B.bytes
  have hr := B.returns
  have hts := atoms_spec (ws := wsX8_rowSet) B.pre
  have hown : s.vm.findClass RX8 = some m.cls := findClass_of_methodNamed B.named
  have hlocks := B.notSynchronized
  have hl := lv_entry ([.ref (qa 0)]) (n := 3) (Nat.le_of_ble_eq_true rfl)
  rw [lg_entry_eq]
  generalize (lg_sl ([.ref (qa 0)]) ++ List.replicate (3 - (lg_sl ([.ref (qa 0)])).length) Slot.unset).toArray = ls at hl ⊢
  have hl : lv_has ls 3 [(0, .ref (qa 0))] := hl
  clear B
  generalize ([.ref (qa 0)] : List Value).toArray = args at hts ⊢
  have key : ∀ (H : Heap), va_P D vwCl (wM cyI cyZ qa M) H → H = s.heap → W p l e rm_X8_rowSet s m args below meth c H [] 0 0 (MQ below (jSi o) args s 0 0 (fun _ => False)) (F0 m 0 ls []) := by
    intro H hP hH
    have h := hf
    unfold f_X8_rowSet at h
    refine lv_iconst (v := (0 : Int32)) hx hb dX8_rowSet_0 (by decide) ?_
    refine lv_istore_n (lv' := [(1, .int (0 : Int32)), (0, .ref (qa 0))]) hx hb dX8_rowSet_1 rfl hl (by decide) rfl (fun ls hl => ?_)
    refine lv_iconst (v := (0 : Int32)) hx hb dX8_rowSet_2 (by decide) ?_
    refine lv_istore_n (lv' := [(2, .int (0 : Int32)), (1, .int (0 : Int32)), (0, .ref (qa 0))]) hx hb dX8_rowSet_3 rfl hl (by decide) rfl (fun ls hl => ?_)
    obtain ⟨r1, hz1, h1_⟩ := jb h
    have hex1 : ∀ e1 : Int32, r1 = e1 → ∀ (ls : Array Slot), lv_has ls 3 [(1, .int e1)] → W p l e rm_X8_rowSet s m args below meth c H [] 0 0 (MQ below (jSi o) args s 0 0 (fun _ => False)) (F0 m 31 ls []) := by
      intro e1 he ls hl
      rw [he] at h1_
      have h := h1_
      clear hz1
      refine lv_iload_n hx hb dX8_rowSet_31 rfl (lv_at hl 0 rfl) ?_
      exact W.iret hx hb hr (fun t ht _ => ⟨_, rfl, Option.some.inj h, ht.trans hH⟩) (fun q h => by cases h) dX8_rowSet_32 hlocks
    have hlp1 : ∀ (nn : Nat) (z1 : (Int32 × Int32)), jw (X8_rowSet_s4 M) nn z1 = some r1 → ∀ (ls : Array Slot), lv_has ls 3 [(0, .ref (qa 0)), (1, .int z1.1), (2, .int z1.2)] → W p l e rm_X8_rowSet s m args below meth c H [] 0 0 (MQ below (jSi o) args s 0 0 (fun _ => False)) (F0 m 4 ls []) := by
      refine jw_P (r := r1) (P := fun z1 : (Int32 × Int32) => ∀ (ls : Array Slot), lv_has ls 3 [(0, .ref (qa 0)), (1, .int z1.1), (2, .int z1.2)] → W p l e rm_X8_rowSet s m args below meth c H [] 0 0 (MQ below (jSi o) args s 0 0 (fun _ => False)) (F0 m 4 ls [])) ?_
      intro z1 x1 h hin hout ls hl
      unfold X8_rowSet_s4 at h
      refine lv_iload_n hx hb dX8_rowSet_4 rfl (lv_at hl 2 rfl) ?_
      refine lv_aload_n hx hb dX8_rowSet_5 rfl (lv_at hl 0 rfl) ?_
      refine va_get (D := D) (ci := 8) (v := .ref (qa 5)) (C := RX8) (T := TX8) (N := 24) hx hb hts in_X8_rowSet_X8 hown hK.1 hP 0 rfl rfl 13 (by decide) (hts _ kw_X8_rowSet_1) (fun _ h9 => h9) rfl dX8_rowSet_6 ?_
      refine lv_iconst (v := (1 : Int32)) hx hb dX8_rowSet_9 (by decide) ?_
      refine jald hx hb hK hP 5 rfl 1 (by decide) (by decide) dX8_rowSet_10 ?_
      refine lv_icmp_ge (tgt := 31) hx hb dX8_rowSet_11 (by decide) (fun c2 => ?_) (fun c2 => ?_)
      · have h := jt c2 h
        exact hex1 _ (hout _ (Option.some.inj h).symm).symm ls (lv_sub hl [1] rfl)
      · have h := jf c2 h
        refine lv_iload_n hx hb dX8_rowSet_14 rfl (lv_at hl 1 rfl) ?_
        refine lv_iconst (v := (1 : Int32)) hx hb dX8_rowSet_15 (by decide) ?_
        refine lv_aload_n hx hb dX8_rowSet_16 rfl (lv_at hl 0 rfl) ?_
        refine va_get (D := D) (ci := 8) (v := .ref (qa 12)) (C := RX8) (T := TX8) (N := 24) hx hb hts in_X8_rowSet_X8 hown hK.1 hP 0 rfl rfl 22 (by decide) (hts _ kw_X8_rowSet_2) (fun _ h9 => h9) rfl dX8_rowSet_17 ?_
        refine lv_iload_n hx hb dX8_rowSet_20 rfl (lv_at hl 2 rfl) ?_
        obtain ⟨g3, h⟩ := jn h
        refine jald hx hb hK hP 12 rfl _ rfl g3 dX8_rowSet_21 ?_
        refine lv_ishl hx hb dX8_rowSet_22 ?_
        refine lv_ior hx hb dX8_rowSet_23 ?_
        refine lv_istore_n (lv' := [(1, .int (z1.1 ||| ((1 : Int32) <<< ((M.1 11 z1.2.toNatClampNeg) &&& 31)))), (0, .ref (qa 0)), (2, .int z1.2)]) hx hb dX8_rowSet_24 rfl hl (by decide) rfl (fun ls hl => ?_)
        refine lv_iinc (v := z1.2 + (1 : Int32)) (lv' := [(2, .int (z1.2 + (1 : Int32))), (1, .int (z1.1 ||| ((1 : Int32) <<< ((M.1 11 z1.2.toNatClampNeg) &&& 31)))), (0, .ref (qa 0))]) hx hb dX8_rowSet_25 hl (k := 2) rfl rfl (by decide) rfl (fun ls hl => ?_)
        refine lv_goto (tgt := 4) hx hb dX8_rowSet_28 (by decide) ?_
        exact hin _ (Option.some.inj h).symm ls (lv_sub hl [2, 1, 0] rfl)
    exact hlp1 _ _ hz1 ls (lv_sub hl [2, 1, 0] rfl)
  exact key s.heap hP rfl
theorem kw_X8_seen_1 : (.fieldLink RX8 50 "BellTheCatModel" "thrown" "I" : Cond) ∈ wsX8_seen := List.mem_of_getElem? (i := 1) rfl
theorem kw_X8_seen_2 : (.fieldLink RX8 140 "BellTheCatModel" "seenMany" "I" : Cond) ∈ wsX8_seen := List.mem_of_getElem? (i := 2) rfl
theorem kw_X8_seen_3 : (.fieldLink RX8 38 "BellTheCatModel" "seenStep" "[I" : Cond) ∈ wsX8_seen := List.mem_of_getElem? (i := 3) rfl
theorem kw_X8_seen_4 : (.fieldLink RX8 41 "BellTheCatModel" "seenMouse" "[I" : Cond) ∈ wsX8_seen := List.mem_of_getElem? (i := 4) rfl
theorem in_X8_seen_X8 : ∀ w ∈ wsX80, w ∈ wsX8_seen := fun w h => List.mem_cons_of_mem _ (List.mem_append_right _ h)
abbrev rm_X8_seen : Room := { frames := 2, cells := 0, slots := 0, locals := 43 }
set_option maxHeartbeats 4000000 in
set_option maxRecDepth 100000 in
theorem c_X8_seen (l : Launch) (D : va_G) (cyI cyZ cyT : ClassId) (qa : Nat → Nat) (sz : Nat) (a1 : Int32) (a2 : Int32) (M : Mo) (o : (Int32 × Mo)) (hf : f_X8_seen a1 a2 M = some o) : Met l yX8_seen wsX8_seen rm_X8_seen (va_Pc [.ref (qa 0), .int a1, .int a2] (jM D cyI cyZ cyT (wM cyI cyZ qa M) sz)) (jQi D (va_A (wM cyI cyZ qa M) sz) (fun u : Mo => wM cyI cyZ qa u) o) 0 0 (va_A (wM cyI cyZ qa M) sz) := by
  refine Met.ofW (cc := cX8_seen) (maxL := 3) (ret := (some .int)) (by decide) rfl ?_
  intro p e s m args below meth c s₁ B hml hv
  obtain ⟨rfl, hsz, hP, hK, hD0⟩ := hv
  have hx := B.exec
  have hb := B.bytes
  have hr := B.returns
  have hts := atoms_spec (ws := wsX8_seen) B.pre
  have hown : s.vm.findClass RX8 = some m.cls := findClass_of_methodNamed B.named
  have hlocks := B.notSynchronized
  subst hsz
  have hD := hD0.self (sz := s.heap.size)
  generalize hAe : va_A (wM cyI cyZ qa M) s.heap.size = A at hD ⊢
  have hA : ∀ q : Nat, s.heap.size ≤ q → A q := fun q h => by rw [← hAe]; exact Or.inr h
  have hS : va_S A s.heap s.heap [] := va_S.rf
  have hl := lv_entry ([.ref (qa 0), .int a1, .int a2]) (n := 3) (Nat.le_of_ble_eq_true rfl)
  rw [lg_entry_eq]
  generalize (lg_sl ([.ref (qa 0), .int a1, .int a2]) ++ List.replicate (3 - (lg_sl ([.ref (qa 0), .int a1, .int a2])).length) Slot.unset).toArray = ls at hl ⊢
  have hl : lv_has ls 3 [(0, .ref (qa 0)), (1, .int a1), (2, .int a2)] := hl
  clear B
  generalize ([.ref (qa 0), .int a1, .int a2] : List Value).toArray = args at hts ⊢
  have key : ∀ (H : Heap) (locs : List Loc), va_P D vwCl (wM cyI cyZ qa M) H → va_D A (wM cyI cyZ qa M) → va_S A s.heap H locs → W p l e rm_X8_seen s m args below meth c H locs 0 0 (MQ below (jQi D A (fun u : Mo => wM cyI cyZ qa u) o) args s 0 0 A) (F0 m 0 ls []) := by
    intro H locs hP hD hS
    have h := hf
    unfold f_X8_seen at h
    refine lv_aload_n hx hb dX8_seen_0 rfl (lv_at hl 0 rfl) ?_
    refine lv_iconst (v := (0 : Int32)) hx hb dX8_seen_1 (by decide) ?_
    refine va_put (D := D) (ci := 8) (v := .int (0 : Int32)) (ty := .int) (C := RX8) (T := TX8) (N := 24) hx hb hts in_X8_seen_X8 tyX8 tyX8_ok nmX8 hown hK.1 hP hD hS 0 rfl rfl 0 (by decide) (hts _ kw_X8_seen_1) (fun _ h9 => h9) rfl (tyX8_ok 0 (by decide)) rfl rfl (Nat.le_of_ble_eq_true rfl) dX8_seen_2 (fun H locs hP hD hS => ?_)
    have hP : va_P D vwCl (wM cyI cyZ qa (M.1, va_up M.2 0 (0 : Int32))) H := hP
    have hD : va_D A (wM cyI cyZ qa (M.1, va_up M.2 0 (0 : Int32))) := hD
    refine lv_aload_n hx hb dX8_seen_5 rfl (lv_at hl 0 rfl) ?_
    refine lv_iload_n hx hb dX8_seen_6 rfl (lv_at hl 1 rfl) ?_
    obtain ⟨z1, hz1, h⟩ := jb h
    refine jki (jrV (As := [.int a1]) (rest := []) ⟨hx, hb, hml, hown, hts⟩ (c_X8_isStep l D cyI cyZ cyT qa  a1 (M.1, va_up M.2 0 (0 : Int32)) z1 hz1) (cwV 1 hts gX8_seen_X8_isStep rfl rfl rfl (by decide +kernel) ⟨Nat.le_of_ble_eq_true rfl, Nat.le_of_ble_eq_true rfl⟩) hK hP rfl 8 0 rfl rfl rfl hl.1 (Nat.le_of_ble_eq_true rfl) dX8_seen_7 ⟨Nat.le_of_ble_eq_true rfl, Nat.le_of_ble_eq_true rfl⟩) ?_
    clear hz1
    refine lv_if_eq (tgt := 21) hx hb dX8_seen_10 (by decide) (fun c2 => ?_) (fun c2 => ?_)
    · have h := jt c2 h
      refine lv_bipush (v := (-2 : Int32)) hx hb dX8_seen_21 (by decide) ?_
      exact W.iret hx hb hr (fun t ht _ => ⟨⟨_, _, rfl, Option.some.inj h, by rw [ht]; exact hP, hD⟩, hS.F ht⟩) hS.2.2 dX8_seen_23 hlocks
    · have h := jf c2 h
      refine lv_aload_n hx hb dX8_seen_13 rfl (lv_at hl 0 rfl) ?_
      refine lv_iload_n hx hb dX8_seen_14 rfl (lv_at hl 2 rfl) ?_
      obtain ⟨z3, hz3, h⟩ := jb h
      refine jki (jrV (As := [.int a2]) (rest := []) ⟨hx, hb, hml, hown, hts⟩ (c_X8_isMouse l D cyI cyZ cyT qa  a2 (M.1, va_up M.2 0 (0 : Int32)) z3 hz3) (cwV 1 hts gX8_seen_X8_isMouse rfl rfl rfl (by decide +kernel) ⟨Nat.le_of_ble_eq_true rfl, Nat.le_of_ble_eq_true rfl⟩) hK hP rfl 8 0 rfl rfl rfl hl.1 (Nat.le_of_ble_eq_true rfl) dX8_seen_15 ⟨Nat.le_of_ble_eq_true rfl, Nat.le_of_ble_eq_true rfl⟩) ?_
      clear hz3
      refine lv_if_ne (tgt := 24) hx hb dX8_seen_18 (by decide) (fun c4 => ?_) (fun c4 => ?_)
      · have h := jf c4 h
        refine lv_aload_n hx hb dX8_seen_24 rfl (lv_at hl 0 rfl) ?_
        refine va_get (D := D) (ci := 8) (v := .int (M.2 10)) (C := RX8) (T := TX8) (N := 24) hx hb hts in_X8_seen_X8 hown hK.1 hP 0 rfl rfl 21 (by decide) (hts _ kw_X8_seen_2) (fun _ h9 => h9) rfl dX8_seen_25 ?_
        refine lv_bipush (v := (6 : Int32)) hx hb dX8_seen_28 (by decide) ?_
        refine lv_icmp_ne (tgt := 36) hx hb dX8_seen_30 (by decide) (fun c5 => ?_) (fun c5 => ?_)
        · have h := jf c5 h
          refine lv_aload_n hx hb dX8_seen_36 rfl (lv_at hl 0 rfl) ?_
          refine va_get (D := D) (ci := 8) (v := .ref (qa 10)) (C := RX8) (T := TX8) (N := 24) hx hb hts in_X8_seen_X8 hown hK.1 hP 0 rfl rfl 19 (by decide) (hts _ kw_X8_seen_3) (fun _ h9 => h9) rfl dX8_seen_37 ?_
          refine lv_aload_n hx hb dX8_seen_40 rfl (lv_at hl 0 rfl) ?_
          refine va_get (D := D) (ci := 8) (v := .int (M.2 10)) (C := RX8) (T := TX8) (N := 24) hx hb hts in_X8_seen_X8 hown hK.1 hP 0 rfl rfl 21 (by decide) (hts _ kw_X8_seen_2) (fun _ h9 => h9) rfl dX8_seen_41 ?_
          refine lv_iload_n hx hb dX8_seen_44 rfl (lv_at hl 1 rfl) ?_
          obtain ⟨g6, h⟩ := jn h
          refine jast (w' := wM cyI cyZ qa (va_up M.1 9 (upd (M.1 9) (M.2 10).toNatClampNeg a1), va_up M.2 0 (0 : Int32))) hx hb hK hP hD hS 10 rfl _ rfl g6 rfl dX8_seen_45 (fun H locs hP hD hS => ?_)
          refine lv_aload_n hx hb dX8_seen_46 rfl (lv_at hl 0 rfl) ?_
          refine va_get (D := D) (ci := 8) (v := .ref (qa 11)) (C := RX8) (T := TX8) (N := 24) hx hb hts in_X8_seen_X8 hown hK.1 hP 0 rfl rfl 20 (by decide) (hts _ kw_X8_seen_4) (fun _ h9 => h9) rfl dX8_seen_47 ?_
          refine lv_aload_n hx hb dX8_seen_50 rfl (lv_at hl 0 rfl) ?_
          refine va_get (D := D) (ci := 8) (v := .int (M.2 10)) (C := RX8) (T := TX8) (N := 24) hx hb hts in_X8_seen_X8 hown hK.1 hP 0 rfl rfl 21 (by decide) (hts _ kw_X8_seen_2) (fun _ h9 => h9) rfl dX8_seen_51 ?_
          refine lv_iload_n hx hb dX8_seen_54 rfl (lv_at hl 2 rfl) ?_
          obtain ⟨g7, h⟩ := jn h
          refine jast (w' := wM cyI cyZ qa (va_up (va_up M.1 9 (upd (M.1 9) (M.2 10).toNatClampNeg a1)) 10 (upd (M.1 10) (M.2 10).toNatClampNeg a2), va_up M.2 0 (0 : Int32))) hx hb hK hP hD hS 11 rfl _ rfl g7 rfl dX8_seen_55 (fun H locs hP hD hS => ?_)
          refine lv_aload_n hx hb dX8_seen_56 rfl (lv_at hl 0 rfl) ?_
          refine lv_dup hx hb dX8_seen_57 rfl ?_
          refine va_get (D := D) (ci := 8) (v := .int (M.2 10)) (C := RX8) (T := TX8) (N := 24) hx hb hts in_X8_seen_X8 hown hK.1 hP 0 rfl rfl 21 (by decide) (hts _ kw_X8_seen_2) (fun _ h9 => h9) rfl dX8_seen_58 ?_
          refine lv_iconst (v := (1 : Int32)) hx hb dX8_seen_61 (by decide) ?_
          refine lv_iadd hx hb dX8_seen_62 ?_
          refine va_put (D := D) (ci := 8) (v := .int ((M.2 10) + (1 : Int32))) (ty := .int) (C := RX8) (T := TX8) (N := 24) hx hb hts in_X8_seen_X8 tyX8 tyX8_ok nmX8 hown hK.1 hP hD hS 0 rfl rfl 21 (by decide) (hts _ kw_X8_seen_2) (fun _ h9 => h9) rfl (tyX8_ok 21 (by decide)) rfl rfl (Nat.le_of_ble_eq_true rfl) dX8_seen_63 (fun H locs hP hD hS => ?_)
          have hP : va_P D vwCl (wM cyI cyZ qa (va_up (va_up M.1 9 (upd (M.1 9) (M.2 10).toNatClampNeg a1)) 10 (upd (M.1 10) (M.2 10).toNatClampNeg a2), va_up (va_up M.2 0 (0 : Int32)) 10 ((M.2 10) + (1 : Int32)))) H := hP
          have hD : va_D A (wM cyI cyZ qa (va_up (va_up M.1 9 (upd (M.1 9) (M.2 10).toNatClampNeg a1)) 10 (upd (M.1 10) (M.2 10).toNatClampNeg a2), va_up (va_up M.2 0 (0 : Int32)) 10 ((M.2 10) + (1 : Int32)))) := hD
          refine lv_aload_n hx hb dX8_seen_66 rfl (lv_at hl 0 rfl) ?_
          refine va_get (D := D) (ci := 8) (v := .int ((M.2 10) + (1 : Int32))) (C := RX8) (T := TX8) (N := 24) hx hb hts in_X8_seen_X8 hown hK.1 hP 0 rfl rfl 21 (by decide) (hts _ kw_X8_seen_2) (fun _ h9 => h9) rfl dX8_seen_67 ?_
          exact W.iret hx hb hr (fun t ht _ => ⟨⟨_, _, rfl, Option.some.inj h, by rw [ht]; exact hP, hD⟩, hS.F ht⟩) hS.2.2 dX8_seen_70 hlocks
        · have h := jt c5 h
          refine lv_bipush (v := (-5 : Int32)) hx hb dX8_seen_33 (by decide) ?_
          exact W.iret hx hb hr (fun t ht _ => ⟨⟨_, _, rfl, Option.some.inj h, by rw [ht]; exact hP, hD⟩, hS.F ht⟩) hS.2.2 dX8_seen_35 hlocks
      · have h := jt c4 h
        refine lv_bipush (v := (-2 : Int32)) hx hb dX8_seen_21 (by decide) ?_
        exact W.iret hx hb hr (fun t ht _ => ⟨⟨_, _, rfl, Option.some.inj h, by rw [ht]; exact hP, hD⟩, hS.F ht⟩) hS.2.2 dX8_seen_23 hlocks
  exact key s.heap [] hP hD hS
theorem kw_X8_shoe_1 : (.fieldLink RX8 50 "BellTheCatModel" "thrown" "I" : Cond) ∈ wsX8_shoe := List.mem_of_getElem? (i := 1) rfl
theorem kw_X8_shoe_2 : (.constantLong RX8 241 (-2) : Cond) ∈ wsX8_shoe := List.mem_of_getElem? (i := 2) rfl
theorem kw_X8_shoe_3 : (.constantLong RX8 243 (-3) : Cond) ∈ wsX8_shoe := List.mem_of_getElem? (i := 3) rfl
theorem kw_X8_shoe_4 : (.fieldLink RX8 13 "BellTheCatModel" "mice" "[I" : Cond) ∈ wsX8_shoe := List.mem_of_getElem? (i := 4) rfl
theorem kw_X8_shoe_5 : (.fieldLink RX8 16 "BellTheCatModel" "noise" "[I" : Cond) ∈ wsX8_shoe := List.mem_of_getElem? (i := 5) rfl
theorem kw_X8_shoe_6 : (.constantLong RX8 175 (10) : Cond) ∈ wsX8_shoe := List.mem_of_getElem? (i := 6) rfl
theorem in_X8_shoe_X8 : ∀ w ∈ wsX80, w ∈ wsX8_shoe := fun w h => List.mem_cons_of_mem _ (List.mem_append_right _ h)
abbrev rm_X8_shoe : Room := { frames := 2, cells := 0, slots := 0, locals := 55 }
set_option maxHeartbeats 4000000 in
set_option maxRecDepth 100000 in
theorem c_X8_shoe (l : Launch) (D : va_G) (cyI cyZ cyT : ClassId) (qa : Nat → Nat) (sz : Nat) (N : Nat) (a1 : Int32) (a2 : Int32) (a3 : Int32) (a4 : Int32) (a5 : Int32) (M : Mo) (o : (Int64 × Mo)) (hf : f_X8_shoe N a1 a2 a3 a4 a5 M = some o) : Met l yX8_shoe wsX8_shoe rm_X8_shoe (va_Pc [.ref (qa 0), .int a1, .int a2, .int a3, .int a4, .int a5] (jM D cyI cyZ cyT (wM cyI cyZ qa M) sz)) (jQl D (va_A (wM cyI cyZ qa M) sz) (fun u : Mo => wM cyI cyZ qa u) o) 0 0 (va_A (wM cyI cyZ qa M) sz) := by
  refine Met.ofW (cc := cX8_shoe) (maxL := 11) (ret := (some .long)) (by decide) rfl ?_
  intro p e s m args below meth c s₁ B hml hv
  obtain ⟨rfl, hsz, hP, hK, hD0⟩ := hv
  have hx := B.exec
  have hb := B.bytes
  have hr := B.returns
  have hts := atoms_spec (ws := wsX8_shoe) B.pre
  have hown : s.vm.findClass RX8 = some m.cls := findClass_of_methodNamed B.named
  have hlocks := B.notSynchronized
  subst hsz
  have hD := hD0.self (sz := s.heap.size)
  generalize hAe : va_A (wM cyI cyZ qa M) s.heap.size = A at hD ⊢
  have hA : ∀ q : Nat, s.heap.size ≤ q → A q := fun q h => by rw [← hAe]; exact Or.inr h
  have hS : va_S A s.heap s.heap [] := va_S.rf
  have hl := lv_entry ([.ref (qa 0), .int a1, .int a2, .int a3, .int a4, .int a5]) (n := 11) (Nat.le_of_ble_eq_true rfl)
  rw [lg_entry_eq]
  generalize (lg_sl ([.ref (qa 0), .int a1, .int a2, .int a3, .int a4, .int a5]) ++ List.replicate (11 - (lg_sl ([.ref (qa 0), .int a1, .int a2, .int a3, .int a4, .int a5])).length) Slot.unset).toArray = ls at hl ⊢
  have hl : lv_has ls 11 [(0, .ref (qa 0)), (1, .int a1), (2, .int a2), (3, .int a3), (4, .int a4), (5, .int a5)] := hl
  clear B
  generalize ([.ref (qa 0), .int a1, .int a2, .int a3, .int a4, .int a5] : List Value).toArray = args at hts ⊢
  have key : ∀ (H : Heap) (locs : List Loc), va_P D vwCl (wM cyI cyZ qa M) H → va_D A (wM cyI cyZ qa M) → va_S A s.heap H locs → W p l e rm_X8_shoe s m args below meth c H locs 0 0 (MQ below (jQl D A (fun u : Mo => wM cyI cyZ qa u) o) args s 0 0 A) (F0 m 0 ls []) := by
    intro H locs hP hD hS
    have h := hf
    unfold f_X8_shoe at h
    refine lv_aload_n hx hb dX8_shoe_0 rfl (lv_at hl 0 rfl) ?_
    refine lv_iconst (v := (0 : Int32)) hx hb dX8_shoe_1 (by decide) ?_
    refine va_put (D := D) (ci := 8) (v := .int (0 : Int32)) (ty := .int) (C := RX8) (T := TX8) (N := 24) hx hb hts in_X8_shoe_X8 tyX8 tyX8_ok nmX8 hown hK.1 hP hD hS 0 rfl rfl 0 (by decide) (hts _ kw_X8_shoe_1) (fun _ h9 => h9) rfl (tyX8_ok 0 (by decide)) rfl rfl (Nat.le_of_ble_eq_true rfl) dX8_shoe_2 (fun H locs hP hD hS => ?_)
    have hP : va_P D vwCl (wM cyI cyZ qa (M.1, va_up M.2 0 (0 : Int32))) H := hP
    have hD : va_D A (wM cyI cyZ qa (M.1, va_up M.2 0 (0 : Int32))) := hD
    refine lv_aload_n hx hb dX8_shoe_5 rfl (lv_at hl 0 rfl) ?_
    refine lv_iload_n hx hb dX8_shoe_6 rfl (lv_at hl 1 rfl) ?_
    obtain ⟨z1, hz1, h⟩ := jb h
    refine jki (jrV (As := [.int a1]) (rest := []) ⟨hx, hb, hml, hown, hts⟩ (c_X8_isMouse l D cyI cyZ cyT qa  a1 (M.1, va_up M.2 0 (0 : Int32)) z1 hz1) (cwV 1 hts gX8_shoe_X8_isMouse rfl rfl rfl (by decide +kernel) ⟨Nat.le_of_ble_eq_true rfl, Nat.le_of_ble_eq_true rfl⟩) hK hP rfl 8 0 rfl rfl rfl hl.1 (Nat.le_of_ble_eq_true rfl) dX8_shoe_7 ⟨Nat.le_of_ble_eq_true rfl, Nat.le_of_ble_eq_true rfl⟩) ?_
    clear hz1
    refine lv_if_eq (tgt := 21) hx hb dX8_shoe_10 (by decide) (fun c2 => ?_) (fun c2 => ?_)
    · have h := jt c2 h
      refine lv_ldc2 (v := (-2 : Int64)) hx hb hown (hts _ kw_X8_shoe_2) dX8_shoe_21 ?_
      exact W.lret hx hb hr (fun t ht _ => ⟨⟨_, _, rfl, Option.some.inj h, by rw [ht]; exact hP, hD⟩, hS.F ht⟩) hS.2.2 dX8_shoe_24 hlocks
    · have h := jf c2 h
      refine lv_aload_n hx hb dX8_shoe_13 rfl (lv_at hl 0 rfl) ?_
      refine lv_iload_n hx hb dX8_shoe_14 rfl (lv_at hl 2 rfl) ?_
      obtain ⟨z3, hz3, h⟩ := jb h
      refine jki (jrV (As := [.int a2]) (rest := []) ⟨hx, hb, hml, hown, hts⟩ (c_X8_isStep l D cyI cyZ cyT qa  a2 (M.1, va_up M.2 0 (0 : Int32)) z3 hz3) (cwV 1 hts gX8_shoe_X8_isStep rfl rfl rfl (by decide +kernel) ⟨Nat.le_of_ble_eq_true rfl, Nat.le_of_ble_eq_true rfl⟩) hK hP rfl 8 0 rfl rfl rfl hl.1 (Nat.le_of_ble_eq_true rfl) dX8_shoe_15 ⟨Nat.le_of_ble_eq_true rfl, Nat.le_of_ble_eq_true rfl⟩) ?_
      clear hz3
      refine lv_if_ne (tgt := 25) hx hb dX8_shoe_18 (by decide) (fun c4 => ?_) (fun c4 => ?_)
      · have h := jf c4 h
        refine lv_iload_n hx hb dX8_shoe_25 rfl (lv_at hl 3 rfl) ?_
        refine lv_iconst (v := (0 : Int32)) hx hb dX8_shoe_26 (by decide) ?_
        refine lv_bipush (v := (8 : Int32)) hx hb dX8_shoe_27 (by decide) ?_
        obtain ⟨z5, hz5, h⟩ := jb h
        refine jki (jrS (As := [.int a3, .int (0 : Int32), .int (8 : Int32)]) (rest := []) ⟨hx, hb, hml, hown, hts⟩ (c_X8_in l D cyI cyZ cyT   a3 (0 : Int32) (8 : Int32) z5 hz5) (va_cwS 3 hts gX8_shoe_X8_in rfl rfl rfl (by decide +kernel) ⟨Nat.le_of_ble_eq_true rfl, Nat.le_of_ble_eq_true rfl⟩) hK jP0 rfl rfl hl.1 (Nat.le_of_ble_eq_true rfl) dX8_shoe_29 ⟨Nat.le_of_ble_eq_true rfl, Nat.le_of_ble_eq_true rfl⟩) ?_
        clear hz5
        refine lv_if_eq (tgt := 54) hx hb dX8_shoe_32 (by decide) (fun c6 => ?_) (fun c6 => ?_)
        · have h := jt c6 h
          refine lv_ldc2 (v := (-3 : Int64)) hx hb hown (hts _ kw_X8_shoe_3) dX8_shoe_54 ?_
          exact W.lret hx hb hr (fun t ht _ => ⟨⟨_, _, rfl, Option.some.inj h, by rw [ht]; exact hP, hD⟩, hS.F ht⟩) hS.2.2 dX8_shoe_57 hlocks
        · have h := jf c6 h
          refine lv_iload hx hb dX8_shoe_35 (lv_at hl 4 rfl) ?_
          refine lv_iconst (v := (0 : Int32)) hx hb dX8_shoe_37 (by decide) ?_
          refine lv_bipush (v := (10 : Int32)) hx hb dX8_shoe_38 (by decide) ?_
          obtain ⟨z7, hz7, h⟩ := jb h
          refine jki (jrS (As := [.int a4, .int (0 : Int32), .int (10 : Int32)]) (rest := []) ⟨hx, hb, hml, hown, hts⟩ (c_X8_in l D cyI cyZ cyT   a4 (0 : Int32) (10 : Int32) z7 hz7) (va_cwS 3 hts gX8_shoe_X8_in rfl rfl rfl (by decide +kernel) ⟨Nat.le_of_ble_eq_true rfl, Nat.le_of_ble_eq_true rfl⟩) hK jP0 rfl rfl hl.1 (Nat.le_of_ble_eq_true rfl) dX8_shoe_40 ⟨Nat.le_of_ble_eq_true rfl, Nat.le_of_ble_eq_true rfl⟩) ?_
          clear hz7
          refine lv_if_eq (tgt := 54) hx hb dX8_shoe_43 (by decide) (fun c8 => ?_) (fun c8 => ?_)
          · have h := jt c8 h
            refine lv_ldc2 (v := (-3 : Int64)) hx hb hown (hts _ kw_X8_shoe_3) dX8_shoe_54 ?_
            exact W.lret hx hb hr (fun t ht _ => ⟨⟨_, _, rfl, Option.some.inj h, by rw [ht]; exact hP, hD⟩, hS.F ht⟩) hS.2.2 dX8_shoe_57 hlocks
          · have h := jf c8 h
            refine lv_iload hx hb dX8_shoe_46 (lv_at hl 5 rfl) ?_
            obtain ⟨z9, hz9, h⟩ := jb h
            refine jki (jrS (As := [.int a5]) (rest := []) ⟨hx, hb, hml, hown, hts⟩ (c_X8_isPart l D cyI cyZ cyT   a5 z9 hz9) (va_cwS 1 hts gX8_shoe_X8_isPart rfl rfl rfl (by decide +kernel) ⟨Nat.le_of_ble_eq_true rfl, Nat.le_of_ble_eq_true rfl⟩) hK jP0 rfl rfl hl.1 (Nat.le_of_ble_eq_true rfl) dX8_shoe_48 ⟨Nat.le_of_ble_eq_true rfl, Nat.le_of_ble_eq_true rfl⟩) ?_
            clear hz9
            refine lv_if_ne (tgt := 58) hx hb dX8_shoe_51 (by decide) (fun c10 => ?_) (fun c10 => ?_)
            · have h := jf c10 h
              refine lv_lconst (v := (0 : Int64)) hx hb dX8_shoe_58 (by decide) ?_
              refine lv_lstore (lv' := [(6, .long (0 : Int64)), (0, .ref (qa 0)), (1, .int a1), (2, .int a2), (3, .int a3), (4, .int a4), (5, .int a5)]) hx hb dX8_shoe_59 hl (by decide) rfl (fun ls hl => ?_)
              refine lv_iconst (v := (0 : Int32)) hx hb dX8_shoe_61 (by decide) ?_
              refine lv_istore (lv' := [(8, .int (0 : Int32)), (6, .long (0 : Int64)), (0, .ref (qa 0)), (1, .int a1), (2, .int a2), (3, .int a3), (4, .int a4), (5, .int a5)]) hx hb dX8_shoe_62 hl (by decide) rfl (fun ls hl => ?_)
              obtain ⟨r11, hz11, h11_⟩ := jb h
              have hex11 : ∀ e11 : Int64, r11 = e11 → ∀ (H : Heap) (locs : List Loc), va_P D vwCl (wM cyI cyZ qa (M.1, va_up M.2 0 (0 : Int32))) H → va_D A (wM cyI cyZ qa (M.1, va_up M.2 0 (0 : Int32))) → va_S A s.heap H locs → ∀ (ls : Array Slot), lv_has ls 11 [(3, .int a3), (5, .int a5), (6, .long e11)] → W p l e rm_X8_shoe s m args below meth c H locs 0 0 (MQ below (jQl D A (fun u : Mo => wM cyI cyZ qa u) o) args s 0 0 A) (F0 m 175 ls []) := by
                intro e11 he H locs hP hD hS ls hl
                rw [he] at h11_
                have h := h11_
                clear hz11
                refine lv_lload hx hb dX8_shoe_175 (lv_at hl 2 rfl) ?_
                refine lv_ldc2 (v := (10 : Int64)) hx hb hown (hts _ kw_X8_shoe_6) dX8_shoe_177 ?_
                refine lv_iload_n hx hb dX8_shoe_180 rfl (lv_at hl 0 rfl) ?_
                obtain ⟨z26, hz26, h⟩ := jb h
                refine jkl (jrS (As := [.long (10 : Int64), .int a3]) (rest := [.long e11]) ⟨hx, hb, hml, hown, hts⟩ (c_X8_power l D cyI cyZ cyT   N (10 : Int64) a3 z26 hz26) (va_cwS 2 hts gX8_shoe_X8_power rfl rfl rfl (by decide +kernel) ⟨Nat.le_of_ble_eq_true rfl, Nat.le_of_ble_eq_true rfl⟩) hK jP0 rfl rfl hl.1 (Nat.le_of_ble_eq_true rfl) dX8_shoe_181 ⟨Nat.le_of_ble_eq_true rfl, Nat.le_of_ble_eq_true rfl⟩) ?_
                clear hz26
                refine lv_iload hx hb dX8_shoe_184 (lv_at hl 1 rfl) ?_
                obtain ⟨z27, hz27, h⟩ := jb h
                refine jkl (jrS (As := [.long e11, .long z26, .int a5]) (rest := []) ⟨hx, hb, hml, hown, hts⟩ (c_X8_part l D cyI cyZ cyT   N e11 z26 a5 z27 hz27) (va_cwS 3 hts gX8_shoe_X8_part rfl rfl rfl (by decide +kernel) ⟨Nat.le_of_ble_eq_true rfl, Nat.le_of_ble_eq_true rfl⟩) hK jP0 rfl rfl hl.1 (Nat.le_of_ble_eq_true rfl) dX8_shoe_186 ⟨Nat.le_of_ble_eq_true rfl, Nat.le_of_ble_eq_true rfl⟩) ?_
                clear hz27
                exact W.lret hx hb hr (fun t ht _ => ⟨⟨_, _, rfl, Option.some.inj h, by rw [ht]; exact hP, hD⟩, hS.F ht⟩) hS.2.2 dX8_shoe_189 hlocks
              have hlp11 : ∀ (nn : Nat) (z11 : (Int64 × Int32)), jw (X8_shoe_s64 N a1 a2 a3 a4 M) nn z11 = some r11 → ∀ (H : Heap) (locs : List Loc), va_P D vwCl (wM cyI cyZ qa (M.1, va_up M.2 0 (0 : Int32))) H → va_D A (wM cyI cyZ qa (M.1, va_up M.2 0 (0 : Int32))) → va_S A s.heap H locs → ∀ (ls : Array Slot), lv_has ls 11 [(0, .ref (qa 0)), (1, .int a1), (2, .int a2), (3, .int a3), (4, .int a4), (5, .int a5), (6, .long z11.1), (8, .int z11.2)] → W p l e rm_X8_shoe s m args below meth c H locs 0 0 (MQ below (jQl D A (fun u : Mo => wM cyI cyZ qa u) o) args s 0 0 A) (F0 m 64 ls []) := by
                refine jw_P (r := r11) (P := fun z11 : (Int64 × Int32) => ∀ (H : Heap) (locs : List Loc), va_P D vwCl (wM cyI cyZ qa (M.1, va_up M.2 0 (0 : Int32))) H → va_D A (wM cyI cyZ qa (M.1, va_up M.2 0 (0 : Int32))) → va_S A s.heap H locs → ∀ (ls : Array Slot), lv_has ls 11 [(0, .ref (qa 0)), (1, .int a1), (2, .int a2), (3, .int a3), (4, .int a4), (5, .int a5), (6, .long z11.1), (8, .int z11.2)] → W p l e rm_X8_shoe s m args below meth c H locs 0 0 (MQ below (jQl D A (fun u : Mo => wM cyI cyZ qa u) o) args s 0 0 A) (F0 m 64 ls [])) ?_
                intro z11 x11 h hin hout H locs hP hD hS ls hl
                unfold X8_shoe_s64 at h
                refine lv_iload hx hb dX8_shoe_64 (lv_at hl 7 rfl) ?_
                refine lv_iload_n hx hb dX8_shoe_66 rfl (lv_at hl 3 rfl) ?_
                refine lv_icmp_gt (tgt := 175) hx hb dX8_shoe_67 (by decide) (fun c12 => ?_) (fun c12 => ?_)
                · have h := jt c12 h
                  exact hex11 _ (hout _ (Option.some.inj h).symm).symm H locs hP hD hS ls (lv_sub hl [3, 5, 6] rfl)
                · have h := jf c12 h
                  refine lv_aload_n hx hb dX8_shoe_70 rfl (lv_at hl 0 rfl) ?_
                  refine va_get (D := D) (ci := 8) (v := .ref (qa 2)) (C := RX8) (T := TX8) (N := 24) hx hb hts in_X8_shoe_X8 hown hK.1 hP 0 rfl rfl 10 (by decide) (hts _ kw_X8_shoe_4) (fun _ h9 => h9) rfl dX8_shoe_71 ?_
                  refine lv_iconst (v := (4 : Int32)) hx hb dX8_shoe_74 (by decide) ?_
                  refine lv_iload_n hx hb dX8_shoe_75 rfl (lv_at hl 1 rfl) ?_
                  refine lv_imul hx hb dX8_shoe_76 ?_
                  refine lv_iconst (v := (1 : Int32)) hx hb dX8_shoe_77 (by decide) ?_
                  refine lv_iadd hx hb dX8_shoe_78 ?_
                  obtain ⟨g13, h⟩ := jn h
                  refine jald hx hb hK hP 2 rfl _ rfl g13 dX8_shoe_79 ?_
                  refine lv_iload hx hb dX8_shoe_80 (lv_at hl 7 rfl) ?_
                  refine lv_iadd hx hb dX8_shoe_82 ?_
                  refine lv_istore (lv' := [(9, .int ((M.1 1 (((4 : Int32) * a1) + (1 : Int32)).toNatClampNeg) + z11.2)), (0, .ref (qa 0)), (1, .int a1), (2, .int a2), (3, .int a3), (4, .int a4), (5, .int a5), (6, .long z11.1), (8, .int z11.2)]) hx hb dX8_shoe_83 hl (by decide) rfl (fun ls hl => ?_)
                  refine lv_aload_n hx hb dX8_shoe_85 rfl (lv_at hl 1 rfl) ?_
                  refine va_get (D := D) (ci := 8) (v := .ref (qa 2)) (C := RX8) (T := TX8) (N := 24) hx hb hts in_X8_shoe_X8 hown hK.1 hP 0 rfl rfl 10 (by decide) (hts _ kw_X8_shoe_4) (fun _ h9 => h9) rfl dX8_shoe_86 ?_
                  refine lv_iconst (v := (4 : Int32)) hx hb dX8_shoe_89 (by decide) ?_
                  refine lv_iload_n hx hb dX8_shoe_90 rfl (lv_at hl 2 rfl) ?_
                  refine lv_imul hx hb dX8_shoe_91 ?_
                  obtain ⟨g14, h⟩ := jn h
                  refine jald hx hb hK hP 2 rfl _ rfl g14 dX8_shoe_92 ?_
                  refine lv_iload hx hb dX8_shoe_93 (lv_at hl 0 rfl) ?_
                  refine lv_bipush (v := (9 : Int32)) hx hb dX8_shoe_95 (by decide) ?_
                  obtain ⟨z15, hz15, h⟩ := jb h
                  have hk15 : ∀ (H : Heap) (locs : List Loc), va_P D vwCl (wM cyI cyZ qa (M.1, va_up M.2 0 (0 : Int32))) H → va_D A (wM cyI cyZ qa (M.1, va_up M.2 0 (0 : Int32))) → va_S A s.heap H locs → ∀ (ls : Array Slot), lv_has ls 11 [(0, .ref (qa 0)), (1, .int a1), (2, .int a2), (3, .int a3), (4, .int a4), (5, .int a5), (6, .long z11.1), (8, .int z11.2)] → W p l e rm_X8_shoe s m args below meth c H locs 0 0 (MQ below (jQl D A (fun u : Mo => wM cyI cyZ qa u) o) args s 0 0 A) (F0 m 107 ls [.int z15, .int (M.1 1 ((4 : Int32) * a1).toNatClampNeg)]) := by
                    intro H locs hP hD hS ls hl
                    refine lv_aload_n hx hb dX8_shoe_107 rfl (lv_at hl 0 rfl) ?_
                    refine va_get (D := D) (ci := 8) (v := .ref (qa 3)) (C := RX8) (T := TX8) (N := 24) hx hb hts in_X8_shoe_X8 hown hK.1 hP 0 rfl rfl 11 (by decide) (hts _ kw_X8_shoe_5) (fun _ h9 => h9) rfl dX8_shoe_108 ?_
                    refine lv_iload_n hx hb dX8_shoe_111 rfl (lv_at hl 2 rfl) ?_
                    obtain ⟨g17, h⟩ := jn h
                    refine jald hx hb hK hP 3 rfl _ rfl g17 dX8_shoe_112 ?_
                    obtain ⟨z18, hz18, h⟩ := jb h
                    refine jki (jrS (As := [.int (M.1 1 ((4 : Int32) * a1).toNatClampNeg), .int z15, .int (M.1 2 a2.toNatClampNeg)]) (rest := []) ⟨hx, hb, hml, hown, hts⟩ (c_X8_dangerBy l D cyI cyZ cyT   (M.1 1 ((4 : Int32) * a1).toNatClampNeg) z15 (M.1 2 a2.toNatClampNeg) z18 hz18) (va_cwS 3 hts gX8_shoe_X8_dangerBy rfl rfl rfl (by decide +kernel) ⟨Nat.le_of_ble_eq_true rfl, Nat.le_of_ble_eq_true rfl⟩) hK jP0 rfl rfl hl.1 (Nat.le_of_ble_eq_true rfl) dX8_shoe_113 ⟨Nat.le_of_ble_eq_true rfl, Nat.le_of_ble_eq_true rfl⟩) ?_
                    clear hz18
                    obtain ⟨z19, hz19, h⟩ := jb h
                    have hk19 : ∀ (H : Heap) (locs : List Loc), va_P D vwCl (wM cyI cyZ qa (M.1, va_up M.2 0 (0 : Int32))) H → va_D A (wM cyI cyZ qa (M.1, va_up M.2 0 (0 : Int32))) → va_S A s.heap H locs → ∀ (ls : Array Slot), lv_has ls 11 [(0, .ref (qa 0)), (1, .int a1), (2, .int a2), (3, .int a3), (4, .int a4), (5, .int a5), (6, .long z11.1), (8, .int z11.2)] → W p l e rm_X8_shoe s m args below meth c H locs 0 0 (MQ below (jQl D A (fun u : Mo => wM cyI cyZ qa u) o) args s 0 0 A) (F0 m 124 ls [.int z19]) := by
                      intro H locs hP hD hS ls hl
                      refine lv_istore (lv' := [(10, .int z19), (0, .ref (qa 0)), (1, .int a1), (2, .int a2), (3, .int a3), (4, .int a4), (5, .int a5), (6, .long z11.1), (8, .int z11.2)]) hx hb dX8_shoe_124 hl (by decide) rfl (fun ls hl => ?_)
                      refine lv_lload hx hb dX8_shoe_126 (lv_at hl 7 rfl) ?_
                      refine lv_iload hx hb dX8_shoe_128 (lv_at hl 0 rfl) ?_
                      obtain ⟨z21, hz21, h⟩ := jb h
                      have hk21 : ∀ (H : Heap) (locs : List Loc), va_P D vwCl (wM cyI cyZ qa (M.1, va_up M.2 0 (0 : Int32))) H → va_D A (wM cyI cyZ qa (M.1, va_up M.2 0 (0 : Int32))) → va_S A s.heap H locs → ∀ (ls : Array Slot), lv_has ls 11 [(0, .ref (qa 0)), (1, .int a1), (2, .int a2), (3, .int a3), (4, .int a4), (5, .int a5), (8, .int z11.2)] → W p l e rm_X8_shoe s m args below meth c H locs 0 0 (MQ below (jQl D A (fun u : Mo => wM cyI cyZ qa u) o) args s 0 0 A) (F0 m 166 ls [.long z21, .long z11.1]) := by
                        intro H locs hP hD hS ls hl
                        refine lv_ladd hx hb dX8_shoe_166 ?_
                        refine lv_lstore (lv' := [(6, .long (z11.1 + z21)), (0, .ref (qa 0)), (1, .int a1), (2, .int a2), (3, .int a3), (4, .int a4), (5, .int a5), (8, .int z11.2)]) hx hb dX8_shoe_167 hl (by decide) rfl (fun ls hl => ?_)
                        refine lv_iinc (v := z11.2 + (1 : Int32)) (lv' := [(8, .int (z11.2 + (1 : Int32))), (6, .long (z11.1 + z21)), (0, .ref (qa 0)), (1, .int a1), (2, .int a2), (3, .int a3), (4, .int a4), (5, .int a5)]) hx hb dX8_shoe_169 hl (k := 7) rfl rfl (by decide) rfl (fun ls hl => ?_)
                        refine lv_goto (tgt := 64) hx hb dX8_shoe_172 (by decide) ?_
                        exact hin _ (Option.some.inj h).symm H locs hP hD hS ls (lv_sub hl [2, 3, 4, 5, 6, 7, 1, 0] rfl)
                      clear h
                      have h := hz21
                      clear hz21
                      refine lv_if_eq (tgt := 165) hx hb dX8_shoe_130 (by decide) (fun c22 => ?_) (fun c22 => ?_)
                      · have h := jt c22 h
                        refine lv_lconst (v := (0 : Int64)) hx hb dX8_shoe_165 (by decide) ?_
                        obtain rfl := Option.some.inj h
                        exact hk21 H locs hP hD hS ls (lv_sub hl [1, 2, 3, 4, 5, 6, 8] rfl)
                      · have h := jf c22 h
                        refine lv_iload_n hx hb dX8_shoe_133 rfl (lv_at hl 4 rfl) ?_
                        refine lv_iload hx hb dX8_shoe_134 (lv_at hl 8 rfl) ?_
                        obtain ⟨z23, hz23, h⟩ := jb h
                        refine jkl (jrS (As := [.int a3, .int z11.2]) (rest := [.long z11.1]) ⟨hx, hb, hml, hown, hts⟩ (c_X8_choose l D cyI cyZ cyT   N a3 z11.2 z23 hz23) (va_cwS 2 hts gX8_shoe_X8_choose rfl rfl rfl (by decide +kernel) ⟨Nat.le_of_ble_eq_true rfl, Nat.le_of_ble_eq_true rfl⟩) hK jP0 rfl rfl hl.1 (Nat.le_of_ble_eq_true rfl) dX8_shoe_136 ⟨Nat.le_of_ble_eq_true rfl, Nat.le_of_ble_eq_true rfl⟩) ?_
                        clear hz23
                        refine lv_iload hx hb dX8_shoe_139 (lv_at hl 5 rfl) ?_
                        refine lv_i2l (v := a4.toInt64) hx hb dX8_shoe_141 rfl ?_
                        refine lv_iload hx hb dX8_shoe_142 (lv_at hl 8 rfl) ?_
                        obtain ⟨z24, hz24, h⟩ := jb h
                        refine jkl (jrS (As := [.long a4.toInt64, .int z11.2]) (rest := [.long z23, .long z11.1]) ⟨hx, hb, hml, hown, hts⟩ (c_X8_power l D cyI cyZ cyT   N a4.toInt64 z11.2 z24 hz24) (va_cwS 2 hts gX8_shoe_X8_power rfl rfl rfl (by decide +kernel) ⟨Nat.le_of_ble_eq_true rfl, Nat.le_of_ble_eq_true rfl⟩) hK jP0 rfl rfl hl.1 (Nat.le_of_ble_eq_true rfl) dX8_shoe_144 ⟨Nat.le_of_ble_eq_true rfl, Nat.le_of_ble_eq_true rfl⟩) ?_
                        clear hz24
                        refine lv_lmul hx hb dX8_shoe_147 ?_
                        refine lv_bipush (v := (10 : Int32)) hx hb dX8_shoe_148 (by decide) ?_
                        refine lv_iload hx hb dX8_shoe_150 (lv_at hl 5 rfl) ?_
                        refine lv_isub hx hb dX8_shoe_152 ?_
                        refine lv_i2l (v := ((10 : Int32) - a4).toInt64) hx hb dX8_shoe_153 rfl ?_
                        refine lv_iload_n hx hb dX8_shoe_154 rfl (lv_at hl 4 rfl) ?_
                        refine lv_iload hx hb dX8_shoe_155 (lv_at hl 8 rfl) ?_
                        refine lv_isub hx hb dX8_shoe_157 ?_
                        obtain ⟨z25, hz25, h⟩ := jb h
                        refine jkl (jrS (As := [.long (((10 : Int32) - a4).toInt64), .int (a3 - z11.2)]) (rest := [.long (z23 * z24), .long z11.1]) ⟨hx, hb, hml, hown, hts⟩ (c_X8_power l D cyI cyZ cyT   N (((10 : Int32) - a4).toInt64) (a3 - z11.2) z25 hz25) (va_cwS 2 hts gX8_shoe_X8_power rfl rfl rfl (by decide +kernel) ⟨Nat.le_of_ble_eq_true rfl, Nat.le_of_ble_eq_true rfl⟩) hK jP0 rfl rfl hl.1 (Nat.le_of_ble_eq_true rfl) dX8_shoe_158 ⟨Nat.le_of_ble_eq_true rfl, Nat.le_of_ble_eq_true rfl⟩) ?_
                        clear hz25
                        refine lv_lmul hx hb dX8_shoe_161 ?_
                        refine lv_goto (tgt := 166) hx hb dX8_shoe_162 (by decide) ?_
                        obtain rfl := Option.some.inj h
                        exact hk21 H locs hP hD hS ls (lv_sub hl [1, 2, 3, 4, 5, 6, 8] rfl)
                    clear h
                    have h := hz19
                    clear hz19
                    refine lv_if_ne (tgt := 123) hx hb dX8_shoe_116 (by decide) (fun c20 => ?_) (fun c20 => ?_)
                    · have h := jf c20 h
                      refine lv_iconst (v := (0 : Int32)) hx hb dX8_shoe_123 (by decide) ?_
                      obtain rfl := Option.some.inj h
                      exact hk19 H locs hP hD hS ls (lv_sub hl [0, 1, 2, 3, 4, 5, 6, 7] rfl)
                    · have h := jt c20 h
                      refine lv_iconst (v := (1 : Int32)) hx hb dX8_shoe_119 (by decide) ?_
                      refine lv_goto (tgt := 124) hx hb dX8_shoe_120 (by decide) ?_
                      obtain rfl := Option.some.inj h
                      exact hk19 H locs hP hD hS ls (lv_sub hl [0, 1, 2, 3, 4, 5, 6, 7] rfl)
                  clear h
                  have h := hz15
                  clear hz15
                  refine lv_icmp_le (tgt := 105) hx hb dX8_shoe_97 (by decide) (fun c16 => ?_) (fun c16 => ?_)
                  · have h := jt c16 h
                    refine lv_iload hx hb dX8_shoe_105 (lv_at hl 0 rfl) ?_
                    obtain rfl := Option.some.inj h
                    exact hk15 H locs hP hD hS ls (lv_sub hl [1, 2, 3, 4, 5, 6, 7, 8] rfl)
                  · have h := jf c16 h
                    refine lv_bipush (v := (9 : Int32)) hx hb dX8_shoe_100 (by decide) ?_
                    refine lv_goto (tgt := 107) hx hb dX8_shoe_102 (by decide) ?_
                    obtain rfl := Option.some.inj h
                    exact hk15 H locs hP hD hS ls (lv_sub hl [1, 2, 3, 4, 5, 6, 7, 8] rfl)
              exact hlp11 _ _ hz11 H locs hP hD hS ls (lv_sub hl [2, 3, 4, 5, 6, 7, 1, 0] rfl)
            · have h := jt c10 h
              refine lv_ldc2 (v := (-3 : Int64)) hx hb hown (hts _ kw_X8_shoe_3) dX8_shoe_54 ?_
              exact W.lret hx hb hr (fun t ht _ => ⟨⟨_, _, rfl, Option.some.inj h, by rw [ht]; exact hP, hD⟩, hS.F ht⟩) hS.2.2 dX8_shoe_57 hlocks
      · have h := jt c4 h
        refine lv_ldc2 (v := (-2 : Int64)) hx hb hown (hts _ kw_X8_shoe_2) dX8_shoe_21 ?_
        exact W.lret hx hb hr (fun t ht _ => ⟨⟨_, _, rfl, Option.some.inj h, by rw [ht]; exact hP, hD⟩, hS.F ht⟩) hS.2.2 dX8_shoe_24 hlocks
  exact key s.heap [] hP hD hS
theorem kw_X8_step_1 : (.fieldLink RX8 50 "BellTheCatModel" "thrown" "I" : Cond) ∈ wsX8_step := List.mem_of_getElem? (i := 1) rfl
theorem kw_X8_step_2 : (.fieldLink RX8 16 "BellTheCatModel" "noise" "[I" : Cond) ∈ wsX8_step := List.mem_of_getElem? (i := 2) rfl
theorem kw_X8_step_3 : (.fieldLink RX8 25 "BellTheCatModel" "s" "[I" : Cond) ∈ wsX8_step := List.mem_of_getElem? (i := 3) rfl
theorem in_X8_step_X8 : ∀ w ∈ wsX80, w ∈ wsX8_step := fun w h => List.mem_cons_of_mem _ (List.mem_append_right _ h)
abbrev rm_X8_step : Room := { frames := 2, cells := 0, slots := 0, locals := 43 }
set_option maxHeartbeats 4000000 in
set_option maxRecDepth 100000 in
theorem c_X8_step (l : Launch) (D : va_G) (cyI cyZ cyT : ClassId) (qa : Nat → Nat) (sz : Nat) (a1 : Int32) (a2 : Int32) (M : Mo) (o : (Int32 × Mo)) (hf : f_X8_step a1 a2 M = some o) : Met l yX8_step wsX8_step rm_X8_step (va_Pc [.ref (qa 0), .int a1, .int a2] (jM D cyI cyZ cyT (wM cyI cyZ qa M) sz)) (jQi D (va_A (wM cyI cyZ qa M) sz) (fun u : Mo => wM cyI cyZ qa u) o) 0 0 (va_A (wM cyI cyZ qa M) sz) := by
  refine Met.ofW (cc := cX8_step) (maxL := 3) (ret := (some .int)) (by decide) rfl ?_
  intro p e s m args below meth c s₁ B hml hv
  obtain ⟨rfl, hsz, hP, hK, hD0⟩ := hv
  have hx := B.exec
  have hb := B.bytes
  have hr := B.returns
  have hts := atoms_spec (ws := wsX8_step) B.pre
  have hown : s.vm.findClass RX8 = some m.cls := findClass_of_methodNamed B.named
  have hlocks := B.notSynchronized
  subst hsz
  have hD := hD0.self (sz := s.heap.size)
  generalize hAe : va_A (wM cyI cyZ qa M) s.heap.size = A at hD ⊢
  have hA : ∀ q : Nat, s.heap.size ≤ q → A q := fun q h => by rw [← hAe]; exact Or.inr h
  have hS : va_S A s.heap s.heap [] := va_S.rf
  have hl := lv_entry ([.ref (qa 0), .int a1, .int a2]) (n := 3) (Nat.le_of_ble_eq_true rfl)
  rw [lg_entry_eq]
  generalize (lg_sl ([.ref (qa 0), .int a1, .int a2]) ++ List.replicate (3 - (lg_sl ([.ref (qa 0), .int a1, .int a2])).length) Slot.unset).toArray = ls at hl ⊢
  have hl : lv_has ls 3 [(0, .ref (qa 0)), (1, .int a1), (2, .int a2)] := hl
  clear B
  generalize ([.ref (qa 0), .int a1, .int a2] : List Value).toArray = args at hts ⊢
  have key : ∀ (H : Heap) (locs : List Loc), va_P D vwCl (wM cyI cyZ qa M) H → va_D A (wM cyI cyZ qa M) → va_S A s.heap H locs → W p l e rm_X8_step s m args below meth c H locs 0 0 (MQ below (jQi D A (fun u : Mo => wM cyI cyZ qa u) o) args s 0 0 A) (F0 m 0 ls []) := by
    intro H locs hP hD hS
    have h := hf
    unfold f_X8_step at h
    refine lv_aload_n hx hb dX8_step_0 rfl (lv_at hl 0 rfl) ?_
    refine lv_iconst (v := (0 : Int32)) hx hb dX8_step_1 (by decide) ?_
    refine va_put (D := D) (ci := 8) (v := .int (0 : Int32)) (ty := .int) (C := RX8) (T := TX8) (N := 24) hx hb hts in_X8_step_X8 tyX8 tyX8_ok nmX8 hown hK.1 hP hD hS 0 rfl rfl 0 (by decide) (hts _ kw_X8_step_1) (fun _ h9 => h9) rfl (tyX8_ok 0 (by decide)) rfl rfl (Nat.le_of_ble_eq_true rfl) dX8_step_2 (fun H locs hP hD hS => ?_)
    have hP : va_P D vwCl (wM cyI cyZ qa (M.1, va_up M.2 0 (0 : Int32))) H := hP
    have hD : va_D A (wM cyI cyZ qa (M.1, va_up M.2 0 (0 : Int32))) := hD
    refine lv_aload_n hx hb dX8_step_5 rfl (lv_at hl 0 rfl) ?_
    refine lv_iload_n hx hb dX8_step_6 rfl (lv_at hl 1 rfl) ?_
    obtain ⟨z1, hz1, h⟩ := jb h
    refine jki (jrV (As := [.int a1]) (rest := []) ⟨hx, hb, hml, hown, hts⟩ (c_X8_isStep l D cyI cyZ cyT qa  a1 (M.1, va_up M.2 0 (0 : Int32)) z1 hz1) (cwV 1 hts gX8_step_X8_isStep rfl rfl rfl (by decide +kernel) ⟨Nat.le_of_ble_eq_true rfl, Nat.le_of_ble_eq_true rfl⟩) hK hP rfl 8 0 rfl rfl rfl hl.1 (Nat.le_of_ble_eq_true rfl) dX8_step_7 ⟨Nat.le_of_ble_eq_true rfl, Nat.le_of_ble_eq_true rfl⟩) ?_
    clear hz1
    refine lv_if_ne (tgt := 16) hx hb dX8_step_10 (by decide) (fun c2 => ?_) (fun c2 => ?_)
    · have h := jf c2 h
      refine lv_iload_n hx hb dX8_step_16 rfl (lv_at hl 2 rfl) ?_
      refine lv_iconst (v := (0 : Int32)) hx hb dX8_step_17 (by decide) ?_
      refine lv_iconst (v := (1 : Int32)) hx hb dX8_step_18 (by decide) ?_
      obtain ⟨z3, hz3, h⟩ := jb h
      refine jki (jrS (As := [.int a2, .int (0 : Int32), .int (1 : Int32)]) (rest := []) ⟨hx, hb, hml, hown, hts⟩ (c_X8_in l D cyI cyZ cyT   a2 (0 : Int32) (1 : Int32) z3 hz3) (va_cwS 3 hts gX8_step_X8_in rfl rfl rfl (by decide +kernel) ⟨Nat.le_of_ble_eq_true rfl, Nat.le_of_ble_eq_true rfl⟩) hK jP0 rfl rfl hl.1 (Nat.le_of_ble_eq_true rfl) dX8_step_19 ⟨Nat.le_of_ble_eq_true rfl, Nat.le_of_ble_eq_true rfl⟩) ?_
      clear hz3
      refine lv_if_ne (tgt := 28) hx hb dX8_step_22 (by decide) (fun c4 => ?_) (fun c4 => ?_)
      · have h := jf c4 h
        refine lv_iload_n hx hb dX8_step_28 rfl (lv_at hl 2 rfl) ?_
        refine lv_if_ne (tgt := 41) hx hb dX8_step_29 (by decide) (fun c5 => ?_) (fun c5 => ?_)
        · have h := jf c5 h
          refine lv_aload_n hx hb dX8_step_41 rfl (lv_at hl 0 rfl) ?_
          refine va_get (D := D) (ci := 8) (v := .ref (qa 6)) (C := RX8) (T := TX8) (N := 24) hx hb hts in_X8_step_X8 hown hK.1 hP 0 rfl rfl 14 (by decide) (hts _ kw_X8_step_3) (fun _ h9 => h9) rfl dX8_step_42 ?_
          refine lv_iconst (v := (3 : Int32)) hx hb dX8_step_45 (by decide) ?_
          refine lv_iload_n hx hb dX8_step_46 rfl (lv_at hl 1 rfl) ?_
          refine lv_iadd hx hb dX8_step_47 ?_
          obtain ⟨g6, h⟩ := jn h
          refine jald hx hb hK hP 6 rfl _ rfl g6 dX8_step_48 ?_
          refine lv_iconst (v := (1 : Int32)) hx hb dX8_step_49 (by decide) ?_
          refine lv_isub hx hb dX8_step_50 ?_
          exact W.iret hx hb hr (fun t ht _ => ⟨⟨_, _, rfl, Option.some.inj h, by rw [ht]; exact hP, hD⟩, hS.F ht⟩) hS.2.2 dX8_step_51 hlocks
        · have h := jt c5 h
          refine lv_aload_n hx hb dX8_step_32 rfl (lv_at hl 0 rfl) ?_
          refine va_get (D := D) (ci := 8) (v := .ref (qa 3)) (C := RX8) (T := TX8) (N := 24) hx hb hts in_X8_step_X8 hown hK.1 hP 0 rfl rfl 11 (by decide) (hts _ kw_X8_step_2) (fun _ h9 => h9) rfl dX8_step_33 ?_
          refine lv_iload_n hx hb dX8_step_36 rfl (lv_at hl 1 rfl) ?_
          obtain ⟨g7, h⟩ := jn h
          refine jald hx hb hK hP 3 rfl _ rfl g7 dX8_step_37 ?_
          refine lv_goto (tgt := 51) hx hb dX8_step_38 (by decide) ?_
          exact W.iret hx hb hr (fun t ht _ => ⟨⟨_, _, rfl, Option.some.inj h, by rw [ht]; exact hP, hD⟩, hS.F ht⟩) hS.2.2 dX8_step_51 hlocks
      · have h := jt c4 h
        refine lv_bipush (v := (-3 : Int32)) hx hb dX8_step_25 (by decide) ?_
        exact W.iret hx hb hr (fun t ht _ => ⟨⟨_, _, rfl, Option.some.inj h, by rw [ht]; exact hP, hD⟩, hS.F ht⟩) hS.2.2 dX8_step_27 hlocks
    · have h := jt c2 h
      refine lv_bipush (v := (-2 : Int32)) hx hb dX8_step_13 (by decide) ?_
      exact W.iret hx hb hr (fun t ht _ => ⟨⟨_, _, rfl, Option.some.inj h, by rw [ht]; exact hP, hD⟩, hS.F ht⟩) hS.2.2 dX8_step_15 hlocks
  exact key s.heap [] hP hD hS
theorem kw_X8_teamOf_1 : (.fieldLink RX8 50 "BellTheCatModel" "thrown" "I" : Cond) ∈ wsX8_teamOf := List.mem_of_getElem? (i := 1) rfl
theorem kw_X8_teamOf_2 : (.fieldLink RX8 22 "BellTheCatModel" "many" "[I" : Cond) ∈ wsX8_teamOf := List.mem_of_getElem? (i := 2) rfl
theorem kw_X8_teamOf_3 : (.fieldLink RX8 44 "BellTheCatModel" "row" "[I" : Cond) ∈ wsX8_teamOf := List.mem_of_getElem? (i := 3) rfl
theorem in_X8_teamOf_X8 : ∀ w ∈ wsX80, w ∈ wsX8_teamOf := fun w h => List.mem_cons_of_mem _ (List.mem_append_right _ h)
abbrev rm_X8_teamOf : Room := { frames := 3, cells := 0, slots := 0, locals := 68 }
set_option maxHeartbeats 4000000 in
set_option maxRecDepth 100000 in
theorem c_X8_teamOf (l : Launch) (D : va_G) (cyI cyZ cyT : ClassId) (qa : Nat → Nat) (sz : Nat) (N : Nat) (a1 : Int32) (M : Mo) (o : (Int32 × Mo)) (hf : f_X8_teamOf N a1 M = some o) : Met l yX8_teamOf wsX8_teamOf rm_X8_teamOf (va_Pc [.ref (qa 0), .int a1] (jM D cyI cyZ cyT (wM cyI cyZ qa M) sz)) (jQi D (va_A (wM cyI cyZ qa M) sz) (fun u : Mo => wM cyI cyZ qa u) o) 0 0 (va_A (wM cyI cyZ qa M) sz) := by
  refine Met.ofW (cc := cX8_teamOf) (maxL := 3) (ret := (some .int)) (by decide) rfl ?_
  intro p e s m args below meth c s₁ B hml hv
  obtain ⟨rfl, hsz, hP, hK, hD0⟩ := hv
  have hx := B.exec
  have hb := B.bytes
  have hr := B.returns
  have hts := atoms_spec (ws := wsX8_teamOf) B.pre
  have hown : s.vm.findClass RX8 = some m.cls := findClass_of_methodNamed B.named
  have hlocks := B.notSynchronized
  subst hsz
  have hD := hD0.self (sz := s.heap.size)
  generalize hAe : va_A (wM cyI cyZ qa M) s.heap.size = A at hD ⊢
  have hA : ∀ q : Nat, s.heap.size ≤ q → A q := fun q h => by rw [← hAe]; exact Or.inr h
  have hS : va_S A s.heap s.heap [] := va_S.rf
  have hl := lv_entry ([.ref (qa 0), .int a1]) (n := 3) (Nat.le_of_ble_eq_true rfl)
  rw [lg_entry_eq]
  generalize (lg_sl ([.ref (qa 0), .int a1]) ++ List.replicate (3 - (lg_sl ([.ref (qa 0), .int a1])).length) Slot.unset).toArray = ls at hl ⊢
  have hl : lv_has ls 3 [(0, .ref (qa 0)), (1, .int a1)] := hl
  clear B
  generalize ([.ref (qa 0), .int a1] : List Value).toArray = args at hts ⊢
  have key : ∀ (H : Heap) (locs : List Loc), va_P D vwCl (wM cyI cyZ qa M) H → va_D A (wM cyI cyZ qa M) → va_S A s.heap H locs → W p l e rm_X8_teamOf s m args below meth c H locs 0 0 (MQ below (jQi D A (fun u : Mo => wM cyI cyZ qa u) o) args s 0 0 A) (F0 m 0 ls []) := by
    intro H locs hP hD hS
    have h := hf
    unfold f_X8_teamOf at h
    refine lv_aload_n hx hb dX8_teamOf_0 rfl (lv_at hl 0 rfl) ?_
    refine lv_iconst (v := (0 : Int32)) hx hb dX8_teamOf_1 (by decide) ?_
    refine va_put (D := D) (ci := 8) (v := .int (0 : Int32)) (ty := .int) (C := RX8) (T := TX8) (N := 24) hx hb hts in_X8_teamOf_X8 tyX8 tyX8_ok nmX8 hown hK.1 hP hD hS 0 rfl rfl 0 (by decide) (hts _ kw_X8_teamOf_1) (fun _ h9 => h9) rfl (tyX8_ok 0 (by decide)) rfl rfl (Nat.le_of_ble_eq_true rfl) dX8_teamOf_2 (fun H locs hP hD hS => ?_)
    have hP : va_P D vwCl (wM cyI cyZ qa (M.1, va_up M.2 0 (0 : Int32))) H := hP
    have hD : va_D A (wM cyI cyZ qa (M.1, va_up M.2 0 (0 : Int32))) := hD
    refine lv_aload_n hx hb dX8_teamOf_5 rfl (lv_at hl 0 rfl) ?_
    refine lv_iload_n hx hb dX8_teamOf_6 rfl (lv_at hl 1 rfl) ?_
    obtain ⟨z1, hz1, h⟩ := jb h
    refine jki (jrV (As := [.int a1]) (rest := []) ⟨hx, hb, hml, hown, hts⟩ (c_X8_isStep l D cyI cyZ cyT qa  a1 (M.1, va_up M.2 0 (0 : Int32)) z1 hz1) (cwV 1 hts gX8_teamOf_X8_isStep rfl rfl rfl (by decide +kernel) ⟨Nat.le_of_ble_eq_true rfl, Nat.le_of_ble_eq_true rfl⟩) hK hP rfl 8 0 rfl rfl rfl hl.1 (Nat.le_of_ble_eq_true rfl) dX8_teamOf_7 ⟨Nat.le_of_ble_eq_true rfl, Nat.le_of_ble_eq_true rfl⟩) ?_
    clear hz1
    refine lv_if_ne (tgt := 16) hx hb dX8_teamOf_10 (by decide) (fun c2 => ?_) (fun c2 => ?_)
    · have h := jf c2 h
      refine lv_iconst (v := (0 : Int32)) hx hb dX8_teamOf_16 (by decide) ?_
      refine lv_istore_n (lv' := [(2, .int (0 : Int32)), (0, .ref (qa 0)), (1, .int a1)]) hx hb dX8_teamOf_17 rfl hl (by decide) rfl (fun ls hl => ?_)
      obtain ⟨r3, hz3, h3_⟩ := jb h
      have hex3 : ∀ e3 : Mo, r3 = .inl e3 → ∀ (H : Heap) (locs : List Loc), va_P D vwCl (wM cyI cyZ qa e3) H → va_D A (wM cyI cyZ qa e3) → va_S A s.heap H locs → ∀ (ls : Array Slot), lv_has ls 3 [] → W p l e rm_X8_teamOf s m args below meth c H locs 0 0 (MQ below (jQi D A (fun u : Mo => wM cyI cyZ qa u) o) args s 0 0 A) (F0 m 62 ls []) := by
        intro e3 he H locs hP hD hS ls hl
        have h := jsl h3_ he
        clear hz3
        refine lv_iconst (v := (-1 : Int32)) hx hb dX8_teamOf_62 (by decide) ?_
        exact W.iret hx hb hr (fun t ht _ => ⟨⟨_, _, rfl, Option.some.inj h, by rw [ht]; exact hP, hD⟩, hS.F ht⟩) hS.2.2 dX8_teamOf_63 hlocks
      have hlp3 : ∀ (nn : Nat) (z3 : (Int32 × Mo)), jw (X8_teamOf_s18 N a1) nn z3 = some r3 → ∀ (H : Heap) (locs : List Loc), va_P D vwCl (wM cyI cyZ qa z3.2) H → va_D A (wM cyI cyZ qa z3.2) → va_S A s.heap H locs → ∀ (ls : Array Slot), lv_has ls 3 [(0, .ref (qa 0)), (1, .int a1), (2, .int z3.1)] → W p l e rm_X8_teamOf s m args below meth c H locs 0 0 (MQ below (jQi D A (fun u : Mo => wM cyI cyZ qa u) o) args s 0 0 A) (F0 m 18 ls []) := by
        refine jw_P (r := r3) (P := fun z3 : (Int32 × Mo) => ∀ (H : Heap) (locs : List Loc), va_P D vwCl (wM cyI cyZ qa z3.2) H → va_D A (wM cyI cyZ qa z3.2) → va_S A s.heap H locs → ∀ (ls : Array Slot), lv_has ls 3 [(0, .ref (qa 0)), (1, .int a1), (2, .int z3.1)] → W p l e rm_X8_teamOf s m args below meth c H locs 0 0 (MQ below (jQi D A (fun u : Mo => wM cyI cyZ qa u) o) args s 0 0 A) (F0 m 18 ls [])) ?_
        intro z3 x3 h hin hout H locs hP hD hS ls hl
        unfold X8_teamOf_s18 at h
        refine lv_iload_n hx hb dX8_teamOf_18 rfl (lv_at hl 2 rfl) ?_
        refine lv_aload_n hx hb dX8_teamOf_19 rfl (lv_at hl 0 rfl) ?_
        refine va_get (D := D) (ci := 8) (v := .ref (qa 5)) (C := RX8) (T := TX8) (N := 24) hx hb hts in_X8_teamOf_X8 hown hK.1 hP 0 rfl rfl 13 (by decide) (hts _ kw_X8_teamOf_2) (fun _ h9 => h9) rfl dX8_teamOf_20 ?_
        refine lv_iconst (v := (0 : Int32)) hx hb dX8_teamOf_23 (by decide) ?_
        refine jald hx hb hK hP 5 rfl 0 (by decide) (by decide) dX8_teamOf_24 ?_
        refine lv_aload_n hx hb dX8_teamOf_25 rfl (lv_at hl 0 rfl) ?_
        refine va_get (D := D) (ci := 8) (v := .ref (qa 5)) (C := RX8) (T := TX8) (N := 24) hx hb hts in_X8_teamOf_X8 hown hK.1 hP 0 rfl rfl 13 (by decide) (hts _ kw_X8_teamOf_2) (fun _ h9 => h9) rfl dX8_teamOf_26 ?_
        refine lv_iconst (v := (1 : Int32)) hx hb dX8_teamOf_29 (by decide) ?_
        refine jald hx hb hK hP 5 rfl 1 (by decide) (by decide) dX8_teamOf_30 ?_
        obtain ⟨z4, hz4, h⟩ := jb h
        refine jki (jrS (As := [.int (z3.2.1 4 0), .int (z3.2.1 4 1)]) (rest := [.int z3.1]) ⟨hx, hb, hml, hown, hts⟩ (c_X8_rowsOf l D cyI cyZ cyT   N (z3.2.1 4 0) (z3.2.1 4 1) z4 hz4) (va_cwS 2 hts gX8_teamOf_X8_rowsOf rfl rfl rfl (by decide +kernel) ⟨Nat.le_of_ble_eq_true rfl, Nat.le_of_ble_eq_true rfl⟩) hK jP0 rfl rfl hl.1 (Nat.le_of_ble_eq_true rfl) dX8_teamOf_31 ⟨Nat.le_of_ble_eq_true rfl, Nat.le_of_ble_eq_true rfl⟩) ?_
        clear hz4
        refine lv_icmp_ge (tgt := 62) hx hb dX8_teamOf_34 (by decide) (fun c5 => ?_) (fun c5 => ?_)
        · have h := jt c5 h
          exact hex3 _ (hout _ (Option.some.inj h).symm).symm H locs hP hD hS ls (lv_sub hl [] rfl)
        · have h := jf c5 h
          refine lv_aload_n hx hb dX8_teamOf_37 rfl (lv_at hl 0 rfl) ?_
          refine lv_iload_n hx hb dX8_teamOf_38 rfl (lv_at hl 2 rfl) ?_
          obtain ⟨z6, hz6, h⟩ := jb h
          refine jgv (w1 := fun u : Mo => wM cyI cyZ qa u) (wn := wM cyI cyZ qa z6) (jmV (As := [.int z3.1]) (rest := []) ⟨hx, hb, hml, hown, hts⟩ (c_X8_rowOf l D cyI cyZ cyT qa H.size N z3.1 z3.2 z6 hz6) (cwV 1 hts gX8_teamOf_X8_rowOf rfl rfl rfl (by decide +kernel) ⟨Nat.le_of_ble_eq_true rfl, Nat.le_of_ble_eq_true rfl⟩) hK hP hD rfl 8 0 rfl rfl rfl hl.1 (Nat.le_of_ble_eq_true rfl) dX8_teamOf_39 ⟨Nat.le_of_ble_eq_true rfl, Nat.le_of_ble_eq_true rfl⟩) hP hD hS hA [0, 1, 2, 3, 4, 5, 6, 7, 8, 9, 10, 11, 12, 13] [] [0, 1, 2, 3, 4, 5, 6, 7, 8, 9, 10, 11, 12, 13] rfl rfl (by decide) (by decide) rfl (by decide) (fun H locs hP hD hS => ?_)
          clear hz6
          refine lv_aload_n hx hb dX8_teamOf_42 rfl (lv_at hl 0 rfl) ?_
          obtain ⟨z7, hz7, h⟩ := jb h
          refine jki (jrV (As := []) (rest := []) ⟨hx, hb, hml, hown, hts⟩ (c_X8_couldBe l D cyI cyZ cyT qa  N z6 z7 hz7) (cwV 0 hts gX8_teamOf_X8_couldBe rfl rfl rfl (by decide +kernel) ⟨Nat.le_of_ble_eq_true rfl, Nat.le_of_ble_eq_true rfl⟩) hK hP rfl 8 0 rfl rfl rfl hl.1 (Nat.le_of_ble_eq_true rfl) dX8_teamOf_43 ⟨Nat.le_of_ble_eq_true rfl, Nat.le_of_ble_eq_true rfl⟩) ?_
          clear hz7
          refine lv_if_eq (tgt := 56) hx hb dX8_teamOf_46 (by decide) (fun c8 => ?_) (fun c8 => ?_)
          · have h := jt c8 h
            refine lv_iinc (v := z3.1 + (1 : Int32)) (lv' := [(2, .int (z3.1 + (1 : Int32))), (0, .ref (qa 0)), (1, .int a1)]) hx hb dX8_teamOf_56 hl (k := 2) rfl rfl (by decide) rfl (fun ls hl => ?_)
            refine lv_goto (tgt := 18) hx hb dX8_teamOf_59 (by decide) ?_
            exact hin _ (Option.some.inj h).symm H locs hP hD hS ls (lv_sub hl [1, 2, 0] rfl)
          · have h := jf c8 h
            refine lv_aload_n hx hb dX8_teamOf_49 rfl (lv_at hl 0 rfl) ?_
            refine va_get (D := D) (ci := 8) (v := .ref (qa 12)) (C := RX8) (T := TX8) (N := 24) hx hb hts in_X8_teamOf_X8 hown hK.1 hP 0 rfl rfl 22 (by decide) (hts _ kw_X8_teamOf_3) (fun _ h9 => h9) rfl dX8_teamOf_50 ?_
            refine lv_iload_n hx hb dX8_teamOf_53 rfl (lv_at hl 1 rfl) ?_
            obtain ⟨g9, h⟩ := jn h
            refine jald hx hb hK hP 12 rfl _ rfl g9 dX8_teamOf_54 ?_
            have h := jsr h3_ (hout _ (Option.some.inj h).symm).symm
            exact W.iret hx hb hr (fun t ht _ => ⟨⟨_, _, rfl, Option.some.inj h, by rw [ht]; exact hP, hD⟩, hS.F ht⟩) hS.2.2 dX8_teamOf_55 hlocks
      exact hlp3 _ _ hz3 H locs hP hD hS ls (lv_sub hl [1, 2, 0] rfl)
    · have h := jt c2 h
      refine lv_bipush (v := (-2 : Int32)) hx hb dX8_teamOf_13 (by decide) ?_
      exact W.iret hx hb hr (fun t ht _ => ⟨⟨_, _, rfl, Option.some.inj h, by rw [ht]; exact hP, hD⟩, hS.F ht⟩) hS.2.2 dX8_teamOf_15 hlocks
  exact key s.heap [] hP hD hS
theorem kw_X8_teams_1 : (.fieldLink RX8 50 "BellTheCatModel" "thrown" "I" : Cond) ∈ wsX8_teams := List.mem_of_getElem? (i := 1) rfl
theorem kw_X8_teams_2 : (.fieldLink RX8 22 "BellTheCatModel" "many" "[I" : Cond) ∈ wsX8_teams := List.mem_of_getElem? (i := 2) rfl
theorem in_X8_teams_X8 : ∀ w ∈ wsX80, w ∈ wsX8_teams := fun w h => List.mem_cons_of_mem _ (List.mem_append_right _ h)
abbrev rm_X8_teams : Room := { frames := 3, cells := 0, slots := 0, locals := 68 }
set_option maxHeartbeats 4000000 in
set_option maxRecDepth 100000 in
theorem c_X8_teams (l : Launch) (D : va_G) (cyI cyZ cyT : ClassId) (qa : Nat → Nat) (sz : Nat) (N : Nat) (a1 : Int32) (M : Mo) (o : (Int32 × Mo)) (hf : f_X8_teams N a1 M = some o) : Met l yX8_teams wsX8_teams rm_X8_teams (va_Pc [.ref (qa 0), .int a1] (jM D cyI cyZ cyT (wM cyI cyZ qa M) sz)) (jQi D (va_A (wM cyI cyZ qa M) sz) (fun u : Mo => wM cyI cyZ qa u) o) 0 0 (va_A (wM cyI cyZ qa M) sz) := by
  refine Met.ofW (cc := cX8_teams) (maxL := 5) (ret := (some .int)) (by decide) rfl ?_
  intro p e s m args below meth c s₁ B hml hv
  obtain ⟨rfl, hsz, hP, hK, hD0⟩ := hv
  have hx := B.exec
  have hb := B.bytes
  have hr := B.returns
  have hts := atoms_spec (ws := wsX8_teams) B.pre
  have hown : s.vm.findClass RX8 = some m.cls := findClass_of_methodNamed B.named
  have hlocks := B.notSynchronized
  subst hsz
  have hD := hD0.self (sz := s.heap.size)
  generalize hAe : va_A (wM cyI cyZ qa M) s.heap.size = A at hD ⊢
  have hA : ∀ q : Nat, s.heap.size ≤ q → A q := fun q h => by rw [← hAe]; exact Or.inr h
  have hS : va_S A s.heap s.heap [] := va_S.rf
  have hl := lv_entry ([.ref (qa 0), .int a1]) (n := 5) (Nat.le_of_ble_eq_true rfl)
  rw [lg_entry_eq]
  generalize (lg_sl ([.ref (qa 0), .int a1]) ++ List.replicate (5 - (lg_sl ([.ref (qa 0), .int a1])).length) Slot.unset).toArray = ls at hl ⊢
  have hl : lv_has ls 5 [(0, .ref (qa 0)), (1, .int a1)] := hl
  clear B
  generalize ([.ref (qa 0), .int a1] : List Value).toArray = args at hts ⊢
  have key : ∀ (H : Heap) (locs : List Loc), va_P D vwCl (wM cyI cyZ qa M) H → va_D A (wM cyI cyZ qa M) → va_S A s.heap H locs → W p l e rm_X8_teams s m args below meth c H locs 0 0 (MQ below (jQi D A (fun u : Mo => wM cyI cyZ qa u) o) args s 0 0 A) (F0 m 0 ls []) := by
    intro H locs hP hD hS
    have h := hf
    unfold f_X8_teams at h
    refine lv_aload_n hx hb dX8_teams_0 rfl (lv_at hl 0 rfl) ?_
    refine lv_iconst (v := (0 : Int32)) hx hb dX8_teams_1 (by decide) ?_
    refine va_put (D := D) (ci := 8) (v := .int (0 : Int32)) (ty := .int) (C := RX8) (T := TX8) (N := 24) hx hb hts in_X8_teams_X8 tyX8 tyX8_ok nmX8 hown hK.1 hP hD hS 0 rfl rfl 0 (by decide) (hts _ kw_X8_teams_1) (fun _ h9 => h9) rfl (tyX8_ok 0 (by decide)) rfl rfl (Nat.le_of_ble_eq_true rfl) dX8_teams_2 (fun H locs hP hD hS => ?_)
    have hP : va_P D vwCl (wM cyI cyZ qa (M.1, va_up M.2 0 (0 : Int32))) H := hP
    have hD : va_D A (wM cyI cyZ qa (M.1, va_up M.2 0 (0 : Int32))) := hD
    refine lv_iload_n hx hb dX8_teams_5 rfl (lv_at hl 1 rfl) ?_
    refine lv_iconst (v := (0 : Int32)) hx hb dX8_teams_6 (by decide) ?_
    refine lv_iconst (v := (1 : Int32)) hx hb dX8_teams_7 (by decide) ?_
    obtain ⟨z1, hz1, h⟩ := jb h
    refine jki (jrS (As := [.int a1, .int (0 : Int32), .int (1 : Int32)]) (rest := []) ⟨hx, hb, hml, hown, hts⟩ (c_X8_in l D cyI cyZ cyT   a1 (0 : Int32) (1 : Int32) z1 hz1) (va_cwS 3 hts gX8_teams_X8_in rfl rfl rfl (by decide +kernel) ⟨Nat.le_of_ble_eq_true rfl, Nat.le_of_ble_eq_true rfl⟩) hK jP0 rfl rfl hl.1 (Nat.le_of_ble_eq_true rfl) dX8_teams_8 ⟨Nat.le_of_ble_eq_true rfl, Nat.le_of_ble_eq_true rfl⟩) ?_
    clear hz1
    refine lv_if_ne (tgt := 17) hx hb dX8_teams_11 (by decide) (fun c2 => ?_) (fun c2 => ?_)
    · have h := jf c2 h
      refine lv_iconst (v := (0 : Int32)) hx hb dX8_teams_17 (by decide) ?_
      refine lv_istore_n (lv' := [(2, .int (0 : Int32)), (0, .ref (qa 0)), (1, .int a1)]) hx hb dX8_teams_18 rfl hl (by decide) rfl (fun ls hl => ?_)
      refine lv_bipush (v := (63 : Int32)) hx hb dX8_teams_19 (by decide) ?_
      refine lv_istore_n (lv' := [(3, .int (63 : Int32)), (2, .int (0 : Int32)), (0, .ref (qa 0)), (1, .int a1)]) hx hb dX8_teams_21 rfl hl (by decide) rfl (fun ls hl => ?_)
      refine lv_iconst (v := (0 : Int32)) hx hb dX8_teams_22 (by decide) ?_
      refine lv_istore (lv' := [(4, .int (0 : Int32)), (3, .int (63 : Int32)), (2, .int (0 : Int32)), (0, .ref (qa 0)), (1, .int a1)]) hx hb dX8_teams_23 hl (by decide) rfl (fun ls hl => ?_)
      obtain ⟨r3, hz3, h3_⟩ := jb h
      have hex3 : ∀ e3 : (Int32 × Int32 × Mo), r3 = e3 → ∀ (H : Heap) (locs : List Loc), va_P D vwCl (wM cyI cyZ qa e3.2.2) H → va_D A (wM cyI cyZ qa e3.2.2) → va_S A s.heap H locs → ∀ (ls : Array Slot), lv_has ls 5 [(1, .int a1), (2, .int e3.1), (3, .int e3.2.1)] → W p l e rm_X8_teams s m args below meth c H locs 0 0 (MQ below (jQi D A (fun u : Mo => wM cyI cyZ qa u) o) args s 0 0 A) (F0 m 74 ls []) := by
        intro e3 he H locs hP hD hS ls hl
        rw [he] at h3_
        have h := h3_
        clear hz3
        refine lv_iload_n hx hb dX8_teams_74 rfl (lv_at hl 0 rfl) ?_
        refine lv_if_ne (tgt := 82) hx hb dX8_teams_75 (by decide) (fun c11 => ?_) (fun c11 => ?_)
        · have h := jf c11 h
          refine lv_iload_n hx hb dX8_teams_82 rfl (lv_at hl 1 rfl) ?_
          refine lv_if_ne (tgt := 90) hx hb dX8_teams_83 (by decide) (fun c12 => ?_) (fun c12 => ?_)
          · have h := jf c12 h
            refine lv_iload_n hx hb dX8_teams_90 rfl (lv_at hl 2 rfl) ?_
            exact W.iret hx hb hr (fun t ht _ => ⟨⟨_, _, rfl, Option.some.inj h, by rw [ht]; exact hP, hD⟩, hS.F ht⟩) hS.2.2 dX8_teams_91 hlocks
          · have h := jt c12 h
            refine lv_iconst (v := (0 : Int32)) hx hb dX8_teams_86 (by decide) ?_
            refine lv_goto (tgt := 91) hx hb dX8_teams_87 (by decide) ?_
            exact W.iret hx hb hr (fun t ht _ => ⟨⟨_, _, rfl, Option.some.inj h, by rw [ht]; exact hP, hD⟩, hS.F ht⟩) hS.2.2 dX8_teams_91 hlocks
        · have h := jt c11 h
          refine lv_iload_n hx hb dX8_teams_78 rfl (lv_at hl 1 rfl) ?_
          refine lv_goto (tgt := 91) hx hb dX8_teams_79 (by decide) ?_
          exact W.iret hx hb hr (fun t ht _ => ⟨⟨_, _, rfl, Option.some.inj h, by rw [ht]; exact hP, hD⟩, hS.F ht⟩) hS.2.2 dX8_teams_91 hlocks
      have hlp3 : ∀ (nn : Nat) (z3 : (Int32 × Int32 × Int32 × Mo)), jw (X8_teams_s25 N) nn z3 = some r3 → ∀ (H : Heap) (locs : List Loc), va_P D vwCl (wM cyI cyZ qa z3.2.2.2) H → va_D A (wM cyI cyZ qa z3.2.2.2) → va_S A s.heap H locs → ∀ (ls : Array Slot), lv_has ls 5 [(0, .ref (qa 0)), (1, .int a1), (2, .int z3.1), (3, .int z3.2.1), (4, .int z3.2.2.1)] → W p l e rm_X8_teams s m args below meth c H locs 0 0 (MQ below (jQi D A (fun u : Mo => wM cyI cyZ qa u) o) args s 0 0 A) (F0 m 25 ls []) := by
        refine jw_P (r := r3) (P := fun z3 : (Int32 × Int32 × Int32 × Mo) => ∀ (H : Heap) (locs : List Loc), va_P D vwCl (wM cyI cyZ qa z3.2.2.2) H → va_D A (wM cyI cyZ qa z3.2.2.2) → va_S A s.heap H locs → ∀ (ls : Array Slot), lv_has ls 5 [(0, .ref (qa 0)), (1, .int a1), (2, .int z3.1), (3, .int z3.2.1), (4, .int z3.2.2.1)] → W p l e rm_X8_teams s m args below meth c H locs 0 0 (MQ below (jQi D A (fun u : Mo => wM cyI cyZ qa u) o) args s 0 0 A) (F0 m 25 ls [])) ?_
        intro z3 x3 h hin hout H locs hP hD hS ls hl
        unfold X8_teams_s25 at h
        refine lv_iload hx hb dX8_teams_25 (lv_at hl 4 rfl) ?_
        refine lv_aload_n hx hb dX8_teams_27 rfl (lv_at hl 0 rfl) ?_
        refine va_get (D := D) (ci := 8) (v := .ref (qa 5)) (C := RX8) (T := TX8) (N := 24) hx hb hts in_X8_teams_X8 hown hK.1 hP 0 rfl rfl 13 (by decide) (hts _ kw_X8_teams_2) (fun _ h9 => h9) rfl dX8_teams_28 ?_
        refine lv_iconst (v := (0 : Int32)) hx hb dX8_teams_31 (by decide) ?_
        refine jald hx hb hK hP 5 rfl 0 (by decide) (by decide) dX8_teams_32 ?_
        refine lv_aload_n hx hb dX8_teams_33 rfl (lv_at hl 0 rfl) ?_
        refine va_get (D := D) (ci := 8) (v := .ref (qa 5)) (C := RX8) (T := TX8) (N := 24) hx hb hts in_X8_teams_X8 hown hK.1 hP 0 rfl rfl 13 (by decide) (hts _ kw_X8_teams_2) (fun _ h9 => h9) rfl dX8_teams_34 ?_
        refine lv_iconst (v := (1 : Int32)) hx hb dX8_teams_37 (by decide) ?_
        refine jald hx hb hK hP 5 rfl 1 (by decide) (by decide) dX8_teams_38 ?_
        obtain ⟨z4, hz4, h⟩ := jb h
        refine jki (jrS (As := [.int (z3.2.2.2.1 4 0), .int (z3.2.2.2.1 4 1)]) (rest := [.int z3.2.2.1]) ⟨hx, hb, hml, hown, hts⟩ (c_X8_rowsOf l D cyI cyZ cyT   N (z3.2.2.2.1 4 0) (z3.2.2.2.1 4 1) z4 hz4) (va_cwS 2 hts gX8_teams_X8_rowsOf rfl rfl rfl (by decide +kernel) ⟨Nat.le_of_ble_eq_true rfl, Nat.le_of_ble_eq_true rfl⟩) hK jP0 rfl rfl hl.1 (Nat.le_of_ble_eq_true rfl) dX8_teams_39 ⟨Nat.le_of_ble_eq_true rfl, Nat.le_of_ble_eq_true rfl⟩) ?_
        clear hz4
        refine lv_icmp_ge (tgt := 74) hx hb dX8_teams_42 (by decide) (fun c5 => ?_) (fun c5 => ?_)
        · have h := jt c5 h
          exact hex3 _ (hout _ (Option.some.inj h).symm).symm H locs hP hD hS ls (lv_sub hl [1, 2, 3] rfl)
        · have h := jf c5 h
          refine lv_aload_n hx hb dX8_teams_45 rfl (lv_at hl 0 rfl) ?_
          refine lv_iload hx hb dX8_teams_46 (lv_at hl 4 rfl) ?_
          obtain ⟨z6, hz6, h⟩ := jb h
          refine jgv (w1 := fun u : Mo => wM cyI cyZ qa u) (wn := wM cyI cyZ qa z6) (jmV (As := [.int z3.2.2.1]) (rest := []) ⟨hx, hb, hml, hown, hts⟩ (c_X8_rowOf l D cyI cyZ cyT qa H.size N z3.2.2.1 z3.2.2.2 z6 hz6) (cwV 1 hts gX8_teams_X8_rowOf rfl rfl rfl (by decide +kernel) ⟨Nat.le_of_ble_eq_true rfl, Nat.le_of_ble_eq_true rfl⟩) hK hP hD rfl 8 0 rfl rfl rfl hl.1 (Nat.le_of_ble_eq_true rfl) dX8_teams_48 ⟨Nat.le_of_ble_eq_true rfl, Nat.le_of_ble_eq_true rfl⟩) hP hD hS hA [0, 1, 2, 3, 4, 5, 6, 7, 8, 9, 10, 11, 12, 13] [] [0, 1, 2, 3, 4, 5, 6, 7, 8, 9, 10, 11, 12, 13] rfl rfl (by decide) (by decide) rfl (by decide) (fun H locs hP hD hS => ?_)
          clear hz6
          refine lv_aload_n hx hb dX8_teams_51 rfl (lv_at hl 0 rfl) ?_
          obtain ⟨z7, hz7, h⟩ := jb h
          refine jki (jrV (As := []) (rest := []) ⟨hx, hb, hml, hown, hts⟩ (c_X8_couldBe l D cyI cyZ cyT qa  N z6 z7 hz7) (cwV 0 hts gX8_teams_X8_couldBe rfl rfl rfl (by decide +kernel) ⟨Nat.le_of_ble_eq_true rfl, Nat.le_of_ble_eq_true rfl⟩) hK hP rfl 8 0 rfl rfl rfl hl.1 (Nat.le_of_ble_eq_true rfl) dX8_teams_52 ⟨Nat.le_of_ble_eq_true rfl, Nat.le_of_ble_eq_true rfl⟩) ?_
          clear hz7
          obtain ⟨z8, hz8, h⟩ := jb h
          have hk8 : ∀ (H : Heap) (locs : List Loc), va_P D vwCl (wM cyI cyZ qa z6) H → va_D A (wM cyI cyZ qa z6) → va_S A s.heap H locs → ∀ (ls : Array Slot), lv_has ls 5 [(0, .ref (qa 0)), (1, .int a1), (2, .int z8.1), (3, .int z8.2), (4, .int z3.2.2.1)] → W p l e rm_X8_teams s m args below meth c H locs 0 0 (MQ below (jQi D A (fun u : Mo => wM cyI cyZ qa u) o) args s 0 0 A) (F0 m 68 ls []) := by
            intro H locs hP hD hS ls hl
            refine lv_iinc (v := z3.2.2.1 + (1 : Int32)) (lv' := [(4, .int (z3.2.2.1 + (1 : Int32))), (0, .ref (qa 0)), (1, .int a1), (2, .int z8.1), (3, .int z8.2)]) hx hb dX8_teams_68 hl (k := 4) rfl rfl (by decide) rfl (fun ls hl => ?_)
            refine lv_goto (tgt := 25) hx hb dX8_teams_71 (by decide) ?_
            exact hin _ (Option.some.inj h).symm H locs hP hD hS ls (lv_sub hl [1, 2, 3, 4, 0] rfl)
          clear h
          have h := hz8
          clear hz8
          refine lv_if_eq (tgt := 68) hx hb dX8_teams_55 (by decide) (fun c9 => ?_) (fun c9 => ?_)
          · have h := jt c9 h
            obtain rfl := Option.some.inj h
            exact hk8 H locs hP hD hS ls (lv_sub hl [0, 1, 2, 3, 4] rfl)
          · have h := jf c9 h
            refine lv_iinc (v := z3.1 + (1 : Int32)) (lv' := [(2, .int (z3.1 + (1 : Int32))), (0, .ref (qa 0)), (1, .int a1), (3, .int z3.2.1), (4, .int z3.2.2.1)]) hx hb dX8_teams_58 hl (k := 2) rfl rfl (by decide) rfl (fun ls hl => ?_)
            refine lv_iload_n hx hb dX8_teams_61 rfl (lv_at hl 3 rfl) ?_
            refine lv_aload_n hx hb dX8_teams_62 rfl (lv_at hl 1 rfl) ?_
            obtain ⟨z10, hz10, h⟩ := jb h
            refine jki (jrV (As := []) (rest := [.int z3.2.1]) ⟨hx, hb, hml, hown, hts⟩ (c_X8_rowSet l D cyI cyZ cyT qa  N z6 z10 hz10) (cwV 0 hts gX8_teams_X8_rowSet rfl rfl rfl (by decide +kernel) ⟨Nat.le_of_ble_eq_true rfl, Nat.le_of_ble_eq_true rfl⟩) hK hP rfl 8 0 rfl rfl rfl hl.1 (Nat.le_of_ble_eq_true rfl) dX8_teams_63 ⟨Nat.le_of_ble_eq_true rfl, Nat.le_of_ble_eq_true rfl⟩) ?_
            clear hz10
            refine lv_iand hx hb dX8_teams_66 ?_
            refine lv_istore_n (lv' := [(3, .int (z3.2.1 &&& z10)), (2, .int (z3.1 + (1 : Int32))), (0, .ref (qa 0)), (1, .int a1), (4, .int z3.2.2.1)]) hx hb dX8_teams_67 rfl hl (by decide) rfl (fun ls hl => ?_)
            obtain rfl := Option.some.inj h
            exact hk8 H locs hP hD hS ls (lv_sub hl [2, 3, 1, 0, 4] rfl)
      exact hlp3 _ _ hz3 H locs hP hD hS ls (lv_sub hl [3, 4, 2, 1, 0] rfl)
    · have h := jt c2 h
      refine lv_bipush (v := (-3 : Int32)) hx hb dX8_teams_14 (by decide) ?_
      exact W.iret hx hb hr (fun t ht _ => ⟨⟨_, _, rfl, Option.some.inj h, by rw [ht]; exact hP, hD⟩, hS.F ht⟩) hS.2.2 dX8_teams_16 hlocks
  exact key s.heap [] hP hD hS
theorem kw_X8_through_1 : (.fieldLink RX8 50 "BellTheCatModel" "thrown" "I" : Cond) ∈ wsX8_through := List.mem_of_getElem? (i := 1) rfl
theorem kw_X8_through_2 : (.fieldLink RX8 22 "BellTheCatModel" "many" "[I" : Cond) ∈ wsX8_through := List.mem_of_getElem? (i := 2) rfl
theorem kw_X8_through_3 : (.constantLong RX8 175 (10) : Cond) ∈ wsX8_through := List.mem_of_getElem? (i := 3) rfl
theorem in_X8_through_X8 : ∀ w ∈ wsX80, w ∈ wsX8_through := fun w h => List.mem_cons_of_mem _ (List.mem_append_right _ h)
abbrev rm_X8_through : Room := { frames := 3, cells := 0, slots := 0, locals := 69 }
set_option maxHeartbeats 4000000 in
set_option maxRecDepth 100000 in
theorem c_X8_through (l : Launch) (D : va_G) (cyI cyZ cyT : ClassId) (qa : Nat → Nat) (sz : Nat) (N : Nat) (a1 : Int32) (M : Mo) (o : (Int32 × Mo)) (hf : f_X8_through N a1 M = some o) : Met l yX8_through wsX8_through rm_X8_through (va_Pc [.ref (qa 0), .int a1] (jM D cyI cyZ cyT (wM cyI cyZ qa M) sz)) (jQi D (va_A (wM cyI cyZ qa M) sz) (fun u : Mo => wM cyI cyZ qa u) o) 0 0 (va_A (wM cyI cyZ qa M) sz) := by
  refine Met.ofW (cc := cX8_through) (maxL := 2) (ret := (some .int)) (by decide) rfl ?_
  intro p e s m args below meth c s₁ B hml hv
  obtain ⟨rfl, hsz, hP, hK, hD0⟩ := hv
  have hx := B.exec
  have hb := B.bytes
  have hr := B.returns
  have hts := atoms_spec (ws := wsX8_through) B.pre
  have hown : s.vm.findClass RX8 = some m.cls := findClass_of_methodNamed B.named
  have hlocks := B.notSynchronized
  subst hsz
  have hD := hD0.self (sz := s.heap.size)
  generalize hAe : va_A (wM cyI cyZ qa M) s.heap.size = A at hD ⊢
  have hA : ∀ q : Nat, s.heap.size ≤ q → A q := fun q h => by rw [← hAe]; exact Or.inr h
  have hS : va_S A s.heap s.heap [] := va_S.rf
  have hl := lv_entry ([.ref (qa 0), .int a1]) (n := 2) (Nat.le_of_ble_eq_true rfl)
  rw [lg_entry_eq]
  generalize (lg_sl ([.ref (qa 0), .int a1]) ++ List.replicate (2 - (lg_sl ([.ref (qa 0), .int a1])).length) Slot.unset).toArray = ls at hl ⊢
  have hl : lv_has ls 2 [(0, .ref (qa 0)), (1, .int a1)] := hl
  clear B
  generalize ([.ref (qa 0), .int a1] : List Value).toArray = args at hts ⊢
  have key : ∀ (H : Heap) (locs : List Loc), va_P D vwCl (wM cyI cyZ qa M) H → va_D A (wM cyI cyZ qa M) → va_S A s.heap H locs → W p l e rm_X8_through s m args below meth c H locs 0 0 (MQ below (jQi D A (fun u : Mo => wM cyI cyZ qa u) o) args s 0 0 A) (F0 m 0 ls []) := by
    intro H locs hP hD hS
    have h := hf
    unfold f_X8_through at h
    refine lv_aload_n hx hb dX8_through_0 rfl (lv_at hl 0 rfl) ?_
    refine lv_iconst (v := (0 : Int32)) hx hb dX8_through_1 (by decide) ?_
    refine va_put (D := D) (ci := 8) (v := .int (0 : Int32)) (ty := .int) (C := RX8) (T := TX8) (N := 24) hx hb hts in_X8_through_X8 tyX8 tyX8_ok nmX8 hown hK.1 hP hD hS 0 rfl rfl 0 (by decide) (hts _ kw_X8_through_1) (fun _ h9 => h9) rfl (tyX8_ok 0 (by decide)) rfl rfl (Nat.le_of_ble_eq_true rfl) dX8_through_2 (fun H locs hP hD hS => ?_)
    have hP : va_P D vwCl (wM cyI cyZ qa (M.1, va_up M.2 0 (0 : Int32))) H := hP
    have hD : va_D A (wM cyI cyZ qa (M.1, va_up M.2 0 (0 : Int32))) := hD
    refine lv_iload_n hx hb dX8_through_5 rfl (lv_at hl 1 rfl) ?_
    obtain ⟨z1, hz1, h⟩ := jb h
    refine jki (jrS (As := [.int a1]) (rest := []) ⟨hx, hb, hml, hown, hts⟩ (c_X8_isPart l D cyI cyZ cyT   a1 z1 hz1) (va_cwS 1 hts gX8_through_X8_isPart rfl rfl rfl (by decide +kernel) ⟨Nat.le_of_ble_eq_true rfl, Nat.le_of_ble_eq_true rfl⟩) hK jP0 rfl rfl hl.1 (Nat.le_of_ble_eq_true rfl) dX8_through_6 ⟨Nat.le_of_ble_eq_true rfl, Nat.le_of_ble_eq_true rfl⟩) ?_
    clear hz1
    refine lv_if_ne (tgt := 15) hx hb dX8_through_9 (by decide) (fun c2 => ?_) (fun c2 => ?_)
    · have h := jf c2 h
      refine lv_aload_n hx hb dX8_through_15 rfl (lv_at hl 0 rfl) ?_
      obtain ⟨z3, hz3, h⟩ := jb h
      refine jki (jrV (As := []) (rest := []) ⟨hx, hb, hml, hown, hts⟩ (c_X8_isWhole l D cyI cyZ cyT qa  N (M.1, va_up M.2 0 (0 : Int32)) z3 hz3) (cwV 0 hts gX8_through_X8_isWhole rfl rfl rfl (by decide +kernel) ⟨Nat.le_of_ble_eq_true rfl, Nat.le_of_ble_eq_true rfl⟩) hK hP rfl 8 0 rfl rfl rfl hl.1 (Nat.le_of_ble_eq_true rfl) dX8_through_16 ⟨Nat.le_of_ble_eq_true rfl, Nat.le_of_ble_eq_true rfl⟩) ?_
      clear hz3
      refine lv_if_eq (tgt := 52) hx hb dX8_through_19 (by decide) (fun c4 => ?_) (fun c4 => ?_)
      · have h := jt c4 h
        refine lv_bipush (v := (-4 : Int32)) hx hb dX8_through_52 (by decide) ?_
        exact W.iret hx hb hr (fun t ht _ => ⟨⟨_, _, rfl, Option.some.inj h, by rw [ht]; exact hP, hD⟩, hS.F ht⟩) hS.2.2 dX8_through_54 hlocks
      · have h := jf c4 h
        refine lv_aload_n hx hb dX8_through_22 rfl (lv_at hl 0 rfl) ?_
        refine lv_aload_n hx hb dX8_through_23 rfl (lv_at hl 0 rfl) ?_
        refine va_get (D := D) (ci := 8) (v := .ref (qa 5)) (C := RX8) (T := TX8) (N := 24) hx hb hts in_X8_through_X8 hown hK.1 hP 0 rfl rfl 13 (by decide) (hts _ kw_X8_through_2) (fun _ h9 => h9) rfl dX8_through_24 ?_
        refine lv_iconst (v := (1 : Int32)) hx hb dX8_through_27 (by decide) ?_
        refine jald hx hb hK hP 5 rfl 1 (by decide) (by decide) dX8_through_28 ?_
        obtain ⟨z5, hz5, h⟩ := jb h
        refine jkl (jrV (As := [.int (M.1 4 1)]) (rest := []) ⟨hx, hb, hml, hown, hts⟩ (c_X8_throughTo l D cyI cyZ cyT qa  N (M.1 4 1) (M.1, va_up M.2 0 (0 : Int32)) z5 hz5) (cwV 1 hts gX8_through_X8_throughTo rfl rfl rfl (by decide +kernel) ⟨Nat.le_of_ble_eq_true rfl, Nat.le_of_ble_eq_true rfl⟩) hK hP rfl 8 0 rfl rfl rfl hl.1 (Nat.le_of_ble_eq_true rfl) dX8_through_29 ⟨Nat.le_of_ble_eq_true rfl, Nat.le_of_ble_eq_true rfl⟩) ?_
        clear hz5
        refine lv_ldc2 (v := (10 : Int64)) hx hb hown (hts _ kw_X8_through_3) dX8_through_32 ?_
        refine lv_aload_n hx hb dX8_through_35 rfl (lv_at hl 0 rfl) ?_
        refine va_get (D := D) (ci := 8) (v := .ref (qa 5)) (C := RX8) (T := TX8) (N := 24) hx hb hts in_X8_through_X8 hown hK.1 hP 0 rfl rfl 13 (by decide) (hts _ kw_X8_through_2) (fun _ h9 => h9) rfl dX8_through_36 ?_
        refine lv_iconst (v := (1 : Int32)) hx hb dX8_through_39 (by decide) ?_
        refine jald hx hb hK hP 5 rfl 1 (by decide) (by decide) dX8_through_40 ?_
        obtain ⟨z6, hz6, h⟩ := jb h
        refine jkl (jrS (As := [.long (10 : Int64), .int (M.1 4 1)]) (rest := [.long z5]) ⟨hx, hb, hml, hown, hts⟩ (c_X8_power l D cyI cyZ cyT   N (10 : Int64) (M.1 4 1) z6 hz6) (va_cwS 2 hts gX8_through_X8_power rfl rfl rfl (by decide +kernel) ⟨Nat.le_of_ble_eq_true rfl, Nat.le_of_ble_eq_true rfl⟩) hK jP0 rfl rfl hl.1 (Nat.le_of_ble_eq_true rfl) dX8_through_41 ⟨Nat.le_of_ble_eq_true rfl, Nat.le_of_ble_eq_true rfl⟩) ?_
        clear hz6
        refine lv_iload_n hx hb dX8_through_44 rfl (lv_at hl 1 rfl) ?_
        obtain ⟨z7, hz7, h⟩ := jb h
        refine jkl (jrS (As := [.long z5, .long z6, .int a1]) (rest := []) ⟨hx, hb, hml, hown, hts⟩ (c_X8_part l D cyI cyZ cyT   N z5 z6 a1 z7 hz7) (va_cwS 3 hts gX8_through_X8_part rfl rfl rfl (by decide +kernel) ⟨Nat.le_of_ble_eq_true rfl, Nat.le_of_ble_eq_true rfl⟩) hK jP0 rfl rfl hl.1 (Nat.le_of_ble_eq_true rfl) dX8_through_45 ⟨Nat.le_of_ble_eq_true rfl, Nat.le_of_ble_eq_true rfl⟩) ?_
        clear hz7
        refine lv_l2i (v := z7.toInt32) hx hb dX8_through_48 rfl ?_
        refine lv_goto (tgt := 54) hx hb dX8_through_49 (by decide) ?_
        exact W.iret hx hb hr (fun t ht _ => ⟨⟨_, _, rfl, Option.some.inj h, by rw [ht]; exact hP, hD⟩, hS.F ht⟩) hS.2.2 dX8_through_54 hlocks
    · have h := jt c2 h
      refine lv_bipush (v := (-3 : Int32)) hx hb dX8_through_12 (by decide) ?_
      exact W.iret hx hb hr (fun t ht _ => ⟨⟨_, _, rfl, Option.some.inj h, by rw [ht]; exact hP, hD⟩, hS.F ht⟩) hS.2.2 dX8_through_14 hlocks
  exact key s.heap [] hP hD hS
theorem kw_X8_undo_1 : (.fieldLink RX8 50 "BellTheCatModel" "thrown" "I" : Cond) ∈ wsX8_undo := List.mem_of_getElem? (i := 1) rfl
theorem kw_X8_undo_2 : (.fieldLink RX8 137 "BellTheCatModel" "undos" "I" : Cond) ∈ wsX8_undo := List.mem_of_getElem? (i := 2) rfl
theorem kw_X8_undo_3 : (.fieldLink RX8 25 "BellTheCatModel" "s" "[I" : Cond) ∈ wsX8_undo := List.mem_of_getElem? (i := 3) rfl
theorem kw_X8_undo_4 : (.fieldLink RX8 28 "BellTheCatModel" "before" "[I" : Cond) ∈ wsX8_undo := List.mem_of_getElem? (i := 4) rfl
theorem in_X8_undo_X8 : ∀ w ∈ wsX80, w ∈ wsX8_undo := fun w h => List.mem_cons_of_mem _ (List.mem_append_right _ h)
abbrev rm_X8_undo : Room := { frames := 0, cells := 0, slots := 0, locals := 0 }
set_option maxHeartbeats 4000000 in
set_option maxRecDepth 100000 in
theorem c_X8_undo (l : Launch) (D : va_G) (cyI cyZ cyT : ClassId) (qa : Nat → Nat) (sz : Nat) (N : Nat) (M : Mo) (o : (Int32 × Mo)) (hf : f_X8_undo N M = some o) : Met l yX8_undo wsX8_undo rm_X8_undo (va_Pc [.ref (qa 0)] (jM D cyI cyZ cyT (wM cyI cyZ qa M) sz)) (jQi D (va_A (wM cyI cyZ qa M) sz) (fun u : Mo => wM cyI cyZ qa u) o) 0 0 (va_A (wM cyI cyZ qa M) sz) := by
  refine Met.ofW (cc := cX8_undo) (maxL := 2) (ret := (some .int)) (by decide) rfl ?_
  intro p e s m args below meth c s₁ B hml hv
  obtain ⟨rfl, hsz, hP, hK, hD0⟩ := hv
  have hx := B.exec
  have hb := B.bytes
  have hr := B.returns
  have hts := atoms_spec (ws := wsX8_undo) B.pre
  have hown : s.vm.findClass RX8 = some m.cls := findClass_of_methodNamed B.named
  have hlocks := B.notSynchronized
  subst hsz
  have hD := hD0.self (sz := s.heap.size)
  generalize hAe : va_A (wM cyI cyZ qa M) s.heap.size = A at hD ⊢
  have hA : ∀ q : Nat, s.heap.size ≤ q → A q := fun q h => by rw [← hAe]; exact Or.inr h
  have hS : va_S A s.heap s.heap [] := va_S.rf
  have hl := lv_entry ([.ref (qa 0)]) (n := 2) (Nat.le_of_ble_eq_true rfl)
  rw [lg_entry_eq]
  generalize (lg_sl ([.ref (qa 0)]) ++ List.replicate (2 - (lg_sl ([.ref (qa 0)])).length) Slot.unset).toArray = ls at hl ⊢
  have hl : lv_has ls 2 [(0, .ref (qa 0))] := hl
  clear B
  generalize ([.ref (qa 0)] : List Value).toArray = args at hts ⊢
  have key : ∀ (H : Heap) (locs : List Loc), va_P D vwCl (wM cyI cyZ qa M) H → va_D A (wM cyI cyZ qa M) → va_S A s.heap H locs → W p l e rm_X8_undo s m args below meth c H locs 0 0 (MQ below (jQi D A (fun u : Mo => wM cyI cyZ qa u) o) args s 0 0 A) (F0 m 0 ls []) := by
    intro H locs hP hD hS
    have h := hf
    unfold f_X8_undo at h
    refine lv_aload_n hx hb dX8_undo_0 rfl (lv_at hl 0 rfl) ?_
    refine lv_iconst (v := (0 : Int32)) hx hb dX8_undo_1 (by decide) ?_
    refine va_put (D := D) (ci := 8) (v := .int (0 : Int32)) (ty := .int) (C := RX8) (T := TX8) (N := 24) hx hb hts in_X8_undo_X8 tyX8 tyX8_ok nmX8 hown hK.1 hP hD hS 0 rfl rfl 0 (by decide) (hts _ kw_X8_undo_1) (fun _ h9 => h9) rfl (tyX8_ok 0 (by decide)) rfl rfl (Nat.le_of_ble_eq_true rfl) dX8_undo_2 (fun H locs hP hD hS => ?_)
    have hP : va_P D vwCl (wM cyI cyZ qa (M.1, va_up M.2 0 (0 : Int32))) H := hP
    have hD : va_D A (wM cyI cyZ qa (M.1, va_up M.2 0 (0 : Int32))) := hD
    refine lv_aload_n hx hb dX8_undo_5 rfl (lv_at hl 0 rfl) ?_
    refine va_get (D := D) (ci := 8) (v := .int (M.2 9)) (C := RX8) (T := TX8) (N := 24) hx hb hts in_X8_undo_X8 hown hK.1 hP 0 rfl rfl 16 (by decide) (hts _ kw_X8_undo_2) (fun _ h9 => h9) rfl dX8_undo_6 ?_
    refine lv_if_ne (tgt := 15) hx hb dX8_undo_9 (by decide) (fun c1 => ?_) (fun c1 => ?_)
    · have h := jf c1 h
      refine lv_aload_n hx hb dX8_undo_15 rfl (lv_at hl 0 rfl) ?_
      refine lv_dup hx hb dX8_undo_16 rfl ?_
      refine va_get (D := D) (ci := 8) (v := .int (M.2 9)) (C := RX8) (T := TX8) (N := 24) hx hb hts in_X8_undo_X8 hown hK.1 hP 0 rfl rfl 16 (by decide) (hts _ kw_X8_undo_2) (fun _ h9 => h9) rfl dX8_undo_17 ?_
      refine lv_iconst (v := (1 : Int32)) hx hb dX8_undo_20 (by decide) ?_
      refine lv_isub hx hb dX8_undo_21 ?_
      refine va_put (D := D) (ci := 8) (v := .int ((M.2 9) - (1 : Int32))) (ty := .int) (C := RX8) (T := TX8) (N := 24) hx hb hts in_X8_undo_X8 tyX8 tyX8_ok nmX8 hown hK.1 hP hD hS 0 rfl rfl 16 (by decide) (hts _ kw_X8_undo_2) (fun _ h9 => h9) rfl (tyX8_ok 16 (by decide)) rfl rfl (Nat.le_of_ble_eq_true rfl) dX8_undo_22 (fun H locs hP hD hS => ?_)
      have hP : va_P D vwCl (wM cyI cyZ qa (M.1, va_up (va_up M.2 0 (0 : Int32)) 9 ((M.2 9) - (1 : Int32)))) H := hP
      have hD : va_D A (wM cyI cyZ qa (M.1, va_up (va_up M.2 0 (0 : Int32)) 9 ((M.2 9) - (1 : Int32)))) := hD
      refine lv_iconst (v := (0 : Int32)) hx hb dX8_undo_25 (by decide) ?_
      refine lv_istore_n (lv' := [(1, .int (0 : Int32)), (0, .ref (qa 0))]) hx hb dX8_undo_26 rfl hl (by decide) rfl (fun ls hl => ?_)
      obtain ⟨r2, hz2, h2_⟩ := jb h
      have hex2 : ∀ e2 : Mo, r2 = e2 → ∀ (H : Heap) (locs : List Loc), va_P D vwCl (wM cyI cyZ qa e2) H → va_D A (wM cyI cyZ qa e2) → va_S A s.heap H locs → ∀ (ls : Array Slot), lv_has ls 2 [(0, .ref (qa 0))] → W p l e rm_X8_undo s m args below meth c H locs 0 0 (MQ below (jQi D A (fun u : Mo => wM cyI cyZ qa u) o) args s 0 0 A) (F0 m 59 ls []) := by
        intro e2 he H locs hP hD hS ls hl
        rw [he] at h2_
        have h := h2_
        clear hz2
        refine lv_aload_n hx hb dX8_undo_59 rfl (lv_at hl 0 rfl) ?_
        refine va_get (D := D) (ci := 8) (v := .int (e2.2 9)) (C := RX8) (T := TX8) (N := 24) hx hb hts in_X8_undo_X8 hown hK.1 hP 0 rfl rfl 16 (by decide) (hts _ kw_X8_undo_2) (fun _ h9 => h9) rfl dX8_undo_60 ?_
        exact W.iret hx hb hr (fun t ht _ => ⟨⟨_, _, rfl, Option.some.inj h, by rw [ht]; exact hP, hD⟩, hS.F ht⟩) hS.2.2 dX8_undo_63 hlocks
      have hlp2 : ∀ (nn : Nat) (z2 : (Int32 × Mo)), jw (X8_undo_s27) nn z2 = some r2 → ∀ (H : Heap) (locs : List Loc), va_P D vwCl (wM cyI cyZ qa z2.2) H → va_D A (wM cyI cyZ qa z2.2) → va_S A s.heap H locs → ∀ (ls : Array Slot), lv_has ls 2 [(0, .ref (qa 0)), (1, .int z2.1)] → W p l e rm_X8_undo s m args below meth c H locs 0 0 (MQ below (jQi D A (fun u : Mo => wM cyI cyZ qa u) o) args s 0 0 A) (F0 m 27 ls []) := by
        refine jw_P (r := r2) (P := fun z2 : (Int32 × Mo) => ∀ (H : Heap) (locs : List Loc), va_P D vwCl (wM cyI cyZ qa z2.2) H → va_D A (wM cyI cyZ qa z2.2) → va_S A s.heap H locs → ∀ (ls : Array Slot), lv_has ls 2 [(0, .ref (qa 0)), (1, .int z2.1)] → W p l e rm_X8_undo s m args below meth c H locs 0 0 (MQ below (jQi D A (fun u : Mo => wM cyI cyZ qa u) o) args s 0 0 A) (F0 m 27 ls [])) ?_
        intro z2 x2 h hin hout H locs hP hD hS ls hl
        unfold X8_undo_s27 at h
        refine lv_iload_n hx hb dX8_undo_27 rfl (lv_at hl 1 rfl) ?_
        refine lv_bipush (v := (8 : Int32)) hx hb dX8_undo_28 (by decide) ?_
        refine lv_icmp_ge (tgt := 59) hx hb dX8_undo_30 (by decide) (fun c3 => ?_) (fun c3 => ?_)
        · have h := jt c3 h
          exact hex2 _ (hout _ (Option.some.inj h).symm).symm H locs hP hD hS ls (lv_sub hl [0] rfl)
        · have h := jf c3 h
          refine lv_aload_n hx hb dX8_undo_33 rfl (lv_at hl 0 rfl) ?_
          refine va_get (D := D) (ci := 8) (v := .ref (qa 6)) (C := RX8) (T := TX8) (N := 24) hx hb hts in_X8_undo_X8 hown hK.1 hP 0 rfl rfl 14 (by decide) (hts _ kw_X8_undo_3) (fun _ h9 => h9) rfl dX8_undo_34 ?_
          refine lv_iload_n hx hb dX8_undo_37 rfl (lv_at hl 1 rfl) ?_
          refine lv_aload_n hx hb dX8_undo_38 rfl (lv_at hl 0 rfl) ?_
          refine va_get (D := D) (ci := 8) (v := .ref (qa 7)) (C := RX8) (T := TX8) (N := 24) hx hb hts in_X8_undo_X8 hown hK.1 hP 0 rfl rfl 15 (by decide) (hts _ kw_X8_undo_4) (fun _ h9 => h9) rfl dX8_undo_39 ?_
          refine lv_bipush (v := (8 : Int32)) hx hb dX8_undo_42 (by decide) ?_
          refine lv_aload_n hx hb dX8_undo_44 rfl (lv_at hl 0 rfl) ?_
          refine va_get (D := D) (ci := 8) (v := .int (z2.2.2 9)) (C := RX8) (T := TX8) (N := 24) hx hb hts in_X8_undo_X8 hown hK.1 hP 0 rfl rfl 16 (by decide) (hts _ kw_X8_undo_2) (fun _ h9 => h9) rfl dX8_undo_45 ?_
          refine lv_imul hx hb dX8_undo_48 ?_
          refine lv_iload_n hx hb dX8_undo_49 rfl (lv_at hl 1 rfl) ?_
          refine lv_iadd hx hb dX8_undo_50 ?_
          obtain ⟨g4, h⟩ := jn h
          refine jald hx hb hK hP 7 rfl _ rfl g4 dX8_undo_51 ?_
          obtain ⟨g5, h⟩ := jn h
          refine jast (w' := wM cyI cyZ qa (va_up z2.2.1 5 (upd (z2.2.1 5) z2.1.toNatClampNeg (z2.2.1 6 (((8 : Int32) * (z2.2.2 9)) + z2.1).toNatClampNeg)), z2.2.2)) hx hb hK hP hD hS 6 rfl _ rfl g5 rfl dX8_undo_52 (fun H locs hP hD hS => ?_)
          refine lv_iinc (v := z2.1 + (1 : Int32)) (lv' := [(1, .int (z2.1 + (1 : Int32))), (0, .ref (qa 0))]) hx hb dX8_undo_53 hl (k := 1) rfl rfl (by decide) rfl (fun ls hl => ?_)
          refine lv_goto (tgt := 27) hx hb dX8_undo_56 (by decide) ?_
          exact hin _ (Option.some.inj h).symm H locs hP hD hS ls (lv_sub hl [1, 0] rfl)
      exact hlp2 _ _ hz2 H locs hP hD hS ls (lv_sub hl [1, 0] rfl)
    · have h := jt c1 h
      refine lv_bipush (v := (-4 : Int32)) hx hb dX8_undo_12 (by decide) ?_
      exact W.iret hx hb hr (fun t ht _ => ⟨⟨_, _, rfl, Option.some.inj h, by rw [ht]; exact hP, hD⟩, hS.F ht⟩) hS.2.2 dX8_undo_14 hlocks
  exact key s.heap [] hP hD hS
theorem kw_X8_write_1 : (.fieldLink RX8 50 "BellTheCatModel" "thrown" "I" : Cond) ∈ wsX8_write := List.mem_of_getElem? (i := 1) rfl
theorem kw_X8_write_2 : (.fieldLink RX8 58 "BellTheCatModel" "typed" "I" : Cond) ∈ wsX8_write := List.mem_of_getElem? (i := 2) rfl
theorem kw_X8_write_3 : (.fieldLink RX8 7 "BellTheCatModel" "text" "[I" : Cond) ∈ wsX8_write := List.mem_of_getElem? (i := 3) rfl
theorem in_X8_write_X8 : ∀ w ∈ wsX80, w ∈ wsX8_write := fun w h => List.mem_cons_of_mem _ (List.mem_append_right _ h)
abbrev rm_X8_write : Room := { frames := 1, cells := 0, slots := 0, locals := 22 }
set_option maxHeartbeats 4000000 in
set_option maxRecDepth 100000 in
theorem c_X8_write (l : Launch) (D : va_G) (cyI cyZ cyT : ClassId) (qa : Nat → Nat) (sz : Nat) (a1 : Int32) (M : Mo) (o : (Int32 × Mo)) (hf : f_X8_write a1 M = some o) : Met l yX8_write wsX8_write rm_X8_write (va_Pc [.ref (qa 0), .int a1] (jM D cyI cyZ cyT (wM cyI cyZ qa M) sz)) (jQi D (va_A (wM cyI cyZ qa M) sz) (fun u : Mo => wM cyI cyZ qa u) o) 0 0 (va_A (wM cyI cyZ qa M) sz) := by
  refine Met.ofW (cc := cX8_write) (maxL := 2) (ret := (some .int)) (by decide) rfl ?_
  intro p e s m args below meth c s₁ B hml hv
  obtain ⟨rfl, hsz, hP, hK, hD0⟩ := hv
  have hx := B.exec
  have hb := B.bytes
  have hr := B.returns
  have hts := atoms_spec (ws := wsX8_write) B.pre
  have hown : s.vm.findClass RX8 = some m.cls := findClass_of_methodNamed B.named
  have hlocks := B.notSynchronized
  subst hsz
  have hD := hD0.self (sz := s.heap.size)
  generalize hAe : va_A (wM cyI cyZ qa M) s.heap.size = A at hD ⊢
  have hA : ∀ q : Nat, s.heap.size ≤ q → A q := fun q h => by rw [← hAe]; exact Or.inr h
  have hS : va_S A s.heap s.heap [] := va_S.rf
  have hl := lv_entry ([.ref (qa 0), .int a1]) (n := 2) (Nat.le_of_ble_eq_true rfl)
  rw [lg_entry_eq]
  generalize (lg_sl ([.ref (qa 0), .int a1]) ++ List.replicate (2 - (lg_sl ([.ref (qa 0), .int a1])).length) Slot.unset).toArray = ls at hl ⊢
  have hl : lv_has ls 2 [(0, .ref (qa 0)), (1, .int a1)] := hl
  clear B
  generalize ([.ref (qa 0), .int a1] : List Value).toArray = args at hts ⊢
  have key : ∀ (H : Heap) (locs : List Loc), va_P D vwCl (wM cyI cyZ qa M) H → va_D A (wM cyI cyZ qa M) → va_S A s.heap H locs → W p l e rm_X8_write s m args below meth c H locs 0 0 (MQ below (jQi D A (fun u : Mo => wM cyI cyZ qa u) o) args s 0 0 A) (F0 m 0 ls []) := by
    intro H locs hP hD hS
    have h := hf
    unfold f_X8_write at h
    refine lv_aload_n hx hb dX8_write_0 rfl (lv_at hl 0 rfl) ?_
    refine lv_iconst (v := (0 : Int32)) hx hb dX8_write_1 (by decide) ?_
    refine va_put (D := D) (ci := 8) (v := .int (0 : Int32)) (ty := .int) (C := RX8) (T := TX8) (N := 24) hx hb hts in_X8_write_X8 tyX8 tyX8_ok nmX8 hown hK.1 hP hD hS 0 rfl rfl 0 (by decide) (hts _ kw_X8_write_1) (fun _ h9 => h9) rfl (tyX8_ok 0 (by decide)) rfl rfl (Nat.le_of_ble_eq_true rfl) dX8_write_2 (fun H locs hP hD hS => ?_)
    have hP : va_P D vwCl (wM cyI cyZ qa (M.1, va_up M.2 0 (0 : Int32))) H := hP
    have hD : va_D A (wM cyI cyZ qa (M.1, va_up M.2 0 (0 : Int32))) := hD
    refine lv_iload_n hx hb dX8_write_5 rfl (lv_at hl 1 rfl) ?_
    refine lv_iconst (v := (0 : Int32)) hx hb dX8_write_6 (by decide) ?_
    refine lv_sipush (v := (255 : Int32)) hx hb dX8_write_7 (by decide) ?_
    obtain ⟨z1, hz1, h⟩ := jb h
    refine jki (jrS (As := [.int a1, .int (0 : Int32), .int (255 : Int32)]) (rest := []) ⟨hx, hb, hml, hown, hts⟩ (c_X8_in l D cyI cyZ cyT   a1 (0 : Int32) (255 : Int32) z1 hz1) (va_cwS 3 hts gX8_write_X8_in rfl rfl rfl (by decide +kernel) ⟨Nat.le_of_ble_eq_true rfl, Nat.le_of_ble_eq_true rfl⟩) hK jP0 rfl rfl hl.1 (Nat.le_of_ble_eq_true rfl) dX8_write_10 ⟨Nat.le_of_ble_eq_true rfl, Nat.le_of_ble_eq_true rfl⟩) ?_
    clear hz1
    refine lv_if_ne (tgt := 19) hx hb dX8_write_13 (by decide) (fun c2 => ?_) (fun c2 => ?_)
    · have h := jf c2 h
      refine lv_aload_n hx hb dX8_write_19 rfl (lv_at hl 0 rfl) ?_
      refine va_get (D := D) (ci := 8) (v := .int (M.2 1)) (C := RX8) (T := TX8) (N := 24) hx hb hts in_X8_write_X8 hown hK.1 hP 0 rfl rfl 2 (by decide) (hts _ kw_X8_write_2) (fun _ h9 => h9) rfl dX8_write_20 ?_
      refine lv_sipush (v := (160 : Int32)) hx hb dX8_write_23 (by decide) ?_
      refine lv_icmp_ne (tgt := 32) hx hb dX8_write_26 (by decide) (fun c3 => ?_) (fun c3 => ?_)
      · have h := jf c3 h
        refine lv_aload_n hx hb dX8_write_32 rfl (lv_at hl 0 rfl) ?_
        refine va_get (D := D) (ci := 8) (v := .ref (qa 1)) (C := RX8) (T := TX8) (N := 24) hx hb hts in_X8_write_X8 hown hK.1 hP 0 rfl rfl 1 (by decide) (hts _ kw_X8_write_3) (fun _ h9 => h9) rfl dX8_write_33 ?_
        refine lv_aload_n hx hb dX8_write_36 rfl (lv_at hl 0 rfl) ?_
        refine va_get (D := D) (ci := 8) (v := .int (M.2 1)) (C := RX8) (T := TX8) (N := 24) hx hb hts in_X8_write_X8 hown hK.1 hP 0 rfl rfl 2 (by decide) (hts _ kw_X8_write_2) (fun _ h9 => h9) rfl dX8_write_37 ?_
        refine lv_iload_n hx hb dX8_write_40 rfl (lv_at hl 1 rfl) ?_
        obtain ⟨g4, h⟩ := jn h
        refine jast (w' := wM cyI cyZ qa (va_up M.1 0 (upd (M.1 0) (M.2 1).toNatClampNeg a1), va_up M.2 0 (0 : Int32))) hx hb hK hP hD hS 1 rfl _ rfl g4 rfl dX8_write_41 (fun H locs hP hD hS => ?_)
        refine lv_aload_n hx hb dX8_write_42 rfl (lv_at hl 0 rfl) ?_
        refine lv_dup hx hb dX8_write_43 rfl ?_
        refine va_get (D := D) (ci := 8) (v := .int (M.2 1)) (C := RX8) (T := TX8) (N := 24) hx hb hts in_X8_write_X8 hown hK.1 hP 0 rfl rfl 2 (by decide) (hts _ kw_X8_write_2) (fun _ h9 => h9) rfl dX8_write_44 ?_
        refine lv_iconst (v := (1 : Int32)) hx hb dX8_write_47 (by decide) ?_
        refine lv_iadd hx hb dX8_write_48 ?_
        refine va_put (D := D) (ci := 8) (v := .int ((M.2 1) + (1 : Int32))) (ty := .int) (C := RX8) (T := TX8) (N := 24) hx hb hts in_X8_write_X8 tyX8 tyX8_ok nmX8 hown hK.1 hP hD hS 0 rfl rfl 2 (by decide) (hts _ kw_X8_write_2) (fun _ h9 => h9) rfl (tyX8_ok 2 (by decide)) rfl rfl (Nat.le_of_ble_eq_true rfl) dX8_write_49 (fun H locs hP hD hS => ?_)
        have hP : va_P D vwCl (wM cyI cyZ qa (va_up M.1 0 (upd (M.1 0) (M.2 1).toNatClampNeg a1), va_up (va_up M.2 0 (0 : Int32)) 1 ((M.2 1) + (1 : Int32)))) H := hP
        have hD : va_D A (wM cyI cyZ qa (va_up M.1 0 (upd (M.1 0) (M.2 1).toNatClampNeg a1), va_up (va_up M.2 0 (0 : Int32)) 1 ((M.2 1) + (1 : Int32)))) := hD
        refine lv_aload_n hx hb dX8_write_52 rfl (lv_at hl 0 rfl) ?_
        refine va_get (D := D) (ci := 8) (v := .int ((M.2 1) + (1 : Int32))) (C := RX8) (T := TX8) (N := 24) hx hb hts in_X8_write_X8 hown hK.1 hP 0 rfl rfl 2 (by decide) (hts _ kw_X8_write_2) (fun _ h9 => h9) rfl dX8_write_53 ?_
        exact W.iret hx hb hr (fun t ht _ => ⟨⟨_, _, rfl, Option.some.inj h, by rw [ht]; exact hP, hD⟩, hS.F ht⟩) hS.2.2 dX8_write_56 hlocks
      · have h := jt c3 h
        refine lv_bipush (v := (-5 : Int32)) hx hb dX8_write_29 (by decide) ?_
        exact W.iret hx hb hr (fun t ht _ => ⟨⟨_, _, rfl, Option.some.inj h, by rw [ht]; exact hP, hD⟩, hS.F ht⟩) hS.2.2 dX8_write_31 hlocks
    · have h := jt c2 h
      refine lv_bipush (v := (-3 : Int32)) hx hb dX8_write_16 (by decide) ?_
      exact W.iret hx hb hr (fun t ht _ => ⟨⟨_, _, rfl, Option.some.inj h, by rw [ht]; exact hP, hD⟩, hS.F ht⟩) hS.2.2 dX8_write_18 hlocks
  exact key s.heap [] hP hD hS

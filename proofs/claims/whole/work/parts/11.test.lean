abbrev rm_X8_in : Room := { frames := 0, cells := 0, slots := 0, locals := 0 }
set_option maxHeartbeats 4000000 in
set_option maxRecDepth 100000 in
theorem c_X8_in (l : Launch) (D : va_G) (cyI cyZ cyT : ClassId) (a0 : Int32) (a1 : Int32) (a2 : Int32) (o : Int32) (hf : f_X8_in a0 a1 a2 = some o) : Met l yX8_in wsX8_in rm_X8_in (va_Pc [.int a0, .int a1, .int a2] (jB D cyI cyZ cyT ([]))) (jSi o) 0 0 (fun _ => False) := by
  refine Met.ofW (cc := cX8_in) (maxL := 3) (ret := (some .boolean)) (by decide) rfl ?_
  intro p e s m args below meth c s₁ B hml hv
  obtain ⟨rfl, hP, hK⟩ := hv
  have hx := B.exec
  have hb := B.bytes
  have hr := B.returns
  have hts := atoms_spec (ws := wsX8_in) B.pre
  have hown : s.vm.findClass RX8 = some m.cls := findClass_of_methodNamed B.named
  have hlocks := B.notSynchronized
  have hl := lv_entry ([.int a0, .int a1, .int a2]) (n := 3) (Nat.le_of_ble_eq_true rfl)
  rw [lg_entry_eq]
  generalize (lg_sl ([.int a0, .int a1, .int a2]) ++ List.replicate (3 - (lg_sl ([.int a0, .int a1, .int a2])).length) Slot.unset).toArray = ls at hl ⊢
  have hl : lv_has ls 3 [(0, .int a0), (1, .int a1), (2, .int a2)] := hl
  clear B
  generalize ([.int a0, .int a1, .int a2] : List Value).toArray = args at hts ⊢
  have key : ∀ (H : Heap), va_P D vwCl ([]) H → H = s.heap → W p l e rm_X8_in s m args below meth c H [] 0 0 (MQ below (jSi o) args s 0 0 (fun _ => False)) (F0 m 0 ls []) := by
    intro H hP hH
    have h := hf
    unfold f_X8_in at h
    refine lv_iload_n hx hb dX8_in_0 rfl (lv_at hl 0 rfl) ?_
    refine lv_iload_n hx hb dX8_in_1 rfl (lv_at hl 1 rfl) ?_
    refine lv_icmp_lt (tgt := 14) hx hb dX8_in_2 (by decide) (fun c1 => ?_) (fun c1 => ?_)
    · have h := jt c1 h
      refine lv_iconst (v := (0 : Int32)) hx hb dX8_in_14 (by decide) ?_
      exact W.zret hx hb hr rfl (fun t ht _ => ⟨_, rfl, Option.some.inj h, ht.trans hH⟩) (fun q h => by cases h) dX8_in_15 hlocks
    · have h := jf c1 h
      refine lv_iload_n hx hb dX8_in_5 rfl (lv_at hl 0 rfl) ?_
      refine lv_iload_n hx hb dX8_in_6 rfl (lv_at hl 2 rfl) ?_
      refine lv_icmp_gt (tgt := 14) hx hb dX8_in_7 (by decide) (fun c2 => ?_) (fun c2 => ?_)
      · have h := jt c2 h
        refine lv_iconst (v := (0 : Int32)) hx hb dX8_in_14 (by decide) ?_
        exact W.zret hx hb hr rfl (fun t ht _ => ⟨_, rfl, Option.some.inj h, ht.trans hH⟩) (fun q h => by cases h) dX8_in_15 hlocks
      · have h := jf c2 h
        refine lv_iconst (v := (1 : Int32)) hx hb dX8_in_10 (by decide) ?_
        refine lv_goto (tgt := 15) hx hb dX8_in_11 (by decide) ?_
        exact W.zret hx hb hr rfl (fun t ht _ => ⟨_, rfl, Option.some.inj h, ht.trans hH⟩) (fun q h => by cases h) dX8_in_15 hlocks
  exact key s.heap hP rfl
abbrev rm_X8_ones : Room := { frames := 0, cells := 0, slots := 0, locals := 0 }
set_option maxHeartbeats 4000000 in
set_option maxRecDepth 100000 in
theorem c_X8_ones (l : Launch) (D : va_G) (cyI cyZ cyT : ClassId) (N : Nat) (a0 : Int32) (o : Int32) (hf : f_X8_ones N a0 = some o) : Met l yX8_ones wsX8_ones rm_X8_ones (va_Pc [.int a0] (jB D cyI cyZ cyT ([]))) (jSi o) 0 0 (fun _ => False) := by
  refine Met.ofW (cc := cX8_ones) (maxL := 3) (ret := (some .int)) (by decide) rfl ?_
  intro p e s m args below meth c s₁ B hml hv
  obtain ⟨rfl, hP, hK⟩ := hv
  have hx := B.exec
  have hb := B.bytes
  have hr := B.returns
  have hts := atoms_spec (ws := wsX8_ones) B.pre
  have hown : s.vm.findClass RX8 = some m.cls := findClass_of_methodNamed B.named
  have hlocks := B.notSynchronized
  have hl := lv_entry ([.int a0]) (n := 3) (Nat.le_of_ble_eq_true rfl)
  rw [lg_entry_eq]
  generalize (lg_sl ([.int a0]) ++ List.replicate (3 - (lg_sl ([.int a0])).length) Slot.unset).toArray = ls at hl ⊢
  have hl : lv_has ls 3 [(0, .int a0)] := hl
  clear B
  generalize ([.int a0] : List Value).toArray = args at hts ⊢
  have key : ∀ (H : Heap), va_P D vwCl ([]) H → H = s.heap → W p l e rm_X8_ones s m args below meth c H [] 0 0 (MQ below (jSi o) args s 0 0 (fun _ => False)) (F0 m 0 ls []) := by
    intro H hP hH
    have h := hf
    unfold f_X8_ones at h
    refine lv_iconst (v := (0 : Int32)) hx hb dX8_ones_0 (by decide) ?_
    refine lv_istore_n (lv' := [(1, .int (0 : Int32)), (0, .int a0)]) hx hb dX8_ones_1 rfl hl (by decide) rfl (fun ls hl => ?_)
    refine lv_iconst (v := (0 : Int32)) hx hb dX8_ones_2 (by decide) ?_
    refine lv_istore_n (lv' := [(2, .int (0 : Int32)), (1, .int (0 : Int32)), (0, .int a0)]) hx hb dX8_ones_3 rfl hl (by decide) rfl (fun ls hl => ?_)
    obtain ⟨r1, hz1, h1_⟩ := jb h
    have hex1 : ∀ e1 : Int32, r1 = e1 → ∀ (ls : Array Slot), lv_has ls 3 [(1, .int e1)] → W p l e rm_X8_ones s m args below meth c H [] 0 0 (MQ below (jSi o) args s 0 0 (fun _ => False)) (F0 m 24 ls []) := by
      intro e1 he ls hl
      rw [he] at h1_
      have h := h1_
      clear hz1
      refine lv_iload_n hx hb dX8_ones_24 rfl (lv_at hl 0 rfl) ?_
      exact W.iret hx hb hr (fun t ht _ => ⟨_, rfl, Option.some.inj h, ht.trans hH⟩) (fun q h => by cases h) dX8_ones_25 hlocks
    have hlp1 : ∀ (n : Nat) (z1 : (Int32 × Int32)), jw (X8_ones_s4 a0) n z1 = some r1 → ∀ (ls : Array Slot), lv_has ls 3 [(0, .int a0), (1, .int z1.1), (2, .int z1.2)] → W p l e rm_X8_ones s m args below meth c H [] 0 0 (MQ below (jSi o) args s 0 0 (fun _ => False)) (F0 m 4 ls []) := by
      refine jw_P (r := r1) (P := fun z1 => ∀ (ls : Array Slot), lv_has ls 3 [(0, .int a0), (1, .int z1.1), (2, .int z1.2)] → W p l e rm_X8_ones s m args below meth c H [] 0 0 (MQ below (jSi o) args s 0 0 (fun _ => False)) (F0 m 4 ls [])) ?_
      intro z1 x1 h hin hout ls hl
      unfold X8_ones_s4 at h
      refine lv_iload_n hx hb dX8_ones_4 rfl (lv_at hl 2 rfl) ?_
      refine lv_bipush (v := (6 : Int32)) hx hb dX8_ones_5 (by decide) ?_
      refine lv_icmp_ge (tgt := 24) hx hb dX8_ones_7 (by decide) (fun c2 => ?_) (fun c2 => ?_)
      · have h := jt c2 h
        exact hex1 _ (hout _ (Option.some.inj h).symm).symm ls (lv_sub hl [1] rfl)
      · have h := jf c2 h
        refine lv_iload_n hx hb dX8_ones_10 rfl (lv_at hl 1 rfl) ?_
        refine lv_iload_n hx hb dX8_ones_11 rfl (lv_at hl 0 rfl) ?_
        refine lv_iload_n hx hb dX8_ones_12 rfl (lv_at hl 2 rfl) ?_
        refine lv_ishr hx hb dX8_ones_13 ?_
        refine lv_iconst (v := (1 : Int32)) hx hb dX8_ones_14 (by decide) ?_
        refine lv_iand hx hb dX8_ones_15 ?_
        refine lv_iadd hx hb dX8_ones_16 ?_
        refine lv_istore_n (lv' := [(1, .int (z1.1 + ((a0 >>> (z1.2 &&& 31)) &&& (1 : Int32)))), (0, .int a0), (2, .int z1.2)]) hx hb dX8_ones_17 rfl hl (by decide) rfl (fun ls hl => ?_)
        refine lv_iinc (v := z1.2 + (1 : Int32)) (lv' := [(2, .int (z1.2 + (1 : Int32))), (1, .int (z1.1 + ((a0 >>> (z1.2 &&& 31)) &&& (1 : Int32)))), (0, .int a0)]) hx hb dX8_ones_18 hl (k := 2) rfl rfl (by decide) rfl (fun ls hl => ?_)
        refine lv_goto (tgt := 4) hx hb dX8_ones_21 (by decide) ?_
        exact hin _ (Option.some.inj h).symm ls (lv_sub hl [2, 1, 0] rfl)
    exact hlp1 _ _ hz1 ls (lv_sub hl [2, 1, 0] rfl)
  exact key s.heap hP rfl
theorem kw_X8_letterAt_1 : (.fieldLink RX8 58 "BellTheCatModel" "typed" "I" : Cond) ∈ wsX8_letterAt := List.mem_of_getElem? (i := 1) rfl
theorem kw_X8_letterAt_2 : (.fieldLink RX8 7 "BellTheCatModel" "text" "[I" : Cond) ∈ wsX8_letterAt := List.mem_of_getElem? (i := 2) rfl
theorem in_X8_letterAt_X8 : ∀ w ∈ wsX80, w ∈ wsX8_letterAt := fun w h => List.mem_cons_of_mem _ (List.mem_append_right _ h)
abbrev rm_X8_letterAt : Room := { frames := 0, cells := 0, slots := 0, locals := 0 }
set_option maxHeartbeats 4000000 in
set_option maxRecDepth 100000 in
theorem c_X8_letterAt (l : Launch) (D : va_G) (cyI cyZ cyT : ClassId) (qa : Nat → Nat) (a1 : Int32) (M : Mo) (o : Int32) (hf : f_X8_letterAt a1 M = some o) : Met l yX8_letterAt wsX8_letterAt rm_X8_letterAt (va_Pc [.ref (qa 0), .int a1] (jB D cyI cyZ cyT (wM cyI cyZ qa M))) (jSi o) 0 0 (fun _ => False) := by
  refine Met.ofW (cc := cX8_letterAt) (maxL := 2) (ret := (some .int)) (by decide) rfl ?_
  intro p e s m args below meth c s₁ B hml hv
  obtain ⟨rfl, hP, hK⟩ := hv
  have hx := B.exec
  have hb := B.bytes
  have hr := B.returns
  have hts := atoms_spec (ws := wsX8_letterAt) B.pre
  have hown : s.vm.findClass RX8 = some m.cls := findClass_of_methodNamed B.named
  have hlocks := B.notSynchronized
  have hl := lv_entry ([.ref (qa 0), .int a1]) (n := 2) (Nat.le_of_ble_eq_true rfl)
  rw [lg_entry_eq]
  generalize (lg_sl ([.ref (qa 0), .int a1]) ++ List.replicate (2 - (lg_sl ([.ref (qa 0), .int a1])).length) Slot.unset).toArray = ls at hl ⊢
  have hl : lv_has ls 2 [(0, .ref (qa 0)), (1, .int a1)] := hl
  clear B
  generalize ([.ref (qa 0), .int a1] : List Value).toArray = args at hts ⊢
  have key : ∀ (H : Heap), va_P D vwCl (wM cyI cyZ qa M) H → H = s.heap → W p l e rm_X8_letterAt s m args below meth c H [] 0 0 (MQ below (jSi o) args s 0 0 (fun _ => False)) (F0 m 0 ls []) := by
    intro H hP hH
    have h := hf
    unfold f_X8_letterAt at h
    refine lv_iload_n hx hb dX8_letterAt_0 rfl (lv_at hl 1 rfl) ?_
    refine lv_aload_n hx hb dX8_letterAt_1 rfl (lv_at hl 0 rfl) ?_
    refine va_get (D := D) (ci := 8) (v := .int (M.2 1)) (C := RX8) (T := TX8) (N := 24) hx hb hts in_X8_letterAt_X8 hown hK.1 hP 0 rfl rfl 2 (by decide) (hts _ kw_X8_letterAt_1) (fun _ h9 => h9) rfl dX8_letterAt_2 ?_
    refine lv_icmp_ge (tgt := 17) hx hb dX8_letterAt_5 (by decide) (fun c1 => ?_) (fun c1 => ?_)
    · have h := jt c1 h
      refine lv_iconst (v := (-1 : Int32)) hx hb dX8_letterAt_17 (by decide) ?_
      exact W.iret hx hb hr (fun t ht _ => ⟨_, rfl, Option.some.inj h, ht.trans hH⟩) (fun q h => by cases h) dX8_letterAt_18 hlocks
    · have h := jf c1 h
      refine lv_aload_n hx hb dX8_letterAt_8 rfl (lv_at hl 0 rfl) ?_
      refine va_get (D := D) (ci := 8) (v := .ref (qa 1)) (C := RX8) (T := TX8) (N := 24) hx hb hts in_X8_letterAt_X8 hown hK.1 hP 0 rfl rfl 1 (by decide) (hts _ kw_X8_letterAt_2) (fun _ h9 => h9) rfl dX8_letterAt_9 ?_
      refine lv_iload_n hx hb dX8_letterAt_12 rfl (lv_at hl 1 rfl) ?_
      obtain ⟨g2, h⟩ := jn h
      refine jald hx hb hK hP 1 rfl _ rfl g2 dX8_letterAt_13 ?_
      refine lv_goto (tgt := 18) hx hb dX8_letterAt_14 (by decide) ?_
      exact W.iret hx hb hr (fun t ht _ => ⟨_, rfl, Option.some.inj h, ht.trans hH⟩) (fun q h => by cases h) dX8_letterAt_18 hlocks
  exact key s.heap hP rfl
theorem kw_X8_isMouse_1 : (.fieldLink RX8 22 "BellTheCatModel" "many" "[I" : Cond) ∈ wsX8_isMouse := List.mem_of_getElem? (i := 1) rfl
theorem in_X8_isMouse_X8 : ∀ w ∈ wsX80, w ∈ wsX8_isMouse := fun w h => List.mem_cons_of_mem _ (List.mem_append_right _ h)
abbrev rm_X8_isMouse : Room := { frames := 1, cells := 0, slots := 0, locals := 22 }
set_option maxHeartbeats 4000000 in
set_option maxRecDepth 100000 in
theorem c_X8_isMouse (l : Launch) (D : va_G) (cyI cyZ cyT : ClassId) (qa : Nat → Nat) (a1 : Int32) (M : Mo) (o : Int32) (hf : f_X8_isMouse a1 M = some o) : Met l yX8_isMouse wsX8_isMouse rm_X8_isMouse (va_Pc [.ref (qa 0), .int a1] (jB D cyI cyZ cyT (wM cyI cyZ qa M))) (jSi o) 0 0 (fun _ => False) := by
  refine Met.ofW (cc := cX8_isMouse) (maxL := 2) (ret := (some .boolean)) (by decide) rfl ?_
  intro p e s m args below meth c s₁ B hml hv
  obtain ⟨rfl, hP, hK⟩ := hv
  have hx := B.exec
  have hb := B.bytes
  have hr := B.returns
  have hts := atoms_spec (ws := wsX8_isMouse) B.pre
  have hown : s.vm.findClass RX8 = some m.cls := findClass_of_methodNamed B.named
  have hlocks := B.notSynchronized
  have hl := lv_entry ([.ref (qa 0), .int a1]) (n := 2) (Nat.le_of_ble_eq_true rfl)
  rw [lg_entry_eq]
  generalize (lg_sl ([.ref (qa 0), .int a1]) ++ List.replicate (2 - (lg_sl ([.ref (qa 0), .int a1])).length) Slot.unset).toArray = ls at hl ⊢
  have hl : lv_has ls 2 [(0, .ref (qa 0)), (1, .int a1)] := hl
  clear B
  generalize ([.ref (qa 0), .int a1] : List Value).toArray = args at hts ⊢
  have key : ∀ (H : Heap), va_P D vwCl (wM cyI cyZ qa M) H → H = s.heap → W p l e rm_X8_isMouse s m args below meth c H [] 0 0 (MQ below (jSi o) args s 0 0 (fun _ => False)) (F0 m 0 ls []) := by
    intro H hP hH
    have h := hf
    unfold f_X8_isMouse at h
    refine lv_iload_n hx hb dX8_isMouse_0 rfl (lv_at hl 1 rfl) ?_
    refine lv_iconst (v := (0 : Int32)) hx hb dX8_isMouse_1 (by decide) ?_
    refine lv_aload_n hx hb dX8_isMouse_2 rfl (lv_at hl 0 rfl) ?_
    refine va_get (D := D) (ci := 8) (v := .ref (qa 5)) (C := RX8) (T := TX8) (N := 24) hx hb hts in_X8_isMouse_X8 hown hK.1 hP 0 rfl rfl 13 (by decide) (hts _ kw_X8_isMouse_1) (fun _ h9 => h9) rfl dX8_isMouse_3 ?_
    refine lv_iconst (v := (0 : Int32)) hx hb dX8_isMouse_6 (by decide) ?_
    refine jald hx hb hK hP 5 rfl 0 (by decide) (by decide) dX8_isMouse_7 ?_
    refine lv_iconst (v := (1 : Int32)) hx hb dX8_isMouse_8 (by decide) ?_
    refine lv_isub hx hb dX8_isMouse_9 ?_
    obtain ⟨z1, hz1, h⟩ := jb h
    refine jki (jrS (As := [.int a1, .int (0 : Int32), .int ((M.1 4 0) - (1 : Int32))]) (rest := []) ⟨hx, hb, hml, hown, hts⟩ (c_X8_in l D cyI cyZ cyT   a1 (0 : Int32) ((M.1 4 0) - (1 : Int32)) z1 hz1) (va_cwS 3 hts gX8_isMouse_X8_in rfl rfl rfl (by decide +kernel) ⟨Nat.le_of_ble_eq_true rfl, Nat.le_of_ble_eq_true rfl⟩) hK jP0 rfl rfl hl.1 (Nat.le_of_ble_eq_true rfl) dX8_isMouse_10 ⟨Nat.le_of_ble_eq_true rfl, Nat.le_of_ble_eq_true rfl⟩) ?_
    clear hz1
    obtain ⟨gz, h⟩ := jn h
    exact W.zret hx hb hr (jz_n gz) (fun t ht _ => ⟨_, rfl, Option.some.inj h, ht.trans hH⟩) (fun q h => by cases h) dX8_isMouse_13 hlocks
  exact key s.heap hP rfl
theorem kw_X8_isLiving_1 : (.fieldLink RX8 25 "BellTheCatModel" "s" "[I" : Cond) ∈ wsX8_isLiving := List.mem_of_getElem? (i := 1) rfl
theorem in_X8_isLiving_X8 : ∀ w ∈ wsX80, w ∈ wsX8_isLiving := fun w h => List.mem_cons_of_mem _ (List.mem_append_right _ h)
abbrev rm_X8_isLiving : Room := { frames := 0, cells := 0, slots := 0, locals := 0 }
set_option maxHeartbeats 4000000 in
set_option maxRecDepth 100000 in
theorem c_X8_isLiving (l : Launch) (D : va_G) (cyI cyZ cyT : ClassId) (qa : Nat → Nat) (a1 : Int32) (M : Mo) (o : Int32) (hf : f_X8_isLiving a1 M = some o) : Met l yX8_isLiving wsX8_isLiving rm_X8_isLiving (va_Pc [.ref (qa 0), .int a1] (jB D cyI cyZ cyT (wM cyI cyZ qa M))) (jSi o) 0 0 (fun _ => False) := by
  refine Met.ofW (cc := cX8_isLiving) (maxL := 2) (ret := (some .boolean)) (by decide) rfl ?_
  intro p e s m args below meth c s₁ B hml hv
  obtain ⟨rfl, hP, hK⟩ := hv
  have hx := B.exec
  have hb := B.bytes
  have hr := B.returns
  have hts := atoms_spec (ws := wsX8_isLiving) B.pre
  have hown : s.vm.findClass RX8 = some m.cls := findClass_of_methodNamed B.named
  have hlocks := B.notSynchronized
  have hl := lv_entry ([.ref (qa 0), .int a1]) (n := 2) (Nat.le_of_ble_eq_true rfl)
  rw [lg_entry_eq]
  generalize (lg_sl ([.ref (qa 0), .int a1]) ++ List.replicate (2 - (lg_sl ([.ref (qa 0), .int a1])).length) Slot.unset).toArray = ls at hl ⊢
  have hl : lv_has ls 2 [(0, .ref (qa 0)), (1, .int a1)] := hl
  clear B
  generalize ([.ref (qa 0), .int a1] : List Value).toArray = args at hts ⊢
  have key : ∀ (H : Heap), va_P D vwCl (wM cyI cyZ qa M) H → H = s.heap → W p l e rm_X8_isLiving s m args below meth c H [] 0 0 (MQ below (jSi o) args s 0 0 (fun _ => False)) (F0 m 0 ls []) := by
    intro H hP hH
    have h := hf
    unfold f_X8_isLiving at h
    refine lv_aload_n hx hb dX8_isLiving_0 rfl (lv_at hl 0 rfl) ?_
    refine va_get (D := D) (ci := 8) (v := .ref (qa 6)) (C := RX8) (T := TX8) (N := 24) hx hb hts in_X8_isLiving_X8 hown hK.1 hP 0 rfl rfl 14 (by decide) (hts _ kw_X8_isLiving_1) (fun _ h9 => h9) rfl dX8_isLiving_1 ?_
    refine lv_iconst (v := (1 : Int32)) hx hb dX8_isLiving_4 (by decide) ?_
    refine jald hx hb hK hP 6 rfl 1 (by decide) (by decide) dX8_isLiving_5 ?_
    refine lv_iload_n hx hb dX8_isLiving_6 rfl (lv_at hl 1 rfl) ?_
    refine lv_ishr hx hb dX8_isLiving_7 ?_
    refine lv_iconst (v := (1 : Int32)) hx hb dX8_isLiving_8 (by decide) ?_
    refine lv_iand hx hb dX8_isLiving_9 ?_
    refine lv_iconst (v := (1 : Int32)) hx hb dX8_isLiving_10 (by decide) ?_
    refine lv_icmp_ne (tgt := 18) hx hb dX8_isLiving_11 (by decide) (fun c1 => ?_) (fun c1 => ?_)
    · have h := jf c1 h
      refine lv_iconst (v := (0 : Int32)) hx hb dX8_isLiving_18 (by decide) ?_
      exact W.zret hx hb hr rfl (fun t ht _ => ⟨_, rfl, Option.some.inj h, ht.trans hH⟩) (fun q h => by cases h) dX8_isLiving_19 hlocks
    · have h := jt (Decidable.of_not_not c1) h
      refine lv_iconst (v := (1 : Int32)) hx hb dX8_isLiving_14 (by decide) ?_
      refine lv_goto (tgt := 19) hx hb dX8_isLiving_15 (by decide) ?_
      exact W.zret hx hb hr rfl (fun t ht _ => ⟨_, rfl, Option.some.inj h, ht.trans hH⟩) (fun q h => by cases h) dX8_isLiving_19 hlocks
  exact key s.heap hP rfl
theorem kw_X8_done_1 : (.fieldLink RX8 22 "BellTheCatModel" "many" "[I" : Cond) ∈ wsX8_done := List.mem_of_getElem? (i := 1) rfl
theorem kw_X8_done_2 : (.fieldLink RX8 25 "BellTheCatModel" "s" "[I" : Cond) ∈ wsX8_done := List.mem_of_getElem? (i := 2) rfl
theorem in_X8_done_X8 : ∀ w ∈ wsX80, w ∈ wsX8_done := fun w h => List.mem_cons_of_mem _ (List.mem_append_right _ h)
abbrev rm_X8_done : Room := { frames := 0, cells := 0, slots := 0, locals := 0 }
set_option maxHeartbeats 4000000 in
set_option maxRecDepth 100000 in
theorem c_X8_done (l : Launch) (D : va_G) (cyI cyZ cyT : ClassId) (qa : Nat → Nat) (N : Nat) (M : Mo) (o : Int32) (hf : f_X8_done N M = some o) : Met l yX8_done wsX8_done rm_X8_done (va_Pc [.ref (qa 0)] (jB D cyI cyZ cyT (wM cyI cyZ qa M))) (jSi o) 0 0 (fun _ => False) := by
  refine Met.ofW (cc := cX8_done) (maxL := 3) (ret := (some .int)) (by decide) rfl ?_
  intro p e s m args below meth c s₁ B hml hv
  obtain ⟨rfl, hP, hK⟩ := hv
  have hx := B.exec
  have hb := B.bytes
  have hr := B.returns
  have hts := atoms_spec (ws := wsX8_done) B.pre
  have hown : s.vm.findClass RX8 = some m.cls := findClass_of_methodNamed B.named
  have hlocks := B.notSynchronized
  have hl := lv_entry ([.ref (qa 0)]) (n := 3) (Nat.le_of_ble_eq_true rfl)
  rw [lg_entry_eq]
  generalize (lg_sl ([.ref (qa 0)]) ++ List.replicate (3 - (lg_sl ([.ref (qa 0)])).length) Slot.unset).toArray = ls at hl ⊢
  have hl : lv_has ls 3 [(0, .ref (qa 0))] := hl
  clear B
  generalize ([.ref (qa 0)] : List Value).toArray = args at hts ⊢
  have key : ∀ (H : Heap), va_P D vwCl (wM cyI cyZ qa M) H → H = s.heap → W p l e rm_X8_done s m args below meth c H [] 0 0 (MQ below (jSi o) args s 0 0 (fun _ => False)) (F0 m 0 ls []) := by
    intro H hP hH
    have h := hf
    unfold f_X8_done at h
    refine lv_iconst (v := (0 : Int32)) hx hb dX8_done_0 (by decide) ?_
    refine lv_istore_n (lv' := [(1, .int (0 : Int32)), (0, .ref (qa 0))]) hx hb dX8_done_1 rfl hl (by decide) rfl (fun ls hl => ?_)
    refine lv_iconst (v := (0 : Int32)) hx hb dX8_done_2 (by decide) ?_
    refine lv_istore_n (lv' := [(2, .int (0 : Int32)), (1, .int (0 : Int32)), (0, .ref (qa 0))]) hx hb dX8_done_3 rfl hl (by decide) rfl (fun ls hl => ?_)
    obtain ⟨r1, hz1, h1_⟩ := jb h
    have hex1 : ∀ e1 : Int32, r1 = e1 → ∀ (ls : Array Slot), lv_has ls 3 [(1, .int e1)] → W p l e rm_X8_done s m args below meth c H [] 0 0 (MQ below (jSi o) args s 0 0 (fun _ => False)) (F0 m 39 ls []) := by
      intro e1 he ls hl
      rw [he] at h1_
      have h := h1_
      clear hz1
      refine lv_iload_n hx hb dX8_done_39 rfl (lv_at hl 0 rfl) ?_
      exact W.iret hx hb hr (fun t ht _ => ⟨_, rfl, Option.some.inj h, ht.trans hH⟩) (fun q h => by cases h) dX8_done_40 hlocks
    have hlp1 : ∀ (n : Nat) (z1 : (Int32 × Int32)), jw (X8_done_s4 M) n z1 = some r1 → ∀ (ls : Array Slot), lv_has ls 3 [(0, .ref (qa 0)), (1, .int z1.1), (2, .int z1.2)] → W p l e rm_X8_done s m args below meth c H [] 0 0 (MQ below (jSi o) args s 0 0 (fun _ => False)) (F0 m 4 ls []) := by
      refine jw_P (r := r1) (P := fun z1 => ∀ (ls : Array Slot), lv_has ls 3 [(0, .ref (qa 0)), (1, .int z1.1), (2, .int z1.2)] → W p l e rm_X8_done s m args below meth c H [] 0 0 (MQ below (jSi o) args s 0 0 (fun _ => False)) (F0 m 4 ls [])) ?_
      intro z1 x1 h hin hout ls hl
      unfold X8_done_s4 at h
      refine lv_iload_n hx hb dX8_done_4 rfl (lv_at hl 2 rfl) ?_
      refine lv_aload_n hx hb dX8_done_5 rfl (lv_at hl 0 rfl) ?_
      refine va_get (D := D) (ci := 8) (v := .ref (qa 5)) (C := RX8) (T := TX8) (N := 24) hx hb hts in_X8_done_X8 hown hK.1 hP 0 rfl rfl 13 (by decide) (hts _ kw_X8_done_1) (fun _ h9 => h9) rfl dX8_done_6 ?_
      refine lv_iconst (v := (1 : Int32)) hx hb dX8_done_9 (by decide) ?_
      refine jald hx hb hK hP 5 rfl 1 (by decide) (by decide) dX8_done_10 ?_
      refine lv_icmp_ge (tgt := 39) hx hb dX8_done_11 (by decide) (fun c2 => ?_) (fun c2 => ?_)
      · have h := jt c2 h
        exact hex1 _ (hout _ (Option.some.inj h).symm).symm ls (lv_sub hl [1] rfl)
      · have h := jf c2 h
        refine lv_iload_n hx hb dX8_done_14 rfl (lv_at hl 1 rfl) ?_
        refine lv_aload_n hx hb dX8_done_15 rfl (lv_at hl 0 rfl) ?_
        refine va_get (D := D) (ci := 8) (v := .ref (qa 6)) (C := RX8) (T := TX8) (N := 24) hx hb hts in_X8_done_X8 hown hK.1 hP 0 rfl rfl 14 (by decide) (hts _ kw_X8_done_2) (fun _ h9 => h9) rfl dX8_done_16 ?_
        refine lv_iconst (v := (3 : Int32)) hx hb dX8_done_19 (by decide) ?_
        refine lv_iload_n hx hb dX8_done_20 rfl (lv_at hl 2 rfl) ?_
        refine lv_iadd hx hb dX8_done_21 ?_
        obtain ⟨g3, h⟩ := jn h
        refine jald hx hb hK hP 6 rfl _ rfl g3 dX8_done_22 ?_
        obtain ⟨z4, hz4, h⟩ := jb h
        have hk4 : ∀ (ls : Array Slot), lv_has ls 3 [(0, .ref (qa 0)), (2, .int z1.2)] → W p l e rm_X8_done s m args below meth c H [] 0 0 (MQ below (jSi o) args s 0 0 (fun _ => False)) (F0 m 31 ls [.int z4, .int z1.1]) := by
          intro ls hl
          refine lv_iadd hx hb dX8_done_31 ?_
          refine lv_istore_n (lv' := [(1, .int (z1.1 + z4)), (0, .ref (qa 0)), (2, .int z1.2)]) hx hb dX8_done_32 rfl hl (by decide) rfl (fun ls hl => ?_)
          refine lv_iinc (v := z1.2 + (1 : Int32)) (lv' := [(2, .int (z1.2 + (1 : Int32))), (1, .int (z1.1 + z4)), (0, .ref (qa 0))]) hx hb dX8_done_33 hl (k := 2) rfl rfl (by decide) rfl (fun ls hl => ?_)
          refine lv_goto (tgt := 4) hx hb dX8_done_36 (by decide) ?_
          exact hin _ (Option.some.inj h).symm ls (lv_sub hl [2, 1, 0] rfl)
        clear h
        have h := hz4
        clear hz4
        refine lv_if_le (tgt := 30) hx hb dX8_done_23 (by decide) (fun c5 => ?_) (fun c5 => ?_)
        · have h := jt c5 h
          refine lv_iconst (v := (0 : Int32)) hx hb dX8_done_30 (by decide) ?_
          obtain rfl := Option.some.inj h
          exact hk4 ls (lv_sub hl [0, 2] rfl)
        · have h := jf c5 h
          refine lv_iconst (v := (1 : Int32)) hx hb dX8_done_26 (by decide) ?_
          refine lv_goto (tgt := 31) hx hb dX8_done_27 (by decide) ?_
          obtain rfl := Option.some.inj h
          exact hk4 ls (lv_sub hl [0, 2] rfl)
    exact hlp1 _ _ hz1 ls (lv_sub hl [2, 1, 0] rfl)
  exact key s.heap hP rfl
abbrev rm_X8_dangerBy : Room := { frames := 0, cells := 0, slots := 0, locals := 0 }
set_option maxHeartbeats 4000000 in
set_option maxRecDepth 100000 in
theorem c_X8_dangerBy (l : Launch) (D : va_G) (cyI cyZ cyT : ClassId) (a0 : Int32) (a1 : Int32) (a2 : Int32) (o : Int32) (hf : f_X8_dangerBy a0 a1 a2 = some o) : Met l yX8_dangerBy wsX8_dangerBy rm_X8_dangerBy (va_Pc [.int a0, .int a1, .int a2] (jB D cyI cyZ cyT ([]))) (jSi o) 0 0 (fun _ => False) := by
  refine Met.ofW (cc := cX8_dangerBy) (maxL := 4) (ret := (some .int)) (by decide) rfl ?_
  intro p e s m args below meth c s₁ B hml hv
  obtain ⟨rfl, hP, hK⟩ := hv
  have hx := B.exec
  have hb := B.bytes
  have hr := B.returns
  have hts := atoms_spec (ws := wsX8_dangerBy) B.pre
  have hown : s.vm.findClass RX8 = some m.cls := findClass_of_methodNamed B.named
  have hlocks := B.notSynchronized
  have hl := lv_entry ([.int a0, .int a1, .int a2]) (n := 4) (Nat.le_of_ble_eq_true rfl)
  rw [lg_entry_eq]
  generalize (lg_sl ([.int a0, .int a1, .int a2]) ++ List.replicate (4 - (lg_sl ([.int a0, .int a1, .int a2])).length) Slot.unset).toArray = ls at hl ⊢
  have hl : lv_has ls 4 [(0, .int a0), (1, .int a1), (2, .int a2)] := hl
  clear B
  generalize ([.int a0, .int a1, .int a2] : List Value).toArray = args at hts ⊢
  have key : ∀ (H : Heap), va_P D vwCl ([]) H → H = s.heap → W p l e rm_X8_dangerBy s m args below meth c H [] 0 0 (MQ below (jSi o) args s 0 0 (fun _ => False)) (F0 m 0 ls []) := by
    intro H hP hH
    have h := hf
    unfold f_X8_dangerBy at h
    refine lv_iload_n hx hb dX8_dangerBy_0 rfl (lv_at hl 0 rfl) ?_
    refine lv_iconst (v := (2 : Int32)) hx hb dX8_dangerBy_1 (by decide) ?_
    refine lv_icmp_ne (tgt := 13) hx hb dX8_dangerBy_2 (by decide) (fun c1 => ?_) (fun c1 => ?_)
    · have h := jf c1 h
      refine lv_iload_n hx hb dX8_dangerBy_13 rfl (lv_at hl 2 rfl) ?_
      refine lv_iload_n hx hb dX8_dangerBy_14 rfl (lv_at hl 1 rfl) ?_
      refine lv_isub hx hb dX8_dangerBy_15 ?_
      refine lv_istore_n (lv' := [(3, .int (a2 - a1)), (0, .int a0), (1, .int a1), (2, .int a2)]) hx hb dX8_dangerBy_16 rfl hl (by decide) rfl (fun ls hl => ?_)
      refine lv_iload_n hx hb dX8_dangerBy_17 rfl (lv_at hl 0 rfl) ?_
      obtain ⟨z2, hz2, h⟩ := jb h
      have hk2 : ∀ (ls : Array Slot), lv_has ls 4 [(0, .int a0)] → W p l e rm_X8_dangerBy s m args below meth c H [] 0 0 (MQ below (jSi o) args s 0 0 (fun _ => False)) (F0 m 37 ls [.int z2]) := by
        intro ls hl
        refine lv_istore_n (lv' := [(3, .int z2), (0, .int a0)]) hx hb dX8_dangerBy_37 rfl hl (by decide) rfl (fun ls hl => ?_)
        refine lv_iload_n hx hb dX8_dangerBy_38 rfl (lv_at hl 1 rfl) ?_
        refine lv_iconst (v := (1 : Int32)) hx hb dX8_dangerBy_39 (by decide) ?_
        obtain ⟨z5, hz5, h⟩ := jb h
        have hk5 : ∀ (ls : Array Slot), lv_has ls 4 [] → W p l e rm_X8_dangerBy s m args below meth c H [] 0 0 (MQ below (jSi o) args s 0 0 (fun _ => False)) (F0 m 65 ls [.int z5]) := by
          intro ls hl
          refine lv_istore_n (lv' := [(3, .int z5)]) hx hb dX8_dangerBy_65 rfl hl (by decide) rfl (fun ls hl => ?_)
          refine lv_iload_n hx hb dX8_dangerBy_66 rfl (lv_at hl 0 rfl) ?_
          refine lv_if_ge (tgt := 74) hx hb dX8_dangerBy_67 (by decide) (fun c10 => ?_) (fun c10 => ?_)
          · have h := jt c10 h
            refine lv_iload_n hx hb dX8_dangerBy_74 rfl (lv_at hl 0 rfl) ?_
            refine lv_bipush (v := (10 : Int32)) hx hb dX8_dangerBy_75 (by decide) ?_
            refine lv_icmp_le (tgt := 85) hx hb dX8_dangerBy_77 (by decide) (fun c11 => ?_) (fun c11 => ?_)
            · have h := jt c11 h
              refine lv_iload_n hx hb dX8_dangerBy_85 rfl (lv_at hl 0 rfl) ?_
              exact W.iret hx hb hr (fun t ht _ => ⟨_, rfl, Option.some.inj h, ht.trans hH⟩) (fun q h => by cases h) dX8_dangerBy_86 hlocks
            · have h := jf c11 h
              refine lv_bipush (v := (10 : Int32)) hx hb dX8_dangerBy_80 (by decide) ?_
              refine lv_goto (tgt := 86) hx hb dX8_dangerBy_82 (by decide) ?_
              exact W.iret hx hb hr (fun t ht _ => ⟨_, rfl, Option.some.inj h, ht.trans hH⟩) (fun q h => by cases h) dX8_dangerBy_86 hlocks
          · have h := jf c10 h
            refine lv_iconst (v := (0 : Int32)) hx hb dX8_dangerBy_70 (by decide) ?_
            refine lv_goto (tgt := 86) hx hb dX8_dangerBy_71 (by decide) ?_
            exact W.iret hx hb hr (fun t ht _ => ⟨_, rfl, Option.some.inj h, ht.trans hH⟩) (fun q h => by cases h) dX8_dangerBy_86 hlocks
        clear h
        have h := hz5
        clear hz5
        refine lv_icmp_ne (tgt := 53) hx hb dX8_dangerBy_40 (by decide) (fun c6 => ?_) (fun c6 => ?_)
        · have h := jf c6 h
          refine lv_iload_n hx hb dX8_dangerBy_53 rfl (lv_at hl 1 rfl) ?_
          refine lv_iconst (v := (3 : Int32)) hx hb dX8_dangerBy_54 (by decide) ?_
          refine lv_icmp_ne (tgt := 64) hx hb dX8_dangerBy_55 (by decide) (fun c7 => ?_) (fun c7 => ?_)
          · have h := jf c7 h
            refine lv_iload_n hx hb dX8_dangerBy_64 rfl (lv_at hl 0 rfl) ?_
            obtain rfl := Option.some.inj h
            exact hk5 ls (lv_sub hl [] rfl)
          · have h := jt (Decidable.of_not_not c7) h
            refine lv_iload_n hx hb dX8_dangerBy_58 rfl (lv_at hl 0 rfl) ?_
            refine lv_iconst (v := (1 : Int32)) hx hb dX8_dangerBy_59 (by decide) ?_
            refine lv_isub hx hb dX8_dangerBy_60 ?_
            refine lv_goto (tgt := 65) hx hb dX8_dangerBy_61 (by decide) ?_
            obtain rfl := Option.some.inj h
            exact hk5 ls (lv_sub hl [] rfl)
        · have h := jt (Decidable.of_not_not c6) h
          refine lv_iload_n hx hb dX8_dangerBy_43 rfl (lv_at hl 0 rfl) ?_
          refine lv_if_le (tgt := 53) hx hb dX8_dangerBy_44 (by decide) (fun c8 => ?_) (fun c8 => ?_)
          · have h := jt c8 h
            refine lv_iload_n hx hb dX8_dangerBy_53 rfl (lv_at hl 1 rfl) ?_
            refine lv_iconst (v := (3 : Int32)) hx hb dX8_dangerBy_54 (by decide) ?_
            refine lv_icmp_ne (tgt := 64) hx hb dX8_dangerBy_55 (by decide) (fun c9 => ?_) (fun c9 => ?_)
            · have h := jf c9 h
              refine lv_iload_n hx hb dX8_dangerBy_64 rfl (lv_at hl 0 rfl) ?_
              obtain rfl := Option.some.inj h
              exact hk5 ls (lv_sub hl [] rfl)
            · have h := jt (Decidable.of_not_not c9) h
              refine lv_iload_n hx hb dX8_dangerBy_58 rfl (lv_at hl 0 rfl) ?_
              refine lv_iconst (v := (1 : Int32)) hx hb dX8_dangerBy_59 (by decide) ?_
              refine lv_isub hx hb dX8_dangerBy_60 ?_
              refine lv_goto (tgt := 65) hx hb dX8_dangerBy_61 (by decide) ?_
              obtain rfl := Option.some.inj h
              exact hk5 ls (lv_sub hl [] rfl)
          · have h := jf c8 h
            refine lv_iload_n hx hb dX8_dangerBy_47 rfl (lv_at hl 0 rfl) ?_
            refine lv_iconst (v := (2 : Int32)) hx hb dX8_dangerBy_48 (by decide) ?_
            refine lv_iadd hx hb dX8_dangerBy_49 ?_
            refine lv_goto (tgt := 65) hx hb dX8_dangerBy_50 (by decide) ?_
            obtain rfl := Option.some.inj h
            exact hk5 ls (lv_sub hl [] rfl)
      clear h
      have h := hz2
      clear hz2
      refine lv_if_ge (tgt := 25) hx hb dX8_dangerBy_18 (by decide) (fun c3 => ?_) (fun c3 => ?_)
      · have h := jt c3 h
        refine lv_iload_n hx hb dX8_dangerBy_25 rfl (lv_at hl 0 rfl) ?_
        refine lv_bipush (v := (10 : Int32)) hx hb dX8_dangerBy_26 (by decide) ?_
        refine lv_icmp_le (tgt := 36) hx hb dX8_dangerBy_28 (by decide) (fun c4 => ?_) (fun c4 => ?_)
        · have h := jt c4 h
          refine lv_iload_n hx hb dX8_dangerBy_36 rfl (lv_at hl 0 rfl) ?_
          obtain rfl := Option.some.inj h
          exact hk2 ls (lv_sub hl [1] rfl)
        · have h := jf c4 h
          refine lv_bipush (v := (10 : Int32)) hx hb dX8_dangerBy_31 (by decide) ?_
          refine lv_goto (tgt := 37) hx hb dX8_dangerBy_33 (by decide) ?_
          obtain rfl := Option.some.inj h
          exact hk2 ls (lv_sub hl [1] rfl)
      · have h := jf c3 h
        refine lv_iconst (v := (0 : Int32)) hx hb dX8_dangerBy_21 (by decide) ?_
        refine lv_goto (tgt := 37) hx hb dX8_dangerBy_22 (by decide) ?_
        obtain rfl := Option.some.inj h
        exact hk2 ls (lv_sub hl [1] rfl)
    · have h := jt (Decidable.of_not_not c1) h
      refine lv_iload_n hx hb dX8_dangerBy_5 rfl (lv_at hl 2 rfl) ?_
      refine lv_iconst (v := (5 : Int32)) hx hb dX8_dangerBy_6 (by decide) ?_
      refine lv_icmp_le (tgt := 13) hx hb dX8_dangerBy_7 (by decide) (fun c12 => ?_) (fun c12 => ?_)
      · have h := jt c12 h
        refine lv_iload_n hx hb dX8_dangerBy_13 rfl (lv_at hl 2 rfl) ?_
        refine lv_iload_n hx hb dX8_dangerBy_14 rfl (lv_at hl 1 rfl) ?_
        refine lv_isub hx hb dX8_dangerBy_15 ?_
        refine lv_istore_n (lv' := [(3, .int (a2 - a1)), (0, .int a0), (1, .int a1), (2, .int a2)]) hx hb dX8_dangerBy_16 rfl hl (by decide) rfl (fun ls hl => ?_)
        refine lv_iload_n hx hb dX8_dangerBy_17 rfl (lv_at hl 0 rfl) ?_
        obtain ⟨z13, hz13, h⟩ := jb h
        have hk13 : ∀ (ls : Array Slot), lv_has ls 4 [(0, .int a0)] → W p l e rm_X8_dangerBy s m args below meth c H [] 0 0 (MQ below (jSi o) args s 0 0 (fun _ => False)) (F0 m 37 ls [.int z13]) := by
          intro ls hl
          refine lv_istore_n (lv' := [(3, .int z13), (0, .int a0)]) hx hb dX8_dangerBy_37 rfl hl (by decide) rfl (fun ls hl => ?_)
          refine lv_iload_n hx hb dX8_dangerBy_38 rfl (lv_at hl 1 rfl) ?_
          refine lv_iconst (v := (1 : Int32)) hx hb dX8_dangerBy_39 (by decide) ?_
          obtain ⟨z16, hz16, h⟩ := jb h
          have hk16 : ∀ (ls : Array Slot), lv_has ls 4 [] → W p l e rm_X8_dangerBy s m args below meth c H [] 0 0 (MQ below (jSi o) args s 0 0 (fun _ => False)) (F0 m 65 ls [.int z16]) := by
            intro ls hl
            refine lv_istore_n (lv' := [(3, .int z16)]) hx hb dX8_dangerBy_65 rfl hl (by decide) rfl (fun ls hl => ?_)
            refine lv_iload_n hx hb dX8_dangerBy_66 rfl (lv_at hl 0 rfl) ?_
            refine lv_if_ge (tgt := 74) hx hb dX8_dangerBy_67 (by decide) (fun c21 => ?_) (fun c21 => ?_)
            · have h := jt c21 h
              refine lv_iload_n hx hb dX8_dangerBy_74 rfl (lv_at hl 0 rfl) ?_
              refine lv_bipush (v := (10 : Int32)) hx hb dX8_dangerBy_75 (by decide) ?_
              refine lv_icmp_le (tgt := 85) hx hb dX8_dangerBy_77 (by decide) (fun c22 => ?_) (fun c22 => ?_)
              · have h := jt c22 h
                refine lv_iload_n hx hb dX8_dangerBy_85 rfl (lv_at hl 0 rfl) ?_
                exact W.iret hx hb hr (fun t ht _ => ⟨_, rfl, Option.some.inj h, ht.trans hH⟩) (fun q h => by cases h) dX8_dangerBy_86 hlocks
              · have h := jf c22 h
                refine lv_bipush (v := (10 : Int32)) hx hb dX8_dangerBy_80 (by decide) ?_
                refine lv_goto (tgt := 86) hx hb dX8_dangerBy_82 (by decide) ?_
                exact W.iret hx hb hr (fun t ht _ => ⟨_, rfl, Option.some.inj h, ht.trans hH⟩) (fun q h => by cases h) dX8_dangerBy_86 hlocks
            · have h := jf c21 h
              refine lv_iconst (v := (0 : Int32)) hx hb dX8_dangerBy_70 (by decide) ?_
              refine lv_goto (tgt := 86) hx hb dX8_dangerBy_71 (by decide) ?_
              exact W.iret hx hb hr (fun t ht _ => ⟨_, rfl, Option.some.inj h, ht.trans hH⟩) (fun q h => by cases h) dX8_dangerBy_86 hlocks
          clear h
          have h := hz16
          clear hz16
          refine lv_icmp_ne (tgt := 53) hx hb dX8_dangerBy_40 (by decide) (fun c17 => ?_) (fun c17 => ?_)
          · have h := jf c17 h
            refine lv_iload_n hx hb dX8_dangerBy_53 rfl (lv_at hl 1 rfl) ?_
            refine lv_iconst (v := (3 : Int32)) hx hb dX8_dangerBy_54 (by decide) ?_
            refine lv_icmp_ne (tgt := 64) hx hb dX8_dangerBy_55 (by decide) (fun c18 => ?_) (fun c18 => ?_)
            · have h := jf c18 h
              refine lv_iload_n hx hb dX8_dangerBy_64 rfl (lv_at hl 0 rfl) ?_
              obtain rfl := Option.some.inj h
              exact hk16 ls (lv_sub hl [] rfl)
            · have h := jt (Decidable.of_not_not c18) h
              refine lv_iload_n hx hb dX8_dangerBy_58 rfl (lv_at hl 0 rfl) ?_
              refine lv_iconst (v := (1 : Int32)) hx hb dX8_dangerBy_59 (by decide) ?_
              refine lv_isub hx hb dX8_dangerBy_60 ?_
              refine lv_goto (tgt := 65) hx hb dX8_dangerBy_61 (by decide) ?_
              obtain rfl := Option.some.inj h
              exact hk16 ls (lv_sub hl [] rfl)
          · have h := jt (Decidable.of_not_not c17) h
            refine lv_iload_n hx hb dX8_dangerBy_43 rfl (lv_at hl 0 rfl) ?_
            refine lv_if_le (tgt := 53) hx hb dX8_dangerBy_44 (by decide) (fun c19 => ?_) (fun c19 => ?_)
            · have h := jt c19 h
              refine lv_iload_n hx hb dX8_dangerBy_53 rfl (lv_at hl 1 rfl) ?_
              refine lv_iconst (v := (3 : Int32)) hx hb dX8_dangerBy_54 (by decide) ?_
              refine lv_icmp_ne (tgt := 64) hx hb dX8_dangerBy_55 (by decide) (fun c20 => ?_) (fun c20 => ?_)
              · have h := jf c20 h
                refine lv_iload_n hx hb dX8_dangerBy_64 rfl (lv_at hl 0 rfl) ?_
                obtain rfl := Option.some.inj h
                exact hk16 ls (lv_sub hl [] rfl)
              · have h := jt (Decidable.of_not_not c20) h
                refine lv_iload_n hx hb dX8_dangerBy_58 rfl (lv_at hl 0 rfl) ?_
                refine lv_iconst (v := (1 : Int32)) hx hb dX8_dangerBy_59 (by decide) ?_
                refine lv_isub hx hb dX8_dangerBy_60 ?_
                refine lv_goto (tgt := 65) hx hb dX8_dangerBy_61 (by decide) ?_
                obtain rfl := Option.some.inj h
                exact hk16 ls (lv_sub hl [] rfl)
            · have h := jf c19 h
              refine lv_iload_n hx hb dX8_dangerBy_47 rfl (lv_at hl 0 rfl) ?_
              refine lv_iconst (v := (2 : Int32)) hx hb dX8_dangerBy_48 (by decide) ?_
              refine lv_iadd hx hb dX8_dangerBy_49 ?_
              refine lv_goto (tgt := 65) hx hb dX8_dangerBy_50 (by decide) ?_
              obtain rfl := Option.some.inj h
              exact hk16 ls (lv_sub hl [] rfl)
        clear h
        have h := hz13
        clear hz13
        refine lv_if_ge (tgt := 25) hx hb dX8_dangerBy_18 (by decide) (fun c14 => ?_) (fun c14 => ?_)
        · have h := jt c14 h
          refine lv_iload_n hx hb dX8_dangerBy_25 rfl (lv_at hl 0 rfl) ?_
          refine lv_bipush (v := (10 : Int32)) hx hb dX8_dangerBy_26 (by decide) ?_
          refine lv_icmp_le (tgt := 36) hx hb dX8_dangerBy_28 (by decide) (fun c15 => ?_) (fun c15 => ?_)
          · have h := jt c15 h
            refine lv_iload_n hx hb dX8_dangerBy_36 rfl (lv_at hl 0 rfl) ?_
            obtain rfl := Option.some.inj h
            exact hk13 ls (lv_sub hl [1] rfl)
          · have h := jf c15 h
            refine lv_bipush (v := (10 : Int32)) hx hb dX8_dangerBy_31 (by decide) ?_
            refine lv_goto (tgt := 37) hx hb dX8_dangerBy_33 (by decide) ?_
            obtain rfl := Option.some.inj h
            exact hk13 ls (lv_sub hl [1] rfl)
        · have h := jf c14 h
          refine lv_iconst (v := (0 : Int32)) hx hb dX8_dangerBy_21 (by decide) ?_
          refine lv_goto (tgt := 37) hx hb dX8_dangerBy_22 (by decide) ?_
          obtain rfl := Option.some.inj h
          exact hk13 ls (lv_sub hl [1] rfl)
      · have h := jf c12 h
        refine lv_bipush (v := (10 : Int32)) hx hb dX8_dangerBy_10 (by decide) ?_
        exact W.iret hx hb hr (fun t ht _ => ⟨_, rfl, Option.some.inj h, ht.trans hH⟩) (fun q h => by cases h) dX8_dangerBy_12 hlocks
  exact key s.heap hP rfl
theorem kw_X8_write_1 : (.fieldLink RX8 50 "BellTheCatModel" "thrown" "I" : Cond) ∈ wsX8_write := List.mem_of_getElem? (i := 1) rfl
theorem kw_X8_write_2 : (.fieldLink RX8 58 "BellTheCatModel" "typed" "I" : Cond) ∈ wsX8_write := List.mem_of_getElem? (i := 2) rfl
theorem kw_X8_write_3 : (.fieldLink RX8 7 "BellTheCatModel" "text" "[I" : Cond) ∈ wsX8_write := List.mem_of_getElem? (i := 3) rfl
theorem in_X8_write_X8 : ∀ w ∈ wsX80, w ∈ wsX8_write := fun w h => List.mem_cons_of_mem _ (List.mem_append_right _ h)
abbrev rm_X8_write : Room := { frames := 1, cells := 0, slots := 0, locals := 22 }
set_option maxHeartbeats 4000000 in
set_option maxRecDepth 100000 in
theorem c_X8_write (l : Launch) (D : va_G) (cyI cyZ cyT : ClassId) (qa : Nat → Nat) (sz : Nat) (a1 : Int32) (M : Mo) (o : (Int32 × Mo)) (hf : f_X8_write a1 M = some o) : Met l yX8_write wsX8_write rm_X8_write (va_Pc [.ref (qa 0), .int a1] (jM D cyI cyZ cyT (wM cyI cyZ qa M) sz)) (jQi D (va_A (wM cyI cyZ qa M) sz) (fun u : Mo => wM cyI cyZ qa u) o) 0 0 (va_A (wM cyI cyZ qa M) sz) := by
  refine Met.ofW (cc := cX8_write) (maxL := 2) (ret := (some .int)) (by decide) rfl ?_
  intro p e s m args below meth c s₁ B hml hv
  obtain ⟨rfl, hsz, hP, hK, hD0⟩ := hv
  have hx := B.exec
  have hb := B.bytes
  have hr := B.returns
  have hts := atoms_spec (ws := wsX8_write) B.pre
  have hown : s.vm.findClass RX8 = some m.cls := findClass_of_methodNamed B.named
  have hlocks := B.notSynchronized
  subst hsz
  have hD := hD0.self (sz := s.heap.size)
  generalize hAe : va_A (wM cyI cyZ qa M) s.heap.size = A at hD ⊢
  have hA : ∀ q : Nat, s.heap.size ≤ q → A q := fun q h => by rw [← hAe]; exact Or.inr h
  have hS : va_S A s.heap s.heap [] := va_S.rf
  have hl := lv_entry ([.ref (qa 0), .int a1]) (n := 2) (Nat.le_of_ble_eq_true rfl)
  rw [lg_entry_eq]
  generalize (lg_sl ([.ref (qa 0), .int a1]) ++ List.replicate (2 - (lg_sl ([.ref (qa 0), .int a1])).length) Slot.unset).toArray = ls at hl ⊢
  have hl : lv_has ls 2 [(0, .ref (qa 0)), (1, .int a1)] := hl
  clear B
  generalize ([.ref (qa 0), .int a1] : List Value).toArray = args at hts ⊢
  have key : ∀ (H : Heap) (locs : List Loc), va_P D vwCl (wM cyI cyZ qa M) H → va_D A (wM cyI cyZ qa M) → va_S A s.heap H locs → W p l e rm_X8_write s m args below meth c H locs 0 0 (MQ below (jQi D A (fun u : Mo => wM cyI cyZ qa u) o) args s 0 0 A) (F0 m 0 ls []) := by
    intro H locs hP hD hS
    have h := hf
    unfold f_X8_write at h
    refine lv_aload_n hx hb dX8_write_0 rfl (lv_at hl 0 rfl) ?_
    refine lv_iconst (v := (0 : Int32)) hx hb dX8_write_1 (by decide) ?_
    refine va_put (D := D) (ci := 8) (v := .int (0 : Int32)) (ty := .int) (C := RX8) (T := TX8) (N := 24) hx hb hts in_X8_write_X8 tyX8 tyX8_ok nmX8 hown hK.1 hP hD hS 0 rfl rfl 0 (by decide) (hts _ kw_X8_write_1) (fun _ h9 => h9) rfl (tyX8_ok 0 (by decide)) rfl rfl (Nat.le_of_ble_eq_true rfl) dX8_write_2 (fun H locs hP hD hS => ?_)
    have hP : va_P D vwCl (wM cyI cyZ qa (M.1, va_up M.2 0 (0 : Int32))) H := hP
    have hD : va_D A (wM cyI cyZ qa (M.1, va_up M.2 0 (0 : Int32))) := hD
    refine lv_iload_n hx hb dX8_write_5 rfl (lv_at hl 1 rfl) ?_
    refine lv_iconst (v := (0 : Int32)) hx hb dX8_write_6 (by decide) ?_
    refine lv_sipush (v := (255 : Int32)) hx hb dX8_write_7 (by decide) ?_
    obtain ⟨z1, hz1, h⟩ := jb h
    refine jki (jrS (As := [.int a1, .int (0 : Int32), .int (255 : Int32)]) (rest := []) ⟨hx, hb, hml, hown, hts⟩ (c_X8_in l D cyI cyZ cyT   a1 (0 : Int32) (255 : Int32) z1 hz1) (va_cwS 3 hts gX8_write_X8_in rfl rfl rfl (by decide +kernel) ⟨Nat.le_of_ble_eq_true rfl, Nat.le_of_ble_eq_true rfl⟩) hK jP0 rfl rfl hl.1 (Nat.le_of_ble_eq_true rfl) dX8_write_10 ⟨Nat.le_of_ble_eq_true rfl, Nat.le_of_ble_eq_true rfl⟩) ?_
    clear hz1
    refine lv_if_ne (tgt := 19) hx hb dX8_write_13 (by decide) (fun c2 => ?_) (fun c2 => ?_)
    · have h := jf c2 h
      refine lv_aload_n hx hb dX8_write_19 rfl (lv_at hl 0 rfl) ?_
      refine va_get (D := D) (ci := 8) (v := .int (M.2 1)) (C := RX8) (T := TX8) (N := 24) hx hb hts in_X8_write_X8 hown hK.1 hP 0 rfl rfl 2 (by decide) (hts _ kw_X8_write_2) (fun _ h9 => h9) rfl dX8_write_20 ?_
      refine lv_sipush (v := (160 : Int32)) hx hb dX8_write_23 (by decide) ?_
      refine lv_icmp_ne (tgt := 32) hx hb dX8_write_26 (by decide) (fun c3 => ?_) (fun c3 => ?_)
      · have h := jf c3 h
        refine lv_aload_n hx hb dX8_write_32 rfl (lv_at hl 0 rfl) ?_
        refine va_get (D := D) (ci := 8) (v := .ref (qa 1)) (C := RX8) (T := TX8) (N := 24) hx hb hts in_X8_write_X8 hown hK.1 hP 0 rfl rfl 1 (by decide) (hts _ kw_X8_write_3) (fun _ h9 => h9) rfl dX8_write_33 ?_
        refine lv_aload_n hx hb dX8_write_36 rfl (lv_at hl 0 rfl) ?_
        refine va_get (D := D) (ci := 8) (v := .int (M.2 1)) (C := RX8) (T := TX8) (N := 24) hx hb hts in_X8_write_X8 hown hK.1 hP 0 rfl rfl 2 (by decide) (hts _ kw_X8_write_2) (fun _ h9 => h9) rfl dX8_write_37 ?_
        refine lv_iload_n hx hb dX8_write_40 rfl (lv_at hl 1 rfl) ?_
        obtain ⟨g4, h⟩ := jn h
        refine jast (w' := wM cyI cyZ qa (va_up M.1 0 (upd (M.1 0) (M.2 1).toNatClampNeg a1), va_up M.2 0 (0 : Int32))) hx hb hK hP hD hS 1 rfl _ rfl g4 rfl dX8_write_41 (fun H locs hP hD hS => ?_)
        refine lv_aload_n hx hb dX8_write_42 rfl (lv_at hl 0 rfl) ?_
        refine lv_dup hx hb dX8_write_43 rfl ?_
        refine va_get (D := D) (ci := 8) (v := .int (M.2 1)) (C := RX8) (T := TX8) (N := 24) hx hb hts in_X8_write_X8 hown hK.1 hP 0 rfl rfl 2 (by decide) (hts _ kw_X8_write_2) (fun _ h9 => h9) rfl dX8_write_44 ?_
        refine lv_iconst (v := (1 : Int32)) hx hb dX8_write_47 (by decide) ?_
        refine lv_iadd hx hb dX8_write_48 ?_
        refine va_put (D := D) (ci := 8) (v := .int ((M.2 1) + (1 : Int32))) (ty := .int) (C := RX8) (T := TX8) (N := 24) hx hb hts in_X8_write_X8 tyX8 tyX8_ok nmX8 hown hK.1 hP hD hS 0 rfl rfl 2 (by decide) (hts _ kw_X8_write_2) (fun _ h9 => h9) rfl (tyX8_ok 2 (by decide)) rfl rfl (Nat.le_of_ble_eq_true rfl) dX8_write_49 (fun H locs hP hD hS => ?_)
        have hP : va_P D vwCl (wM cyI cyZ qa (va_up M.1 0 (upd (M.1 0) (M.2 1).toNatClampNeg a1), va_up (va_up M.2 0 (0 : Int32)) 1 ((M.2 1) + (1 : Int32)))) H := hP
        have hD : va_D A (wM cyI cyZ qa (va_up M.1 0 (upd (M.1 0) (M.2 1).toNatClampNeg a1), va_up (va_up M.2 0 (0 : Int32)) 1 ((M.2 1) + (1 : Int32)))) := hD
        refine lv_aload_n hx hb dX8_write_52 rfl (lv_at hl 0 rfl) ?_
        refine va_get (D := D) (ci := 8) (v := .int ((M.2 1) + (1 : Int32))) (C := RX8) (T := TX8) (N := 24) hx hb hts in_X8_write_X8 hown hK.1 hP 0 rfl rfl 2 (by decide) (hts _ kw_X8_write_2) (fun _ h9 => h9) rfl dX8_write_53 ?_
        exact W.iret hx hb hr (fun t ht _ => ⟨⟨_, _, rfl, Option.some.inj h, by rw [ht]; exact hP, hD⟩, hS.F ht⟩) hS.2.2 dX8_write_56 hlocks
      · have h := jt (Decidable.of_not_not c3) h
        refine lv_bipush (v := (-5 : Int32)) hx hb dX8_write_29 (by decide) ?_
        exact W.iret hx hb hr (fun t ht _ => ⟨⟨_, _, rfl, Option.some.inj h, by rw [ht]; exact hP, hD⟩, hS.F ht⟩) hS.2.2 dX8_write_31 hlocks
    · have h := jt (Decidable.of_not_not c2) h
      refine lv_bipush (v := (-3 : Int32)) hx hb dX8_write_16 (by decide) ?_
      exact W.iret hx hb hr (fun t ht _ => ⟨⟨_, _, rfl, Option.some.inj h, by rw [ht]; exact hP, hD⟩, hS.F ht⟩) hS.2.2 dX8_write_18 hlocks
  exact key s.heap [] hP hD hS

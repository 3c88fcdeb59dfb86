abbrev rm_X8_in : Room := { frames := 0, cells := 0, slots := 0, locals := 0 }
set_option maxHeartbeats 4000000 in
set_option maxRecDepth 100000 in
theorem c_X8_in (l : Launch) (D : va_G) (cyI cyZ cyT : ClassId) (a0 : Int32) (a1 : Int32) (a2 : Int32) (o : Int32) (hf : f_X8_in a0 a1 a2 = some o) : Met l yX8_in wsX8_in rm_X8_in (va_Pc [.int a0, .int a1, .int a2] (jB D cyI cyZ cyT ([]))) (jSi o) 0 0 (fun _ => False) := by
  refine Met.ofW (cc := cX8_in) (maxL := 3) (ret := (some .boolean)) (by decide) rfl ?_
  intro p e s m args below meth c s₁ B hml hv
  obtain ⟨rfl, hP, hK⟩ := hv
  have hx := B.exec
  have hb := B.bytes
  have hr := B.returns
  have hts := atoms_spec (ws := wsX8_in) B.pre
  have hown : s.vm.findClass RX8 = some m.cls := findClass_of_methodNamed B.named
  have hlocks := B.notSynchronized
  have hl := lv_entry ([.int a0, .int a1, .int a2]) (n := 3) (Nat.le_of_ble_eq_true rfl)
  rw [lg_entry_eq]
  generalize (lg_sl ([.int a0, .int a1, .int a2]) ++ List.replicate (3 - (lg_sl ([.int a0, .int a1, .int a2])).length) Slot.unset).toArray = ls at hl ⊢
  have hl : lv_has ls 3 [(0, .int a0), (1, .int a1), (2, .int a2)] := hl
  clear B
  generalize ([.int a0, .int a1, .int a2] : List Value).toArray = args at hts ⊢
  have key : ∀ (H : Heap), va_P D vwCl ([]) H → H = s.heap → W p l e rm_X8_in s m args below meth c H [] 0 0 (MQ below (jSi o) args s 0 0 (fun _ => False)) (F0 m 0 ls []) := by
    intro H hP hH
    have h := hf
    unfold f_X8_in at h
    refine lv_iload_n hx hb dX8_in_0 rfl (lv_at hl 0 rfl) ?_
    refine lv_iload_n hx hb dX8_in_1 rfl (lv_at hl 1 rfl) ?_
    refine lv_icmp_lt (tgt := 14) hx hb dX8_in_2 (by decide) (fun c1 => ?_) (fun c1 => ?_)
    · have h := jt c1 h
      refine lv_iconst (v := (0 : Int32)) hx hb dX8_in_14 (by decide) ?_
      exact W.zret hx hb hr rfl (fun t ht _ => ⟨_, rfl, Option.some.inj h, ht.trans hH⟩) (fun q h => by cases h) dX8_in_15 hlocks
    · have h := jf c1 h
      refine lv_iload_n hx hb dX8_in_5 rfl (lv_at hl 0 rfl) ?_
      refine lv_iload_n hx hb dX8_in_6 rfl (lv_at hl 2 rfl) ?_
      refine lv_icmp_gt (tgt := 14) hx hb dX8_in_7 (by decide) (fun c2 => ?_) (fun c2 => ?_)
      · have h := jt c2 h
        refine lv_iconst (v := (0 : Int32)) hx hb dX8_in_14 (by decide) ?_
        exact W.zret hx hb hr rfl (fun t ht _ => ⟨_, rfl, Option.some.inj h, ht.trans hH⟩) (fun q h => by cases h) dX8_in_15 hlocks
      · have h := jf c2 h
        refine lv_iconst (v := (1 : Int32)) hx hb dX8_in_10 (by decide) ?_
        refine lv_goto (tgt := 15) hx hb dX8_in_11 (by decide) ?_
        exact W.zret hx hb hr rfl (fun t ht _ => ⟨_, rfl, Option.some.inj h, ht.trans hH⟩) (fun q h => by cases h) dX8_in_15 hlocks
  exact key s.heap hP rfl
theorem kw_X8_letterAt_1 : (.fieldLink RX8 58 "BellTheCatModel" "typed" "I" : Cond) ∈ wsX8_letterAt := List.mem_of_getElem? (i := 1) rfl
theorem kw_X8_letterAt_2 : (.fieldLink RX8 7 "BellTheCatModel" "text" "[I" : Cond) ∈ wsX8_letterAt := List.mem_of_getElem? (i := 2) rfl
theorem in_X8_letterAt_X8 : ∀ w ∈ wsX80, w ∈ wsX8_letterAt := fun w h => List.mem_cons_of_mem _ (List.mem_append_right _ h)
abbrev rm_X8_letterAt : Room := { frames := 0, cells := 0, slots := 0, locals := 0 }
set_option maxHeartbeats 4000000 in
set_option maxRecDepth 100000 in
theorem c_X8_letterAt (l : Launch) (D : va_G) (cyI cyZ cyT : ClassId) (qa : Nat → Nat) (a1 : Int32) (M : Mo) (o : Int32) (hf : f_X8_letterAt a1 M = some o) : Met l yX8_letterAt wsX8_letterAt rm_X8_letterAt (va_Pc [.ref (qa 0), .int a1] (jB D cyI cyZ cyT (wM cyI cyZ qa M))) (jSi o) 0 0 (fun _ => False) := by
  refine Met.ofW (cc := cX8_letterAt) (maxL := 2) (ret := (some .int)) (by decide) rfl ?_
  intro p e s m args below meth c s₁ B hml hv
  obtain ⟨rfl, hP, hK⟩ := hv
  have hx := B.exec
  have hb := B.bytes
  have hr := B.returns
  have hts := atoms_spec (ws := wsX8_letterAt) B.pre
  have hown : s.vm.findClass RX8 = some m.cls := findClass_of_methodNamed B.named
  have hlocks := B.notSynchronized
  have hl := lv_entry ([.ref (qa 0), .int a1]) (n := 2) (Nat.le_of_ble_eq_true rfl)
  rw [lg_entry_eq]
  generalize (lg_sl ([.ref (qa 0), .int a1]) ++ List.replicate (2 - (lg_sl ([.ref (qa 0), .int a1])).length) Slot.unset).toArray = ls at hl ⊢
  have hl : lv_has ls 2 [(0, .ref (qa 0)), (1, .int a1)] := hl
  clear B
  generalize ([.ref (qa 0), .int a1] : List Value).toArray = args at hts ⊢
  have key : ∀ (H : Heap), va_P D vwCl (wM cyI cyZ qa M) H → H = s.heap → W p l e rm_X8_letterAt s m args below meth c H [] 0 0 (MQ below (jSi o) args s 0 0 (fun _ => False)) (F0 m 0 ls []) := by
    intro H hP hH
    have h := hf
    unfold f_X8_letterAt at h
    refine lv_iload_n hx hb dX8_letterAt_0 rfl (lv_at hl 1 rfl) ?_
    refine lv_aload_n hx hb dX8_letterAt_1 rfl (lv_at hl 0 rfl) ?_
    refine va_get (D := D) (ci := 8) (v := .int (M.2 1)) (C := RX8) (T := TX8) (N := 24) hx hb hts in_X8_letterAt_X8 hown hK.1 hP 0 rfl rfl 2 (by decide) (hts _ kw_X8_letterAt_1) (fun _ h9 => h9) rfl dX8_letterAt_2 ?_
    refine lv_icmp_ge (tgt := 17) hx hb dX8_letterAt_5 (by decide) (fun c1 => ?_) (fun c1 => ?_)
    · have h := jt c1 h
      refine lv_iconst (v := (-1 : Int32)) hx hb dX8_letterAt_17 (by decide) ?_
      exact W.iret hx hb hr (fun t ht _ => ⟨_, rfl, Option.some.inj h, ht.trans hH⟩) (fun q h => by cases h) dX8_letterAt_18 hlocks
    · have h := jf c1 h
      refine lv_aload_n hx hb dX8_letterAt_8 rfl (lv_at hl 0 rfl) ?_
      refine va_get (D := D) (ci := 8) (v := .ref (qa 1)) (C := RX8) (T := TX8) (N := 24) hx hb hts in_X8_letterAt_X8 hown hK.1 hP 0 rfl rfl 1 (by decide) (hts _ kw_X8_letterAt_2) (fun _ h9 => h9) rfl dX8_letterAt_9 ?_
      refine lv_iload_n hx hb dX8_letterAt_12 rfl (lv_at hl 1 rfl) ?_
      obtain ⟨g2, h⟩ := jn h
      refine jald hx hb hK hP 1 rfl _ rfl g2 dX8_letterAt_13 ?_
      refine lv_goto (tgt := 18) hx hb dX8_letterAt_14 (by decide) ?_
      exact W.iret hx hb hr (fun t ht _ => ⟨_, rfl, Option.some.inj h, ht.trans hH⟩) (fun q h => by cases h) dX8_letterAt_18 hlocks
  exact key s.heap hP rfl
theorem kw_X8_isWord_1 : (.fieldLink RX8 61 "BellTheCatModel" "next" "I" : Cond) ∈ wsX8_isWord := List.mem_of_getElem? (i := 1) rfl
theorem kw_X8_isWord_2 : (.fieldLink RX8 64 "BellTheCatModel" "place" "I" : Cond) ∈ wsX8_isWord := List.mem_of_getElem? (i := 2) rfl
theorem kw_X8_isWord_3 : (.constantLong RX8 71 (255) : Cond) ∈ wsX8_isWord := List.mem_of_getElem? (i := 3) rfl
theorem in_X8_isWord_X8 : ∀ w ∈ wsX80, w ∈ wsX8_isWord := fun w h => List.mem_cons_of_mem _ (List.mem_append_right _ h)
abbrev rm_X8_isWord : Room := { frames := 1, cells := 0, slots := 0, locals := 21 }
set_option maxHeartbeats 4000000 in
set_option maxRecDepth 100000 in
theorem c_X8_isWord (l : Launch) (D : va_G) (cyI cyZ cyT : ClassId) (qa : Nat → Nat) (N : Nat) (a1 : Int64) (a3 : Int32) (M : Mo) (o : Int32) (hf : f_X8_isWord N a1 a3 M = some o) : Met l yX8_isWord wsX8_isWord rm_X8_isWord (va_Pc [.ref (qa 0), .long a1, .int a3] (jB D cyI cyZ cyT (wM cyI cyZ qa M))) (jSi o) 0 0 (fun _ => False) := by
  refine Met.ofW (cc := cX8_isWord) (maxL := 6) (ret := (some .boolean)) (by decide) rfl ?_
  intro p e s m args below meth c s₁ B hml hv
  obtain ⟨rfl, hP, hK⟩ := hv
  have hx := B.exec
  have hb := B.bytes
  have hr := B.returns
  have hts := atoms_spec (ws := wsX8_isWord) B.pre
  have hown : s.vm.findClass RX8 = some m.cls := findClass_of_methodNamed B.named
  have hlocks := B.notSynchronized
  have hl := lv_entry ([.ref (qa 0), .long a1, .int a3]) (n := 6) (Nat.le_of_ble_eq_true rfl)
  rw [lg_entry_eq]
  generalize (lg_sl ([.ref (qa 0), .long a1, .int a3]) ++ List.replicate (6 - (lg_sl ([.ref (qa 0), .long a1, .int a3])).length) Slot.unset).toArray = ls at hl ⊢
  have hl : lv_has ls 6 [(0, .ref (qa 0)), (1, .long a1), (3, .int a3)] := hl
  clear B
  generalize ([.ref (qa 0), .long a1, .int a3] : List Value).toArray = args at hts ⊢
  have key : ∀ (H : Heap), va_P D vwCl (wM cyI cyZ qa M) H → H = s.heap → W p l e rm_X8_isWord s m args below meth c H [] 0 0 (MQ below (jSi o) args s 0 0 (fun _ => False)) (F0 m 0 ls []) := by
    intro H hP hH
    have h := hf
    unfold f_X8_isWord at h
    refine lv_aload_n hx hb dX8_isWord_0 rfl (lv_at hl 0 rfl) ?_
    refine va_get (D := D) (ci := 8) (v := .int (M.2 2)) (C := RX8) (T := TX8) (N := 24) hx hb hts in_X8_isWord_X8 hown hK.1 hP 0 rfl rfl 3 (by decide) (hts _ kw_X8_isWord_1) (fun _ h9 => h9) rfl dX8_isWord_1 ?_
    refine lv_aload_n hx hb dX8_isWord_4 rfl (lv_at hl 0 rfl) ?_
    refine va_get (D := D) (ci := 8) (v := .int (M.2 4)) (C := RX8) (T := TX8) (N := 24) hx hb hts in_X8_isWord_X8 hown hK.1 hP 0 rfl rfl 5 (by decide) (hts _ kw_X8_isWord_2) (fun _ h9 => h9) rfl dX8_isWord_5 ?_
    refine lv_isub hx hb dX8_isWord_8 ?_
    refine lv_iload_n hx hb dX8_isWord_9 rfl (lv_at hl 2 rfl) ?_
    obtain ⟨z1, hz1, h⟩ := jb h
    have hk1 : ∀ (ls : Array Slot), lv_has ls 6 [(0, .ref (qa 0)), (1, .long a1), (3, .int a3)] → W p l e rm_X8_isWord s m args below meth c H [] 0 0 (MQ below (jSi o) args s 0 0 (fun _ => False)) (F0 m 18 ls [.int z1]) := by
      intro ls hl
      refine lv_istore (lv' := [(4, .int z1), (0, .ref (qa 0)), (1, .long a1), (3, .int a3)]) hx hb dX8_isWord_18 hl (by decide) rfl (fun ls hl => ?_)
      refine lv_iconst (v := (0 : Int32)) hx hb dX8_isWord_20 (by decide) ?_
      refine lv_istore (lv' := [(5, .int (0 : Int32)), (4, .int z1), (0, .ref (qa 0)), (1, .long a1), (3, .int a3)]) hx hb dX8_isWord_21 hl (by decide) rfl (fun ls hl => ?_)
      obtain ⟨r3, hz3, h3_⟩ := jb h
      have hex3 : ∀ e3 : Int32, r3 = e3 → ∀ (ls : Array Slot), lv_has ls 6 [(4, .int e3)] → W p l e rm_X8_isWord s m args below meth c H [] 0 0 (MQ below (jSi o) args s 0 0 (fun _ => False)) (F0 m 77 ls []) := by
        intro e3 he ls hl
        rw [he] at h3_
        have h := h3_
        clear hz3
        refine lv_iload hx hb dX8_isWord_77 (lv_at hl 0 rfl) ?_
        obtain ⟨gz, h⟩ := jn h
        exact W.zret hx hb hr (jz_n gz) (fun t ht _ => ⟨_, rfl, Option.some.inj h, ht.trans hH⟩) (fun q h => by cases h) dX8_isWord_79 hlocks
      have hlp3 : ∀ (nn : Nat) (z3 : (Int32 × Int32)), jw (X8_isWord_s23 a1 a3 M) nn z3 = some r3 → ∀ (ls : Array Slot), lv_has ls 6 [(0, .ref (qa 0)), (1, .long a1), (3, .int a3), (4, .int z3.1), (5, .int z3.2)] → W p l e rm_X8_isWord s m args below meth c H [] 0 0 (MQ below (jSi o) args s 0 0 (fun _ => False)) (F0 m 23 ls []) := by
        refine jw_P (r := r3) (P := fun z3 : (Int32 × Int32) => ∀ (ls : Array Slot), lv_has ls 6 [(0, .ref (qa 0)), (1, .long a1), (3, .int a3), (4, .int z3.1), (5, .int z3.2)] → W p l e rm_X8_isWord s m args below meth c H [] 0 0 (MQ below (jSi o) args s 0 0 (fun _ => False)) (F0 m 23 ls [])) ?_
        intro z3 x3 h hin hout ls hl
        unfold X8_isWord_s23 at h
        refine lv_iload hx hb dX8_isWord_23 (lv_at hl 4 rfl) ?_
        refine lv_iload_n hx hb dX8_isWord_25 rfl (lv_at hl 2 rfl) ?_
        refine lv_icmp_ge (tgt := 77) hx hb dX8_isWord_26 (by decide) (fun c4 => ?_) (fun c4 => ?_)
        · have h := jt c4 h
          exact hex3 _ (hout _ (Option.some.inj h).symm).symm ls (lv_sub hl [3] rfl)
        · have h := jf c4 h
          refine lv_iload hx hb dX8_isWord_29 (lv_at hl 3 rfl) ?_
          refine lv_if_eq (tgt := 77) hx hb dX8_isWord_31 (by decide) (fun c5 => ?_) (fun c5 => ?_)
          · have h := jt c5 h
            exact hex3 _ (hout _ (Option.some.inj h).symm).symm ls (lv_sub hl [3] rfl)
          · have h := jf c5 h
            refine lv_aload_n hx hb dX8_isWord_34 rfl (lv_at hl 0 rfl) ?_
            refine lv_aload_n hx hb dX8_isWord_35 rfl (lv_at hl 0 rfl) ?_
            refine va_get (D := D) (ci := 8) (v := .int (M.2 4)) (C := RX8) (T := TX8) (N := 24) hx hb hts in_X8_isWord_X8 hown hK.1 hP 0 rfl rfl 5 (by decide) (hts _ kw_X8_isWord_2) (fun _ h9 => h9) rfl dX8_isWord_36 ?_
            refine lv_iload hx hb dX8_isWord_39 (lv_at hl 4 rfl) ?_
            refine lv_iadd hx hb dX8_isWord_41 ?_
            obtain ⟨z6, hz6, h⟩ := jb h
            refine jki (jrV (As := [.int ((M.2 4) + z3.2)]) (rest := []) ⟨hx, hb, hml, hown, hts⟩ (c_X8_letterAt l D cyI cyZ cyT qa  ((M.2 4) + z3.2) M z6 hz6) (cwV 1 hts gX8_isWord_X8_letterAt rfl rfl rfl (by decide +kernel) ⟨Nat.le_of_ble_eq_true rfl, Nat.le_of_ble_eq_true rfl⟩) hK hP rfl 8 0 rfl rfl rfl hl.1 (Nat.le_of_ble_eq_true rfl) dX8_isWord_42 ⟨Nat.le_of_ble_eq_true rfl, Nat.le_of_ble_eq_true rfl⟩) ?_
            clear hz6
            refine lv_lload_n hx hb dX8_isWord_45 rfl (lv_at hl 1 rfl) ?_
            refine lv_bipush (v := (8 : Int32)) hx hb dX8_isWord_46 (by decide) ?_
            refine lv_iload_n hx hb dX8_isWord_48 rfl (lv_at hl 2 rfl) ?_
            refine lv_iconst (v := (1 : Int32)) hx hb dX8_isWord_49 (by decide) ?_
            refine lv_isub hx hb dX8_isWord_50 ?_
            refine lv_iload hx hb dX8_isWord_51 (lv_at hl 4 rfl) ?_
            refine lv_isub hx hb dX8_isWord_53 ?_
            refine lv_imul hx hb dX8_isWord_54 ?_
            refine lv_lshr (v := a1 >>> (((8 : Int32) * ((a3 - (1 : Int32)) - z3.2)).toInt64 &&& 63)) hx hb dX8_isWord_55 rfl ?_
            refine lv_ldc2 (v := (255 : Int64)) hx hb hown (hts _ kw_X8_isWord_3) dX8_isWord_56 ?_
            refine lv_land hx hb dX8_isWord_59 ?_
            refine lv_l2i (v := ((a1 >>> (((8 : Int32) * ((a3 - (1 : Int32)) - z3.2)).toInt64 &&& 63)) &&& (255 : Int64)).toInt32) hx hb dX8_isWord_60 rfl ?_
            obtain ⟨z7, hz7, h⟩ := jb h
            have hk7 : ∀ (ls : Array Slot), lv_has ls 6 [(0, .ref (qa 0)), (1, .long a1), (3, .int a3), (5, .int z3.2)] → W p l e rm_X8_isWord s m args below meth c H [] 0 0 (MQ below (jSi o) args s 0 0 (fun _ => False)) (F0 m 69 ls [.int z7]) := by
              intro ls hl
              refine lv_istore (lv' := [(4, .int z7), (0, .ref (qa 0)), (1, .long a1), (3, .int a3), (5, .int z3.2)]) hx hb dX8_isWord_69 hl (by decide) rfl (fun ls hl => ?_)
              refine lv_iinc (v := z3.2 + (1 : Int32)) (lv' := [(5, .int (z3.2 + (1 : Int32))), (4, .int z7), (0, .ref (qa 0)), (1, .long a1), (3, .int a3)]) hx hb dX8_isWord_71 hl (k := 4) rfl rfl (by decide) rfl (fun ls hl => ?_)
              refine lv_goto (tgt := 23) hx hb dX8_isWord_74 (by decide) ?_
              exact hin _ (Option.some.inj h).symm ls (lv_sub hl [2, 3, 4, 1, 0] rfl)
            clear h
            have h := hz7
            clear hz7
            refine lv_icmp_ne (tgt := 68) hx hb dX8_isWord_61 (by decide) (fun c8 => ?_) (fun c8 => ?_)
            · have h := jf c8 h
              refine lv_iconst (v := (0 : Int32)) hx hb dX8_isWord_68 (by decide) ?_
              obtain rfl := Option.some.inj h
              exact hk7 ls (lv_sub hl [0, 1, 2, 4] rfl)
            · have h := jt c8 h
              refine lv_iconst (v := (1 : Int32)) hx hb dX8_isWord_64 (by decide) ?_
              refine lv_goto (tgt := 69) hx hb dX8_isWord_65 (by decide) ?_
              obtain rfl := Option.some.inj h
              exact hk7 ls (lv_sub hl [0, 1, 2, 4] rfl)
      exact hlp3 _ _ hz3 ls (lv_sub hl [2, 3, 4, 1, 0] rfl)
    clear h
    have h := hz1
    clear hz1
    refine lv_icmp_ne (tgt := 17) hx hb dX8_isWord_10 (by decide) (fun c2 => ?_) (fun c2 => ?_)
    · have h := jf c2 h
      refine lv_iconst (v := (0 : Int32)) hx hb dX8_isWord_17 (by decide) ?_
      obtain rfl := Option.some.inj h
      exact hk1 ls (lv_sub hl [0, 1, 2] rfl)
    · have h := jt c2 h
      refine lv_iconst (v := (1 : Int32)) hx hb dX8_isWord_13 (by decide) ?_
      refine lv_goto (tgt := 18) hx hb dX8_isWord_14 (by decide) ?_
      obtain rfl := Option.some.inj h
      exact hk1 ls (lv_sub hl [0, 1, 2] rfl)
  exact key s.heap hP rfl
theorem kw_X8_wordOf_1 : (.constantLong RX8 73 (482854660462) : Cond) ∈ wsX8_wordOf := List.mem_of_getElem? (i := 1) rfl
theorem kw_X8_wordOf_2 : (.constantLong RX8 79 (1684365670) : Cond) ∈ wsX8_wordOf := List.mem_of_getElem? (i := 2) rfl
theorem kw_X8_wordOf_3 : (.constantLong RX8 81 (109330395394660) : Cond) ∈ wsX8_wordOf := List.mem_of_getElem? (i := 3) rfl
theorem kw_X8_wordOf_4 : (.constantLong RX8 83 (422825784933) : Cond) ∈ wsX8_wordOf := List.mem_of_getElem? (i := 4) rfl
theorem kw_X8_wordOf_5 : (.constantLong RX8 85 (1937007984) : Cond) ∈ wsX8_wordOf := List.mem_of_getElem? (i := 5) rfl
theorem kw_X8_wordOf_6 : (.constantLong RX8 87 (7496052) : Cond) ∈ wsX8_wordOf := List.mem_of_getElem? (i := 6) rfl
theorem kw_X8_wordOf_7 : (.constantLong RX8 89 (1734437230) : Cond) ∈ wsX8_wordOf := List.mem_of_getElem? (i := 7) rfl
theorem kw_X8_wordOf_8 : (.constantLong RX8 91 (448546567013) : Cond) ∈ wsX8_wordOf := List.mem_of_getElem? (i := 8) rfl
theorem kw_X8_wordOf_9 : (.constantLong RX8 93 (487301145972) : Cond) ∈ wsX8_wordOf := List.mem_of_getElem? (i := 9) rfl
abbrev rm_X8_wordOf : Room := { frames := 2, cells := 0, slots := 0, locals := 46 }
set_option maxHeartbeats 4000000 in
set_option maxRecDepth 100000 in
theorem c_X8_wordOf (l : Launch) (D : va_G) (cyI cyZ cyT : ClassId) (qa : Nat → Nat) (N : Nat) (M : Mo) (o : Int32) (hf : f_X8_wordOf N M = some o) : Met l yX8_wordOf wsX8_wordOf rm_X8_wordOf (va_Pc [.ref (qa 0)] (jB D cyI cyZ cyT (wM cyI cyZ qa M))) (jSi o) 0 0 (fun _ => False) := by
  refine Met.ofW (cc := cX8_wordOf) (maxL := 1) (ret := (some .int)) (by decide) rfl ?_
  intro p e s m args below meth c s₁ B hml hv
  obtain ⟨rfl, hP, hK⟩ := hv
  have hx := B.exec
  have hb := B.bytes
  have hr := B.returns
  have hts := atoms_spec (ws := wsX8_wordOf) B.pre
  have hown : s.vm.findClass RX8 = some m.cls := findClass_of_methodNamed B.named
  have hlocks := B.notSynchronized
  have hl := lv_entry ([.ref (qa 0)]) (n := 1) (Nat.le_of_ble_eq_true rfl)
  rw [lg_entry_eq]
  generalize (lg_sl ([.ref (qa 0)]) ++ List.replicate (1 - (lg_sl ([.ref (qa 0)])).length) Slot.unset).toArray = ls at hl ⊢
  have hl : lv_has ls 1 [(0, .ref (qa 0))] := hl
  clear B
  generalize ([.ref (qa 0)] : List Value).toArray = args at hts ⊢
  have key : ∀ (H : Heap), va_P D vwCl (wM cyI cyZ qa M) H → H = s.heap → W p l e rm_X8_wordOf s m args below meth c H [] 0 0 (MQ below (jSi o) args s 0 0 (fun _ => False)) (F0 m 0 ls []) := by
    intro H hP hH
    have h := hf
    unfold f_X8_wordOf at h
    refine lv_aload_n hx hb dX8_wordOf_0 rfl (lv_at hl 0 rfl) ?_
    refine lv_ldc2 (v := (482854660462 : Int64)) hx hb hown (hts _ kw_X8_wordOf_1) dX8_wordOf_1 ?_
    refine lv_iconst (v := (5 : Int32)) hx hb dX8_wordOf_4 (by decide) ?_
    obtain ⟨z1, hz1, h⟩ := jb h
    refine jki (jrV (As := [.long (482854660462 : Int64), .int (5 : Int32)]) (rest := []) ⟨hx, hb, hml, hown, hts⟩ (c_X8_isWord l D cyI cyZ cyT qa  N (482854660462 : Int64) (5 : Int32) M z1 hz1) (cwV 2 hts gX8_wordOf_X8_isWord rfl rfl rfl (by decide +kernel) ⟨Nat.le_of_ble_eq_true rfl, Nat.le_of_ble_eq_true rfl⟩) hK hP rfl 8 0 rfl rfl rfl hl.1 (Nat.le_of_ble_eq_true rfl) dX8_wordOf_5 ⟨Nat.le_of_ble_eq_true rfl, Nat.le_of_ble_eq_true rfl⟩) ?_
    clear hz1
    refine lv_if_eq (tgt := 15) hx hb dX8_wordOf_8 (by decide) (fun c2 => ?_) (fun c2 => ?_)
    · have h := jt c2 h
      refine lv_aload_n hx hb dX8_wordOf_15 rfl (lv_at hl 0 rfl) ?_
      refine lv_ldc2 (v := (1684365670 : Int64)) hx hb hown (hts _ kw_X8_wordOf_2) dX8_wordOf_16 ?_
      refine lv_iconst (v := (4 : Int32)) hx hb dX8_wordOf_19 (by decide) ?_
      obtain ⟨z3, hz3, h⟩ := jb h
      refine jki (jrV (As := [.long (1684365670 : Int64), .int (4 : Int32)]) (rest := []) ⟨hx, hb, hml, hown, hts⟩ (c_X8_isWord l D cyI cyZ cyT qa  N (1684365670 : Int64) (4 : Int32) M z3 hz3) (cwV 2 hts gX8_wordOf_X8_isWord rfl rfl rfl (by decide +kernel) ⟨Nat.le_of_ble_eq_true rfl, Nat.le_of_ble_eq_true rfl⟩) hK hP rfl 8 0 rfl rfl rfl hl.1 (Nat.le_of_ble_eq_true rfl) dX8_wordOf_20 ⟨Nat.le_of_ble_eq_true rfl, Nat.le_of_ble_eq_true rfl⟩) ?_
      clear hz3
      refine lv_if_eq (tgt := 30) hx hb dX8_wordOf_23 (by decide) (fun c4 => ?_) (fun c4 => ?_)
      · have h := jt c4 h
        refine lv_aload_n hx hb dX8_wordOf_30 rfl (lv_at hl 0 rfl) ?_
        refine lv_ldc2 (v := (109330395394660 : Int64)) hx hb hown (hts _ kw_X8_wordOf_3) dX8_wordOf_31 ?_
        refine lv_bipush (v := (6 : Int32)) hx hb dX8_wordOf_34 (by decide) ?_
        obtain ⟨z5, hz5, h⟩ := jb h
        refine jki (jrV (As := [.long (109330395394660 : Int64), .int (6 : Int32)]) (rest := []) ⟨hx, hb, hml, hown, hts⟩ (c_X8_isWord l D cyI cyZ cyT qa  N (109330395394660 : Int64) (6 : Int32) M z5 hz5) (cwV 2 hts gX8_wordOf_X8_isWord rfl rfl rfl (by decide +kernel) ⟨Nat.le_of_ble_eq_true rfl, Nat.le_of_ble_eq_true rfl⟩) hK hP rfl 8 0 rfl rfl rfl hl.1 (Nat.le_of_ble_eq_true rfl) dX8_wordOf_36 ⟨Nat.le_of_ble_eq_true rfl, Nat.le_of_ble_eq_true rfl⟩) ?_
        clear hz5
        refine lv_if_eq (tgt := 46) hx hb dX8_wordOf_39 (by decide) (fun c6 => ?_) (fun c6 => ?_)
        · have h := jt c6 h
          refine lv_aload_n hx hb dX8_wordOf_46 rfl (lv_at hl 0 rfl) ?_
          refine lv_ldc2 (v := (422825784933 : Int64)) hx hb hown (hts _ kw_X8_wordOf_4) dX8_wordOf_47 ?_
          refine lv_iconst (v := (5 : Int32)) hx hb dX8_wordOf_50 (by decide) ?_
          obtain ⟨z7, hz7, h⟩ := jb h
          refine jki (jrV (As := [.long (422825784933 : Int64), .int (5 : Int32)]) (rest := []) ⟨hx, hb, hml, hown, hts⟩ (c_X8_isWord l D cyI cyZ cyT qa  N (422825784933 : Int64) (5 : Int32) M z7 hz7) (cwV 2 hts gX8_wordOf_X8_isWord rfl rfl rfl (by decide +kernel) ⟨Nat.le_of_ble_eq_true rfl, Nat.le_of_ble_eq_true rfl⟩) hK hP rfl 8 0 rfl rfl rfl hl.1 (Nat.le_of_ble_eq_true rfl) dX8_wordOf_51 ⟨Nat.le_of_ble_eq_true rfl, Nat.le_of_ble_eq_true rfl⟩) ?_
          clear hz7
          refine lv_if_eq (tgt := 61) hx hb dX8_wordOf_54 (by decide) (fun c8 => ?_) (fun c8 => ?_)
          · have h := jt c8 h
            refine lv_aload_n hx hb dX8_wordOf_61 rfl (lv_at hl 0 rfl) ?_
            refine lv_ldc2 (v := (1937007984 : Int64)) hx hb hown (hts _ kw_X8_wordOf_5) dX8_wordOf_62 ?_
            refine lv_iconst (v := (4 : Int32)) hx hb dX8_wordOf_65 (by decide) ?_
            obtain ⟨z9, hz9, h⟩ := jb h
            refine jki (jrV (As := [.long (1937007984 : Int64), .int (4 : Int32)]) (rest := []) ⟨hx, hb, hml, hown, hts⟩ (c_X8_isWord l D cyI cyZ cyT qa  N (1937007984 : Int64) (4 : Int32) M z9 hz9) (cwV 2 hts gX8_wordOf_X8_isWord rfl rfl rfl (by decide +kernel) ⟨Nat.le_of_ble_eq_true rfl, Nat.le_of_ble_eq_true rfl⟩) hK hP rfl 8 0 rfl rfl rfl hl.1 (Nat.le_of_ble_eq_true rfl) dX8_wordOf_66 ⟨Nat.le_of_ble_eq_true rfl, Nat.le_of_ble_eq_true rfl⟩) ?_
            clear hz9
            refine lv_if_eq (tgt := 76) hx hb dX8_wordOf_69 (by decide) (fun c10 => ?_) (fun c10 => ?_)
            · have h := jt c10 h
              refine lv_aload_n hx hb dX8_wordOf_76 rfl (lv_at hl 0 rfl) ?_
              refine lv_ldc2 (v := (7496052 : Int64)) hx hb hown (hts _ kw_X8_wordOf_6) dX8_wordOf_77 ?_
              refine lv_iconst (v := (3 : Int32)) hx hb dX8_wordOf_80 (by decide) ?_
              obtain ⟨z11, hz11, h⟩ := jb h
              refine jki (jrV (As := [.long (7496052 : Int64), .int (3 : Int32)]) (rest := []) ⟨hx, hb, hml, hown, hts⟩ (c_X8_isWord l D cyI cyZ cyT qa  N (7496052 : Int64) (3 : Int32) M z11 hz11) (cwV 2 hts gX8_wordOf_X8_isWord rfl rfl rfl (by decide +kernel) ⟨Nat.le_of_ble_eq_true rfl, Nat.le_of_ble_eq_true rfl⟩) hK hP rfl 8 0 rfl rfl rfl hl.1 (Nat.le_of_ble_eq_true rfl) dX8_wordOf_81 ⟨Nat.le_of_ble_eq_true rfl, Nat.le_of_ble_eq_true rfl⟩) ?_
              clear hz11
              refine lv_if_eq (tgt := 91) hx hb dX8_wordOf_84 (by decide) (fun c12 => ?_) (fun c12 => ?_)
              · have h := jt c12 h
                refine lv_aload_n hx hb dX8_wordOf_91 rfl (lv_at hl 0 rfl) ?_
                refine lv_ldc2 (v := (1734437230 : Int64)) hx hb hown (hts _ kw_X8_wordOf_7) dX8_wordOf_92 ?_
                refine lv_iconst (v := (4 : Int32)) hx hb dX8_wordOf_95 (by decide) ?_
                obtain ⟨z13, hz13, h⟩ := jb h
                refine jki (jrV (As := [.long (1734437230 : Int64), .int (4 : Int32)]) (rest := []) ⟨hx, hb, hml, hown, hts⟩ (c_X8_isWord l D cyI cyZ cyT qa  N (1734437230 : Int64) (4 : Int32) M z13 hz13) (cwV 2 hts gX8_wordOf_X8_isWord rfl rfl rfl (by decide +kernel) ⟨Nat.le_of_ble_eq_true rfl, Nat.le_of_ble_eq_true rfl⟩) hK hP rfl 8 0 rfl rfl rfl hl.1 (Nat.le_of_ble_eq_true rfl) dX8_wordOf_96 ⟨Nat.le_of_ble_eq_true rfl, Nat.le_of_ble_eq_true rfl⟩) ?_
                clear hz13
                refine lv_if_eq (tgt := 107) hx hb dX8_wordOf_99 (by decide) (fun c14 => ?_) (fun c14 => ?_)
                · have h := jt c14 h
                  refine lv_aload_n hx hb dX8_wordOf_107 rfl (lv_at hl 0 rfl) ?_
                  refine lv_ldc2 (v := (448546567013 : Int64)) hx hb hown (hts _ kw_X8_wordOf_8) dX8_wordOf_108 ?_
                  refine lv_iconst (v := (5 : Int32)) hx hb dX8_wordOf_111 (by decide) ?_
                  obtain ⟨z15, hz15, h⟩ := jb h
                  refine jki (jrV (As := [.long (448546567013 : Int64), .int (5 : Int32)]) (rest := []) ⟨hx, hb, hml, hown, hts⟩ (c_X8_isWord l D cyI cyZ cyT qa  N (448546567013 : Int64) (5 : Int32) M z15 hz15) (cwV 2 hts gX8_wordOf_X8_isWord rfl rfl rfl (by decide +kernel) ⟨Nat.le_of_ble_eq_true rfl, Nat.le_of_ble_eq_true rfl⟩) hK hP rfl 8 0 rfl rfl rfl hl.1 (Nat.le_of_ble_eq_true rfl) dX8_wordOf_112 ⟨Nat.le_of_ble_eq_true rfl, Nat.le_of_ble_eq_true rfl⟩) ?_
                  clear hz15
                  refine lv_if_eq (tgt := 123) hx hb dX8_wordOf_115 (by decide) (fun c16 => ?_) (fun c16 => ?_)
                  · have h := jt c16 h
                    refine lv_aload_n hx hb dX8_wordOf_123 rfl (lv_at hl 0 rfl) ?_
                    refine lv_ldc2 (v := (487301145972 : Int64)) hx hb hown (hts _ kw_X8_wordOf_9) dX8_wordOf_124 ?_
                    refine lv_iconst (v := (5 : Int32)) hx hb dX8_wordOf_127 (by decide) ?_
                    obtain ⟨z17, hz17, h⟩ := jb h
                    refine jki (jrV (As := [.long (487301145972 : Int64), .int (5 : Int32)]) (rest := []) ⟨hx, hb, hml, hown, hts⟩ (c_X8_isWord l D cyI cyZ cyT qa  N (487301145972 : Int64) (5 : Int32) M z17 hz17) (cwV 2 hts gX8_wordOf_X8_isWord rfl rfl rfl (by decide +kernel) ⟨Nat.le_of_ble_eq_true rfl, Nat.le_of_ble_eq_true rfl⟩) hK hP rfl 8 0 rfl rfl rfl hl.1 (Nat.le_of_ble_eq_true rfl) dX8_wordOf_128 ⟨Nat.le_of_ble_eq_true rfl, Nat.le_of_ble_eq_true rfl⟩) ?_
                    clear hz17
                    refine lv_if_eq (tgt := 139) hx hb dX8_wordOf_131 (by decide) (fun c18 => ?_) (fun c18 => ?_)
                    · have h := jt c18 h
                      refine lv_bipush (v := (9 : Int32)) hx hb dX8_wordOf_139 (by decide) ?_
                      exact W.iret hx hb hr (fun t ht _ => ⟨_, rfl, Option.some.inj h, ht.trans hH⟩) (fun q h => by cases h) dX8_wordOf_141 hlocks
                    · have h := jf c18 h
                      refine lv_bipush (v := (8 : Int32)) hx hb dX8_wordOf_134 (by decide) ?_
                      refine lv_goto (tgt := 141) hx hb dX8_wordOf_136 (by decide) ?_
                      exact W.iret hx hb hr (fun t ht _ => ⟨_, rfl, Option.some.inj h, ht.trans hH⟩) (fun q h => by cases h) dX8_wordOf_141 hlocks
                  · have h := jf c16 h
                    refine lv_bipush (v := (7 : Int32)) hx hb dX8_wordOf_118 (by decide) ?_
                    refine lv_goto (tgt := 141) hx hb dX8_wordOf_120 (by decide) ?_
                    exact W.iret hx hb hr (fun t ht _ => ⟨_, rfl, Option.some.inj h, ht.trans hH⟩) (fun q h => by cases h) dX8_wordOf_141 hlocks
                · have h := jf c14 h
                  refine lv_bipush (v := (6 : Int32)) hx hb dX8_wordOf_102 (by decide) ?_
                  refine lv_goto (tgt := 141) hx hb dX8_wordOf_104 (by decide) ?_
                  exact W.iret hx hb hr (fun t ht _ => ⟨_, rfl, Option.some.inj h, ht.trans hH⟩) (fun q h => by cases h) dX8_wordOf_141 hlocks
              · have h := jf c12 h
                refine lv_iconst (v := (5 : Int32)) hx hb dX8_wordOf_87 (by decide) ?_
                refine lv_goto (tgt := 141) hx hb dX8_wordOf_88 (by decide) ?_
                exact W.iret hx hb hr (fun t ht _ => ⟨_, rfl, Option.some.inj h, ht.trans hH⟩) (fun q h => by cases h) dX8_wordOf_141 hlocks
            · have h := jf c10 h
              refine lv_iconst (v := (4 : Int32)) hx hb dX8_wordOf_72 (by decide) ?_
              refine lv_goto (tgt := 141) hx hb dX8_wordOf_73 (by decide) ?_
              exact W.iret hx hb hr (fun t ht _ => ⟨_, rfl, Option.some.inj h, ht.trans hH⟩) (fun q h => by cases h) dX8_wordOf_141 hlocks
          · have h := jf c8 h
            refine lv_iconst (v := (3 : Int32)) hx hb dX8_wordOf_57 (by decide) ?_
            refine lv_goto (tgt := 141) hx hb dX8_wordOf_58 (by decide) ?_
            exact W.iret hx hb hr (fun t ht _ => ⟨_, rfl, Option.some.inj h, ht.trans hH⟩) (fun q h => by cases h) dX8_wordOf_141 hlocks
        · have h := jf c6 h
          refine lv_iconst (v := (2 : Int32)) hx hb dX8_wordOf_42 (by decide) ?_
          refine lv_goto (tgt := 141) hx hb dX8_wordOf_43 (by decide) ?_
          exact W.iret hx hb hr (fun t ht _ => ⟨_, rfl, Option.some.inj h, ht.trans hH⟩) (fun q h => by cases h) dX8_wordOf_141 hlocks
      · have h := jf c4 h
        refine lv_iconst (v := (1 : Int32)) hx hb dX8_wordOf_26 (by decide) ?_
        refine lv_goto (tgt := 141) hx hb dX8_wordOf_27 (by decide) ?_
        exact W.iret hx hb hr (fun t ht _ => ⟨_, rfl, Option.some.inj h, ht.trans hH⟩) (fun q h => by cases h) dX8_wordOf_141 hlocks
    · have h := jf c2 h
      refine lv_iconst (v := (0 : Int32)) hx hb dX8_wordOf_11 (by decide) ?_
      refine lv_goto (tgt := 141) hx hb dX8_wordOf_12 (by decide) ?_
      exact W.iret hx hb hr (fun t ht _ => ⟨_, rfl, Option.some.inj h, ht.trans hH⟩) (fun q h => by cases h) dX8_wordOf_141 hlocks
  exact key s.heap hP rfl
theorem kw_X8_advances_1 : (.fieldLink RX8 61 "BellTheCatModel" "next" "I" : Cond) ∈ wsX8_advances := List.mem_of_getElem? (i := 1) rfl
theorem kw_X8_advances_2 : (.fieldLink RX8 64 "BellTheCatModel" "place" "I" : Cond) ∈ wsX8_advances := List.mem_of_getElem? (i := 2) rfl
theorem kw_X8_advances_3 : (.fieldLink RX8 95 "BellTheCatModel" "token" "I" : Cond) ∈ wsX8_advances := List.mem_of_getElem? (i := 3) rfl
theorem kw_X8_advances_4 : (.fieldLink RX8 102 "BellTheCatModel" "value" "I" : Cond) ∈ wsX8_advances := List.mem_of_getElem? (i := 4) rfl
theorem kw_X8_advances_5 : (.fieldLink RX8 105 "BellTheCatModel" "figures" "I" : Cond) ∈ wsX8_advances := List.mem_of_getElem? (i := 5) rfl
theorem in_X8_advances_X8 : ∀ w ∈ wsX80, w ∈ wsX8_advances := fun w h => List.mem_cons_of_mem _ (List.mem_append_right _ h)
abbrev rm_X8_advances : Room := { frames := 3, cells := 0, slots := 0, locals := 66 }
set_option maxHeartbeats 4000000 in
set_option maxRecDepth 100000 in
theorem c_X8_advances (l : Launch) (D : va_G) (cyI cyZ cyT : ClassId) (qa : Nat → Nat) (sz : Nat) (N : Nat) (M : Mo) (o : Mo) (hf : f_X8_advances N M = some o) : Met l yX8_advances wsX8_advances rm_X8_advances (va_Pc [.ref (qa 0)] (jM D cyI cyZ cyT (wM cyI cyZ qa M) sz)) (jQv D (va_A (wM cyI cyZ qa M) sz) (fun u : Mo => wM cyI cyZ qa u) o) 0 0 (va_A (wM cyI cyZ qa M) sz) := by
  refine Met.ofW (cc := cX8_advances) (maxL := 2) (ret := none) (by decide) rfl ?_
  intro p e s m args below meth c s₁ B hml hv
  obtain ⟨rfl, hsz, hP, hK, hD0⟩ := hv
  have hx := B.exec
  have hb := B.bytes
  have hr := B.returns
  have hts := atoms_spec (ws := wsX8_advances) B.pre
  have hown : s.vm.findClass RX8 = some m.cls := findClass_of_methodNamed B.named
  have hlocks := B.notSynchronized
  subst hsz
  have hD := hD0.self (sz := s.heap.size)
  generalize hAe : va_A (wM cyI cyZ qa M) s.heap.size = A at hD ⊢
  have hA : ∀ q : Nat, s.heap.size ≤ q → A q := fun q h => by rw [← hAe]; exact Or.inr h
  have hS : va_S A s.heap s.heap [] := va_S.rf
  have hl := lv_entry ([.ref (qa 0)]) (n := 2) (Nat.le_of_ble_eq_true rfl)
  rw [lg_entry_eq]
  generalize (lg_sl ([.ref (qa 0)]) ++ List.replicate (2 - (lg_sl ([.ref (qa 0)])).length) Slot.unset).toArray = ls at hl ⊢
  have hl : lv_has ls 2 [(0, .ref (qa 0))] := hl
  clear B
  generalize ([.ref (qa 0)] : List Value).toArray = args at hts ⊢
  have key : ∀ (H : Heap) (locs : List Loc), va_P D vwCl (wM cyI cyZ qa M) H → va_D A (wM cyI cyZ qa M) → va_S A s.heap H locs → W p l e rm_X8_advances s m args below meth c H locs 0 0 (MQ below (jQv D A (fun u : Mo => wM cyI cyZ qa u) o) args s 0 0 A) (F0 m 0 ls []) := by
    intro H locs hP hD hS
    have h := hf
    unfold f_X8_advances at h
    obtain ⟨r1, hz1, h1_⟩ := jb h
    have hex1 : ∀ e1 : Mo, r1 = e1 → ∀ (H : Heap) (locs : List Loc), va_P D vwCl (wM cyI cyZ qa e1) H → va_D A (wM cyI cyZ qa e1) → va_S A s.heap H locs → ∀ (ls : Array Slot), lv_has ls 2 [(0, .ref (qa 0))] → W p l e rm_X8_advances s m args below meth c H locs 0 0 (MQ below (jQv D A (fun u : Mo => wM cyI cyZ qa u) o) args s 0 0 A) (F0 m 26 ls []) := by
      intro e1 he H locs hP hD hS ls hl
      rw [he] at h1_
      have h := h1_
      clear hz1
      refine lv_aload_n hx hb dX8_advances_26 rfl (lv_at hl 0 rfl) ?_
      refine lv_aload_n hx hb dX8_advances_27 rfl (lv_at hl 0 rfl) ?_
      refine va_get (D := D) (ci := 8) (v := .int (e1.2 2)) (C := RX8) (T := TX8) (N := 24) hx hb hts in_X8_advances_X8 hown hK.1 hP 0 rfl rfl 3 (by decide) (hts _ kw_X8_advances_1) (fun _ h9 => h9) rfl dX8_advances_28 ?_
      refine va_put (D := D) (ci := 8) (v := .int (e1.2 2)) (ty := .int) (C := RX8) (T := TX8) (N := 24) hx hb hts in_X8_advances_X8 tyX8 tyX8_ok nmX8 hown hK.1 hP hD hS 0 rfl rfl 5 (by decide) (hts _ kw_X8_advances_2) (fun _ h9 => h9) rfl (tyX8_ok 5 (by decide)) rfl rfl (Nat.le_of_ble_eq_true rfl) dX8_advances_31 (fun H locs hP hD hS => ?_)
      have hP : va_P D vwCl (wM cyI cyZ qa (e1.1, va_up e1.2 4 (e1.2 2))) H := hP
      have hD : va_D A (wM cyI cyZ qa (e1.1, va_up e1.2 4 (e1.2 2))) := hD
      refine lv_aload_n hx hb dX8_advances_34 rfl (lv_at hl 0 rfl) ?_
      refine lv_aload_n hx hb dX8_advances_35 rfl (lv_at hl 0 rfl) ?_
      refine va_get (D := D) (ci := 8) (v := .int (e1.2 2)) (C := RX8) (T := TX8) (N := 24) hx hb hts in_X8_advances_X8 hown hK.1 hP 0 rfl rfl 3 (by decide) (hts _ kw_X8_advances_1) (fun _ h9 => h9) rfl dX8_advances_36 ?_
      obtain ⟨z4, hz4, h⟩ := jb h
      refine jki (jrV (As := [.int (e1.2 2)]) (rest := []) ⟨hx, hb, hml, hown, hts⟩ (c_X8_letterAt l D cyI cyZ cyT qa  (e1.2 2) (e1.1, va_up e1.2 4 (e1.2 2)) z4 hz4) (cwV 1 hts gX8_advances_X8_letterAt rfl rfl rfl (by decide +kernel) ⟨Nat.le_of_ble_eq_true rfl, Nat.le_of_ble_eq_true rfl⟩) hK hP rfl 8 0 rfl rfl rfl hl.1 (Nat.le_of_ble_eq_true rfl) dX8_advances_39 ⟨Nat.le_of_ble_eq_true rfl, Nat.le_of_ble_eq_true rfl⟩) ?_
      clear hz4
      refine lv_istore_n (lv' := [(1, .int z4), (0, .ref (qa 0))]) hx hb dX8_advances_42 rfl hl (by decide) rfl (fun ls hl => ?_)
      refine lv_iload_n hx hb dX8_advances_43 rfl (lv_at hl 0 rfl) ?_
      refine lv_if_ge (tgt := 55) hx hb dX8_advances_44 (by decide) (fun c5 => ?_) (fun c5 => ?_)
      · have h := jt c5 h
        refine lv_iload_n hx hb dX8_advances_55 rfl (lv_at hl 0 rfl) ?_
        refine lv_bipush (v := (97 : Int32)) hx hb dX8_advances_56 (by decide) ?_
        refine lv_bipush (v := (122 : Int32)) hx hb dX8_advances_58 (by decide) ?_
        obtain ⟨z6, hz6, h⟩ := jb h
        refine jki (jrS (As := [.int z4, .int (97 : Int32), .int (122 : Int32)]) (rest := []) ⟨hx, hb, hml, hown, hts⟩ (c_X8_in l D cyI cyZ cyT   z4 (97 : Int32) (122 : Int32) z6 hz6) (va_cwS 3 hts gX8_advances_X8_in rfl rfl rfl (by decide +kernel) ⟨Nat.le_of_ble_eq_true rfl, Nat.le_of_ble_eq_true rfl⟩) hK jP0 rfl rfl hl.1 (Nat.le_of_ble_eq_true rfl) dX8_advances_60 ⟨Nat.le_of_ble_eq_true rfl, Nat.le_of_ble_eq_true rfl⟩) ?_
        clear hz6
        refine lv_if_eq (tgt := 113) hx hb dX8_advances_63 (by decide) (fun c7 => ?_) (fun c7 => ?_)
        · have h := jt c7 h
          refine lv_iload_n hx hb dX8_advances_113 rfl (lv_at hl 0 rfl) ?_
          refine lv_bipush (v := (48 : Int32)) hx hb dX8_advances_114 (by decide) ?_
          refine lv_bipush (v := (57 : Int32)) hx hb dX8_advances_116 (by decide) ?_
          obtain ⟨z8, hz8, h⟩ := jb h
          refine jki (jrS (As := [.int z4, .int (48 : Int32), .int (57 : Int32)]) (rest := []) ⟨hx, hb, hml, hown, hts⟩ (c_X8_in l D cyI cyZ cyT   z4 (48 : Int32) (57 : Int32) z8 hz8) (va_cwS 3 hts gX8_advances_X8_in rfl rfl rfl (by decide +kernel) ⟨Nat.le_of_ble_eq_true rfl, Nat.le_of_ble_eq_true rfl⟩) hK jP0 rfl rfl hl.1 (Nat.le_of_ble_eq_true rfl) dX8_advances_118 ⟨Nat.le_of_ble_eq_true rfl, Nat.le_of_ble_eq_true rfl⟩) ?_
          clear hz8
          refine lv_if_eq (tgt := 224) hx hb dX8_advances_121 (by decide) (fun c9 => ?_) (fun c9 => ?_)
          · have h := jt c9 h
            refine lv_aload_n hx hb dX8_advances_224 rfl (lv_at hl 1 rfl) ?_
            refine lv_dup hx hb dX8_advances_225 rfl ?_
            refine va_get (D := D) (ci := 8) (v := .int (e1.2 2)) (C := RX8) (T := TX8) (N := 24) hx hb hts in_X8_advances_X8 hown hK.1 hP 0 rfl rfl 3 (by decide) (hts _ kw_X8_advances_1) (fun _ h9 => h9) rfl dX8_advances_226 ?_
            refine lv_iconst (v := (1 : Int32)) hx hb dX8_advances_229 (by decide) ?_
            refine lv_iadd hx hb dX8_advances_230 ?_
            refine va_put (D := D) (ci := 8) (v := .int ((e1.2 2) + (1 : Int32))) (ty := .int) (C := RX8) (T := TX8) (N := 24) hx hb hts in_X8_advances_X8 tyX8 tyX8_ok nmX8 hown hK.1 hP hD hS 0 rfl rfl 3 (by decide) (hts _ kw_X8_advances_1) (fun _ h9 => h9) rfl (tyX8_ok 3 (by decide)) rfl rfl (Nat.le_of_ble_eq_true rfl) dX8_advances_231 (fun H locs hP hD hS => ?_)
            have hP : va_P D vwCl (wM cyI cyZ qa (e1.1, va_up (va_up e1.2 2 ((e1.2 2) + (1 : Int32))) 4 (e1.2 2))) H := hP
            have hD : va_D A (wM cyI cyZ qa (e1.1, va_up (va_up e1.2 2 ((e1.2 2) + (1 : Int32))) 4 (e1.2 2))) := hD
            refine lv_aload_n hx hb dX8_advances_234 rfl (lv_at hl 1 rfl) ?_
            refine lv_iload_n hx hb dX8_advances_235 rfl (lv_at hl 0 rfl) ?_
            refine lv_bipush (v := (59 : Int32)) hx hb dX8_advances_236 (by decide) ?_
            obtain ⟨z10, hz10, h⟩ := jb h
            have hk10 : ∀ (H : Heap) (locs : List Loc), va_P D vwCl (wM cyI cyZ qa (e1.1, va_up (va_up e1.2 2 ((e1.2 2) + (1 : Int32))) 4 (e1.2 2))) H → va_D A (wM cyI cyZ qa (e1.1, va_up (va_up e1.2 2 ((e1.2 2) + (1 : Int32))) 4 (e1.2 2))) → va_S A s.heap H locs → ∀ (ls : Array Slot), lv_has ls 2 [] → W p l e rm_X8_advances s m args below meth c H locs 0 0 (MQ below (jQv D A (fun u : Mo => wM cyI cyZ qa u) o) args s 0 0 A) (F0 m 246 ls [.int z10, .ref (qa 0)]) := by
              intro H locs hP hD hS ls hl
              refine va_put (D := D) (ci := 8) (v := .int z10) (ty := .int) (C := RX8) (T := TX8) (N := 24) hx hb hts in_X8_advances_X8 tyX8 tyX8_ok nmX8 hown hK.1 hP hD hS 0 rfl rfl 4 (by decide) (hts _ kw_X8_advances_3) (fun _ h9 => h9) rfl (tyX8_ok 4 (by decide)) rfl rfl (Nat.le_of_ble_eq_true rfl) dX8_advances_246 (fun H locs hP hD hS => ?_)
              have hP : va_P D vwCl (wM cyI cyZ qa (e1.1, va_up (va_up (va_up e1.2 2 ((e1.2 2) + (1 : Int32))) 3 z10) 4 (e1.2 2))) H := hP
              have hD : va_D A (wM cyI cyZ qa (e1.1, va_up (va_up (va_up e1.2 2 ((e1.2 2) + (1 : Int32))) 3 z10) 4 (e1.2 2))) := hD
              exact W.vret hx hb hr (fun t ht _ => ⟨⟨_, rfl, Option.some.inj h, by rw [ht]; exact hP, hD⟩, hS.F ht⟩) hS.2.2 dX8_advances_249 hlocks
            clear h
            have h := hz10
            clear hz10
            refine lv_icmp_ne (tgt := 245) hx hb dX8_advances_238 (by decide) (fun c11 => ?_) (fun c11 => ?_)
            · have h := jf c11 h
              refine lv_iconst (v := (4 : Int32)) hx hb dX8_advances_245 (by decide) ?_
              obtain rfl := Option.some.inj h
              exact hk10 H locs hP hD hS ls (lv_sub hl [] rfl)
            · have h := jt c11 h
              refine lv_iconst (v := (3 : Int32)) hx hb dX8_advances_241 (by decide) ?_
              refine lv_goto (tgt := 246) hx hb dX8_advances_242 (by decide) ?_
              obtain rfl := Option.some.inj h
              exact hk10 H locs hP hD hS ls (lv_sub hl [] rfl)
          · have h := jf c9 h
            refine lv_aload_n hx hb dX8_advances_124 rfl (lv_at hl 1 rfl) ?_
            refine lv_iconst (v := (0 : Int32)) hx hb dX8_advances_125 (by decide) ?_
            refine va_put (D := D) (ci := 8) (v := .int (0 : Int32)) (ty := .int) (C := RX8) (T := TX8) (N := 24) hx hb hts in_X8_advances_X8 tyX8 tyX8_ok nmX8 hown hK.1 hP hD hS 0 rfl rfl 6 (by decide) (hts _ kw_X8_advances_4) (fun _ h9 => h9) rfl (tyX8_ok 6 (by decide)) rfl rfl (Nat.le_of_ble_eq_true rfl) dX8_advances_126 (fun H locs hP hD hS => ?_)
            have hP : va_P D vwCl (wM cyI cyZ qa (e1.1, va_up (va_up e1.2 4 (e1.2 2)) 5 (0 : Int32))) H := hP
            have hD : va_D A (wM cyI cyZ qa (e1.1, va_up (va_up e1.2 4 (e1.2 2)) 5 (0 : Int32))) := hD
            obtain ⟨r12, hz12, h12_⟩ := jb h
            have hex12 : ∀ e12 : Mo, r12 = e12 → ∀ (H : Heap) (locs : List Loc), va_P D vwCl (wM cyI cyZ qa e12) H → va_D A (wM cyI cyZ qa e12) → va_S A s.heap H locs → ∀ (ls : Array Slot), lv_has ls 2 [(0, .ref (qa 0))] → W p l e rm_X8_advances s m args below meth c H locs 0 0 (MQ below (jQv D A (fun u : Mo => wM cyI cyZ qa u) o) args s 0 0 A) (F0 m 203 ls []) := by
              intro e12 he H locs hP hD hS ls hl
              rw [he] at h12_
              have h := h12_
              clear hz12
              refine lv_aload_n hx hb dX8_advances_203 rfl (lv_at hl 0 rfl) ?_
              refine lv_aload_n hx hb dX8_advances_204 rfl (lv_at hl 0 rfl) ?_
              refine va_get (D := D) (ci := 8) (v := .int (e12.2 2)) (C := RX8) (T := TX8) (N := 24) hx hb hts in_X8_advances_X8 hown hK.1 hP 0 rfl rfl 3 (by decide) (hts _ kw_X8_advances_1) (fun _ h9 => h9) rfl dX8_advances_205 ?_
              refine lv_aload_n hx hb dX8_advances_208 rfl (lv_at hl 0 rfl) ?_
              refine va_get (D := D) (ci := 8) (v := .int (e12.2 4)) (C := RX8) (T := TX8) (N := 24) hx hb hts in_X8_advances_X8 hown hK.1 hP 0 rfl rfl 5 (by decide) (hts _ kw_X8_advances_2) (fun _ h9 => h9) rfl dX8_advances_209 ?_
              refine lv_isub hx hb dX8_advances_212 ?_
              refine va_put (D := D) (ci := 8) (v := .int ((e12.2 2) - (e12.2 4))) (ty := .int) (C := RX8) (T := TX8) (N := 24) hx hb hts in_X8_advances_X8 tyX8 tyX8_ok nmX8 hown hK.1 hP hD hS 0 rfl rfl 7 (by decide) (hts _ kw_X8_advances_5) (fun _ h9 => h9) rfl (tyX8_ok 7 (by decide)) rfl rfl (Nat.le_of_ble_eq_true rfl) dX8_advances_213 (fun H locs hP hD hS => ?_)
              have hP : va_P D vwCl (wM cyI cyZ qa (e12.1, va_up e12.2 6 ((e12.2 2) - (e12.2 4)))) H := hP
              have hD : va_D A (wM cyI cyZ qa (e12.1, va_up e12.2 6 ((e12.2 2) - (e12.2 4)))) := hD
              refine lv_aload_n hx hb dX8_advances_216 rfl (lv_at hl 0 rfl) ?_
              refine lv_iconst (v := (2 : Int32)) hx hb dX8_advances_217 (by decide) ?_
              refine va_put (D := D) (ci := 8) (v := .int (2 : Int32)) (ty := .int) (C := RX8) (T := TX8) (N := 24) hx hb hts in_X8_advances_X8 tyX8 tyX8_ok nmX8 hown hK.1 hP hD hS 0 rfl rfl 4 (by decide) (hts _ kw_X8_advances_3) (fun _ h9 => h9) rfl (tyX8_ok 4 (by decide)) rfl rfl (Nat.le_of_ble_eq_true rfl) dX8_advances_218 (fun H locs hP hD hS => ?_)
              have hP : va_P D vwCl (wM cyI cyZ qa (e12.1, va_up (va_up e12.2 3 (2 : Int32)) 6 ((e12.2 2) - (e12.2 4)))) H := hP
              have hD : va_D A (wM cyI cyZ qa (e12.1, va_up (va_up e12.2 3 (2 : Int32)) 6 ((e12.2 2) - (e12.2 4)))) := hD
              refine lv_goto (tgt := 249) hx hb dX8_advances_221 (by decide) ?_
              exact W.vret hx hb hr (fun t ht _ => ⟨⟨_, rfl, Option.some.inj h, by rw [ht]; exact hP, hD⟩, hS.F ht⟩) hS.2.2 dX8_advances_249 hlocks
            have hlp12 : ∀ (nn : Nat) (z12 : Mo), jw (X8_advances_s129) nn z12 = some r12 → ∀ (H : Heap) (locs : List Loc), va_P D vwCl (wM cyI cyZ qa z12) H → va_D A (wM cyI cyZ qa z12) → va_S A s.heap H locs → ∀ (ls : Array Slot), lv_has ls 2 [(0, .ref (qa 0))] → W p l e rm_X8_advances s m args below meth c H locs 0 0 (MQ below (jQv D A (fun u : Mo => wM cyI cyZ qa u) o) args s 0 0 A) (F0 m 129 ls []) := by
              refine jw_P (r := r12) (P := fun z12 : Mo => ∀ (H : Heap) (locs : List Loc), va_P D vwCl (wM cyI cyZ qa z12) H → va_D A (wM cyI cyZ qa z12) → va_S A s.heap H locs → ∀ (ls : Array Slot), lv_has ls 2 [(0, .ref (qa 0))] → W p l e rm_X8_advances s m args below meth c H locs 0 0 (MQ below (jQv D A (fun u : Mo => wM cyI cyZ qa u) o) args s 0 0 A) (F0 m 129 ls [])) ?_
              intro z12 x12 h hin hout H locs hP hD hS ls hl
              unfold X8_advances_s129 at h
              refine lv_aload_n hx hb dX8_advances_129 rfl (lv_at hl 0 rfl) ?_
              refine lv_aload_n hx hb dX8_advances_130 rfl (lv_at hl 0 rfl) ?_
              refine va_get (D := D) (ci := 8) (v := .int (z12.2 2)) (C := RX8) (T := TX8) (N := 24) hx hb hts in_X8_advances_X8 hown hK.1 hP 0 rfl rfl 3 (by decide) (hts _ kw_X8_advances_1) (fun _ h9 => h9) rfl dX8_advances_131 ?_
              obtain ⟨z13, hz13, h⟩ := jb h
              refine jki (jrV (As := [.int (z12.2 2)]) (rest := []) ⟨hx, hb, hml, hown, hts⟩ (c_X8_letterAt l D cyI cyZ cyT qa  (z12.2 2) z12 z13 hz13) (cwV 1 hts gX8_advances_X8_letterAt rfl rfl rfl (by decide +kernel) ⟨Nat.le_of_ble_eq_true rfl, Nat.le_of_ble_eq_true rfl⟩) hK hP rfl 8 0 rfl rfl rfl hl.1 (Nat.le_of_ble_eq_true rfl) dX8_advances_134 ⟨Nat.le_of_ble_eq_true rfl, Nat.le_of_ble_eq_true rfl⟩) ?_
              clear hz13
              refine lv_bipush (v := (48 : Int32)) hx hb dX8_advances_137 (by decide) ?_
              refine lv_bipush (v := (57 : Int32)) hx hb dX8_advances_139 (by decide) ?_
              obtain ⟨z14, hz14, h⟩ := jb h
              refine jki (jrS (As := [.int z13, .int (48 : Int32), .int (57 : Int32)]) (rest := []) ⟨hx, hb, hml, hown, hts⟩ (c_X8_in l D cyI cyZ cyT   z13 (48 : Int32) (57 : Int32) z14 hz14) (va_cwS 3 hts gX8_advances_X8_in rfl rfl rfl (by decide +kernel) ⟨Nat.le_of_ble_eq_true rfl, Nat.le_of_ble_eq_true rfl⟩) hK jP0 rfl rfl hl.1 (Nat.le_of_ble_eq_true rfl) dX8_advances_141 ⟨Nat.le_of_ble_eq_true rfl, Nat.le_of_ble_eq_true rfl⟩) ?_
              clear hz14
              refine lv_if_eq (tgt := 203) hx hb dX8_advances_144 (by decide) (fun c15 => ?_) (fun c15 => ?_)
              · have h := jt c15 h
                exact hex12 _ (hout _ (Option.some.inj h).symm).symm H locs hP hD hS ls (lv_sub hl [0] rfl)
              · have h := jf c15 h
                refine lv_aload_n hx hb dX8_advances_147 rfl (lv_at hl 0 rfl) ?_
                refine lv_aload_n hx hb dX8_advances_148 rfl (lv_at hl 0 rfl) ?_
                refine va_get (D := D) (ci := 8) (v := .int (z12.2 2)) (C := RX8) (T := TX8) (N := 24) hx hb hts in_X8_advances_X8 hown hK.1 hP 0 rfl rfl 3 (by decide) (hts _ kw_X8_advances_1) (fun _ h9 => h9) rfl dX8_advances_149 ?_
                refine lv_aload_n hx hb dX8_advances_152 rfl (lv_at hl 0 rfl) ?_
                refine va_get (D := D) (ci := 8) (v := .int (z12.2 4)) (C := RX8) (T := TX8) (N := 24) hx hb hts in_X8_advances_X8 hown hK.1 hP 0 rfl rfl 5 (by decide) (hts _ kw_X8_advances_2) (fun _ h9 => h9) rfl dX8_advances_153 ?_
                refine lv_isub hx hb dX8_advances_156 ?_
                refine lv_iconst (v := (2 : Int32)) hx hb dX8_advances_157 (by decide) ?_
                obtain ⟨z16, hz16, h⟩ := jb h
                have hk16 : ∀ (H : Heap) (locs : List Loc), va_P D vwCl (wM cyI cyZ qa z12) H → va_D A (wM cyI cyZ qa z12) → va_S A s.heap H locs → ∀ (ls : Array Slot), lv_has ls 2 [(0, .ref (qa 0))] → W p l e rm_X8_advances s m args below meth c H locs 0 0 (MQ below (jQv D A (fun u : Mo => wM cyI cyZ qa u) o) args s 0 0 A) (F0 m 187 ls [.int z16, .ref (qa 0)]) := by
                  intro H locs hP hD hS ls hl
                  refine va_put (D := D) (ci := 8) (v := .int z16) (ty := .int) (C := RX8) (T := TX8) (N := 24) hx hb hts in_X8_advances_X8 tyX8 tyX8_ok nmX8 hown hK.1 hP hD hS 0 rfl rfl 6 (by decide) (hts _ kw_X8_advances_4) (fun _ h9 => h9) rfl (tyX8_ok 6 (by decide)) rfl rfl (Nat.le_of_ble_eq_true rfl) dX8_advances_187 (fun H locs hP hD hS => ?_)
                  have hP : va_P D vwCl (wM cyI cyZ qa (z12.1, va_up z12.2 5 z16)) H := hP
                  have hD : va_D A (wM cyI cyZ qa (z12.1, va_up z12.2 5 z16)) := hD
                  refine lv_aload_n hx hb dX8_advances_190 rfl (lv_at hl 0 rfl) ?_
                  refine lv_dup hx hb dX8_advances_191 rfl ?_
                  refine va_get (D := D) (ci := 8) (v := .int (z12.2 2)) (C := RX8) (T := TX8) (N := 24) hx hb hts in_X8_advances_X8 hown hK.1 hP 0 rfl rfl 3 (by decide) (hts _ kw_X8_advances_1) (fun _ h9 => h9) rfl dX8_advances_192 ?_
                  refine lv_iconst (v := (1 : Int32)) hx hb dX8_advances_195 (by decide) ?_
                  refine lv_iadd hx hb dX8_advances_196 ?_
                  refine va_put (D := D) (ci := 8) (v := .int ((z12.2 2) + (1 : Int32))) (ty := .int) (C := RX8) (T := TX8) (N := 24) hx hb hts in_X8_advances_X8 tyX8 tyX8_ok nmX8 hown hK.1 hP hD hS 0 rfl rfl 3 (by decide) (hts _ kw_X8_advances_1) (fun _ h9 => h9) rfl (tyX8_ok 3 (by decide)) rfl rfl (Nat.le_of_ble_eq_true rfl) dX8_advances_197 (fun H locs hP hD hS => ?_)
                  have hP : va_P D vwCl (wM cyI cyZ qa (z12.1, va_up (va_up z12.2 2 ((z12.2 2) + (1 : Int32))) 5 z16)) H := hP
                  have hD : va_D A (wM cyI cyZ qa (z12.1, va_up (va_up z12.2 2 ((z12.2 2) + (1 : Int32))) 5 z16)) := hD
                  refine lv_goto (tgt := 129) hx hb dX8_advances_200 (by decide) ?_
                  exact hin _ (Option.some.inj h).symm H locs hP hD hS ls (lv_sub hl [0] rfl)
                clear h
                have h := hz16
                clear hz16
                refine lv_icmp_ge (tgt := 183) hx hb dX8_advances_158 (by decide) (fun c17 => ?_) (fun c17 => ?_)
                · have h := jt c17 h
                  refine lv_aload_n hx hb dX8_advances_183 rfl (lv_at hl 0 rfl) ?_
                  refine va_get (D := D) (ci := 8) (v := .int (z12.2 5)) (C := RX8) (T := TX8) (N := 24) hx hb hts in_X8_advances_X8 hown hK.1 hP 0 rfl rfl 6 (by decide) (hts _ kw_X8_advances_4) (fun _ h9 => h9) rfl dX8_advances_184 ?_
                  obtain rfl := Option.some.inj h
                  exact hk16 H locs hP hD hS ls (lv_sub hl [0] rfl)
                · have h := jf c17 h
                  refine lv_bipush (v := (10 : Int32)) hx hb dX8_advances_161 (by decide) ?_
                  refine lv_aload_n hx hb dX8_advances_163 rfl (lv_at hl 0 rfl) ?_
                  refine va_get (D := D) (ci := 8) (v := .int (z12.2 5)) (C := RX8) (T := TX8) (N := 24) hx hb hts in_X8_advances_X8 hown hK.1 hP 0 rfl rfl 6 (by decide) (hts _ kw_X8_advances_4) (fun _ h9 => h9) rfl dX8_advances_164 ?_
                  refine lv_imul hx hb dX8_advances_167 ?_
                  refine lv_aload_n hx hb dX8_advances_168 rfl (lv_at hl 0 rfl) ?_
                  refine lv_aload_n hx hb dX8_advances_169 rfl (lv_at hl 0 rfl) ?_
                  refine va_get (D := D) (ci := 8) (v := .int (z12.2 2)) (C := RX8) (T := TX8) (N := 24) hx hb hts in_X8_advances_X8 hown hK.1 hP 0 rfl rfl 3 (by decide) (hts _ kw_X8_advances_1) (fun _ h9 => h9) rfl dX8_advances_170 ?_
                  obtain ⟨z18, hz18, h⟩ := jb h
                  refine jki (jrV (As := [.int (z12.2 2)]) (rest := [.int ((10 : Int32) * (z12.2 5)), .ref (qa 0)]) ⟨hx, hb, hml, hown, hts⟩ (c_X8_letterAt l D cyI cyZ cyT qa  (z12.2 2) z12 z18 hz18) (cwV 1 hts gX8_advances_X8_letterAt rfl rfl rfl (by decide +kernel) ⟨Nat.le_of_ble_eq_true rfl, Nat.le_of_ble_eq_true rfl⟩) hK hP rfl 8 0 rfl rfl rfl hl.1 (Nat.le_of_ble_eq_true rfl) dX8_advances_173 ⟨Nat.le_of_ble_eq_true rfl, Nat.le_of_ble_eq_true rfl⟩) ?_
                  clear hz18
                  refine lv_iadd hx hb dX8_advances_176 ?_
                  refine lv_bipush (v := (48 : Int32)) hx hb dX8_advances_177 (by decide) ?_
                  refine lv_isub hx hb dX8_advances_179 ?_
                  refine lv_goto (tgt := 187) hx hb dX8_advances_180 (by decide) ?_
                  obtain rfl := Option.some.inj h
                  exact hk16 H locs hP hD hS ls (lv_sub hl [0] rfl)
            exact hlp12 _ _ hz12 H locs hP hD hS ls (lv_sub hl [1] rfl)
        · have h := jf c7 h
          obtain ⟨r19, hz19, h19_⟩ := jb h
          have hex19 : ∀ e19 : Mo, r19 = e19 → ∀ (H : Heap) (locs : List Loc), va_P D vwCl (wM cyI cyZ qa e19) H → va_D A (wM cyI cyZ qa e19) → va_S A s.heap H locs → ∀ (ls : Array Slot), lv_has ls 2 [(0, .ref (qa 0))] → W p l e rm_X8_advances s m args below meth c H locs 0 0 (MQ below (jQv D A (fun u : Mo => wM cyI cyZ qa u) o) args s 0 0 A) (F0 m 97 ls []) := by
            intro e19 he H locs hP hD hS ls hl
            rw [he] at h19_
            have h := h19_
            clear hz19
            refine lv_aload_n hx hb dX8_advances_97 rfl (lv_at hl 0 rfl) ?_
            refine lv_iconst (v := (1 : Int32)) hx hb dX8_advances_98 (by decide) ?_
            refine va_put (D := D) (ci := 8) (v := .int (1 : Int32)) (ty := .int) (C := RX8) (T := TX8) (N := 24) hx hb hts in_X8_advances_X8 tyX8 tyX8_ok nmX8 hown hK.1 hP hD hS 0 rfl rfl 4 (by decide) (hts _ kw_X8_advances_3) (fun _ h9 => h9) rfl (tyX8_ok 4 (by decide)) rfl rfl (Nat.le_of_ble_eq_true rfl) dX8_advances_99 (fun H locs hP hD hS => ?_)
            have hP : va_P D vwCl (wM cyI cyZ qa (e19.1, va_up e19.2 3 (1 : Int32))) H := hP
            have hD : va_D A (wM cyI cyZ qa (e19.1, va_up e19.2 3 (1 : Int32))) := hD
            refine lv_aload_n hx hb dX8_advances_102 rfl (lv_at hl 0 rfl) ?_
            refine lv_aload_n hx hb dX8_advances_103 rfl (lv_at hl 0 rfl) ?_
            obtain ⟨z23, hz23, h⟩ := jb h
            refine jki (jrV (As := []) (rest := [.ref (qa 0)]) ⟨hx, hb, hml, hown, hts⟩ (c_X8_wordOf l D cyI cyZ cyT qa  N (e19.1, va_up e19.2 3 (1 : Int32)) z23 hz23) (cwV 0 hts gX8_advances_X8_wordOf rfl rfl rfl (by decide +kernel) ⟨Nat.le_of_ble_eq_true rfl, Nat.le_of_ble_eq_true rfl⟩) hK hP rfl 8 0 rfl rfl rfl hl.1 (Nat.le_of_ble_eq_true rfl) dX8_advances_104 ⟨Nat.le_of_ble_eq_true rfl, Nat.le_of_ble_eq_true rfl⟩) ?_
            clear hz23
            refine va_put (D := D) (ci := 8) (v := .int z23) (ty := .int) (C := RX8) (T := TX8) (N := 24) hx hb hts in_X8_advances_X8 tyX8 tyX8_ok nmX8 hown hK.1 hP hD hS 0 rfl rfl 6 (by decide) (hts _ kw_X8_advances_4) (fun _ h9 => h9) rfl (tyX8_ok 6 (by decide)) rfl rfl (Nat.le_of_ble_eq_true rfl) dX8_advances_107 (fun H locs hP hD hS => ?_)
            have hP : va_P D vwCl (wM cyI cyZ qa (e19.1, va_up (va_up e19.2 3 (1 : Int32)) 5 z23)) H := hP
            have hD : va_D A (wM cyI cyZ qa (e19.1, va_up (va_up e19.2 3 (1 : Int32)) 5 z23)) := hD
            refine lv_goto (tgt := 249) hx hb dX8_advances_110 (by decide) ?_
            exact W.vret hx hb hr (fun t ht _ => ⟨⟨_, rfl, Option.some.inj h, by rw [ht]; exact hP, hD⟩, hS.F ht⟩) hS.2.2 dX8_advances_249 hlocks
          have hlp19 : ∀ (nn : Nat) (z19 : Mo), jw (X8_advances_s66) nn z19 = some r19 → ∀ (H : Heap) (locs : List Loc), va_P D vwCl (wM cyI cyZ qa z19) H → va_D A (wM cyI cyZ qa z19) → va_S A s.heap H locs → ∀ (ls : Array Slot), lv_has ls 2 [(0, .ref (qa 0))] → W p l e rm_X8_advances s m args below meth c H locs 0 0 (MQ below (jQv D A (fun u : Mo => wM cyI cyZ qa u) o) args s 0 0 A) (F0 m 66 ls []) := by
            refine jw_P (r := r19) (P := fun z19 : Mo => ∀ (H : Heap) (locs : List Loc), va_P D vwCl (wM cyI cyZ qa z19) H → va_D A (wM cyI cyZ qa z19) → va_S A s.heap H locs → ∀ (ls : Array Slot), lv_has ls 2 [(0, .ref (qa 0))] → W p l e rm_X8_advances s m args below meth c H locs 0 0 (MQ below (jQv D A (fun u : Mo => wM cyI cyZ qa u) o) args s 0 0 A) (F0 m 66 ls [])) ?_
            intro z19 x19 h hin hout H locs hP hD hS ls hl
            unfold X8_advances_s66 at h
            refine lv_aload_n hx hb dX8_advances_66 rfl (lv_at hl 0 rfl) ?_
            refine lv_aload_n hx hb dX8_advances_67 rfl (lv_at hl 0 rfl) ?_
            refine va_get (D := D) (ci := 8) (v := .int (z19.2 2)) (C := RX8) (T := TX8) (N := 24) hx hb hts in_X8_advances_X8 hown hK.1 hP 0 rfl rfl 3 (by decide) (hts _ kw_X8_advances_1) (fun _ h9 => h9) rfl dX8_advances_68 ?_
            obtain ⟨z20, hz20, h⟩ := jb h
            refine jki (jrV (As := [.int (z19.2 2)]) (rest := []) ⟨hx, hb, hml, hown, hts⟩ (c_X8_letterAt l D cyI cyZ cyT qa  (z19.2 2) z19 z20 hz20) (cwV 1 hts gX8_advances_X8_letterAt rfl rfl rfl (by decide +kernel) ⟨Nat.le_of_ble_eq_true rfl, Nat.le_of_ble_eq_true rfl⟩) hK hP rfl 8 0 rfl rfl rfl hl.1 (Nat.le_of_ble_eq_true rfl) dX8_advances_71 ⟨Nat.le_of_ble_eq_true rfl, Nat.le_of_ble_eq_true rfl⟩) ?_
            clear hz20
            refine lv_bipush (v := (97 : Int32)) hx hb dX8_advances_74 (by decide) ?_
            refine lv_bipush (v := (122 : Int32)) hx hb dX8_advances_76 (by decide) ?_
            obtain ⟨z21, hz21, h⟩ := jb h
            refine jki (jrS (As := [.int z20, .int (97 : Int32), .int (122 : Int32)]) (rest := []) ⟨hx, hb, hml, hown, hts⟩ (c_X8_in l D cyI cyZ cyT   z20 (97 : Int32) (122 : Int32) z21 hz21) (va_cwS 3 hts gX8_advances_X8_in rfl rfl rfl (by decide +kernel) ⟨Nat.le_of_ble_eq_true rfl, Nat.le_of_ble_eq_true rfl⟩) hK jP0 rfl rfl hl.1 (Nat.le_of_ble_eq_true rfl) dX8_advances_78 ⟨Nat.le_of_ble_eq_true rfl, Nat.le_of_ble_eq_true rfl⟩) ?_
            clear hz21
            refine lv_if_eq (tgt := 97) hx hb dX8_advances_81 (by decide) (fun c22 => ?_) (fun c22 => ?_)
            · have h := jt c22 h
              exact hex19 _ (hout _ (Option.some.inj h).symm).symm H locs hP hD hS ls (lv_sub hl [0] rfl)
            · have h := jf c22 h
              refine lv_aload_n hx hb dX8_advances_84 rfl (lv_at hl 0 rfl) ?_
              refine lv_dup hx hb dX8_advances_85 rfl ?_
              refine va_get (D := D) (ci := 8) (v := .int (z19.2 2)) (C := RX8) (T := TX8) (N := 24) hx hb hts in_X8_advances_X8 hown hK.1 hP 0 rfl rfl 3 (by decide) (hts _ kw_X8_advances_1) (fun _ h9 => h9) rfl dX8_advances_86 ?_
              refine lv_iconst (v := (1 : Int32)) hx hb dX8_advances_89 (by decide) ?_
              refine lv_iadd hx hb dX8_advances_90 ?_
              refine va_put (D := D) (ci := 8) (v := .int ((z19.2 2) + (1 : Int32))) (ty := .int) (C := RX8) (T := TX8) (N := 24) hx hb hts in_X8_advances_X8 tyX8 tyX8_ok nmX8 hown hK.1 hP hD hS 0 rfl rfl 3 (by decide) (hts _ kw_X8_advances_1) (fun _ h9 => h9) rfl (tyX8_ok 3 (by decide)) rfl rfl (Nat.le_of_ble_eq_true rfl) dX8_advances_91 (fun H locs hP hD hS => ?_)
              have hP : va_P D vwCl (wM cyI cyZ qa (z19.1, va_up z19.2 2 ((z19.2 2) + (1 : Int32)))) H := hP
              have hD : va_D A (wM cyI cyZ qa (z19.1, va_up z19.2 2 ((z19.2 2) + (1 : Int32)))) := hD
              refine lv_goto (tgt := 66) hx hb dX8_advances_94 (by decide) ?_
              exact hin _ (Option.some.inj h).symm H locs hP hD hS ls (lv_sub hl [0] rfl)
          exact hlp19 _ _ hz19 H locs hP hD hS ls (lv_sub hl [1] rfl)
      · have h := jf c5 h
        refine lv_aload_n hx hb dX8_advances_47 rfl (lv_at hl 1 rfl) ?_
        refine lv_iconst (v := (0 : Int32)) hx hb dX8_advances_48 (by decide) ?_
        refine va_put (D := D) (ci := 8) (v := .int (0 : Int32)) (ty := .int) (C := RX8) (T := TX8) (N := 24) hx hb hts in_X8_advances_X8 tyX8 tyX8_ok nmX8 hown hK.1 hP hD hS 0 rfl rfl 4 (by decide) (hts _ kw_X8_advances_3) (fun _ h9 => h9) rfl (tyX8_ok 4 (by decide)) rfl rfl (Nat.le_of_ble_eq_true rfl) dX8_advances_49 (fun H locs hP hD hS => ?_)
        have hP : va_P D vwCl (wM cyI cyZ qa (e1.1, va_up (va_up e1.2 3 (0 : Int32)) 4 (e1.2 2))) H := hP
        have hD : va_D A (wM cyI cyZ qa (e1.1, va_up (va_up e1.2 3 (0 : Int32)) 4 (e1.2 2))) := hD
        refine lv_goto (tgt := 249) hx hb dX8_advances_52 (by decide) ?_
        exact W.vret hx hb hr (fun t ht _ => ⟨⟨_, rfl, Option.some.inj h, by rw [ht]; exact hP, hD⟩, hS.F ht⟩) hS.2.2 dX8_advances_249 hlocks
    have hlp1 : ∀ (nn : Nat) (z1 : Mo), jw (X8_advances_s0) nn z1 = some r1 → ∀ (H : Heap) (locs : List Loc), va_P D vwCl (wM cyI cyZ qa z1) H → va_D A (wM cyI cyZ qa z1) → va_S A s.heap H locs → ∀ (ls : Array Slot), lv_has ls 2 [(0, .ref (qa 0))] → W p l e rm_X8_advances s m args below meth c H locs 0 0 (MQ below (jQv D A (fun u : Mo => wM cyI cyZ qa u) o) args s 0 0 A) (F0 m 0 ls []) := by
      refine jw_P (r := r1) (P := fun z1 : Mo => ∀ (H : Heap) (locs : List Loc), va_P D vwCl (wM cyI cyZ qa z1) H → va_D A (wM cyI cyZ qa z1) → va_S A s.heap H locs → ∀ (ls : Array Slot), lv_has ls 2 [(0, .ref (qa 0))] → W p l e rm_X8_advances s m args below meth c H locs 0 0 (MQ below (jQv D A (fun u : Mo => wM cyI cyZ qa u) o) args s 0 0 A) (F0 m 0 ls [])) ?_
      intro z1 x1 h hin hout H locs hP hD hS ls hl
      unfold X8_advances_s0 at h
      refine lv_aload_n hx hb dX8_advances_0 rfl (lv_at hl 0 rfl) ?_
      refine lv_aload_n hx hb dX8_advances_1 rfl (lv_at hl 0 rfl) ?_
      refine va_get (D := D) (ci := 8) (v := .int (z1.2 2)) (C := RX8) (T := TX8) (N := 24) hx hb hts in_X8_advances_X8 hown hK.1 hP 0 rfl rfl 3 (by decide) (hts _ kw_X8_advances_1) (fun _ h9 => h9) rfl dX8_advances_2 ?_
      obtain ⟨z2, hz2, h⟩ := jb h
      refine jki (jrV (As := [.int (z1.2 2)]) (rest := []) ⟨hx, hb, hml, hown, hts⟩ (c_X8_letterAt l D cyI cyZ cyT qa  (z1.2 2) z1 z2 hz2) (cwV 1 hts gX8_advances_X8_letterAt rfl rfl rfl (by decide +kernel) ⟨Nat.le_of_ble_eq_true rfl, Nat.le_of_ble_eq_true rfl⟩) hK hP rfl 8 0 rfl rfl rfl hl.1 (Nat.le_of_ble_eq_true rfl) dX8_advances_5 ⟨Nat.le_of_ble_eq_true rfl, Nat.le_of_ble_eq_true rfl⟩) ?_
      clear hz2
      refine lv_bipush (v := (32 : Int32)) hx hb dX8_advances_8 (by decide) ?_
      refine lv_icmp_ne (tgt := 26) hx hb dX8_advances_10 (by decide) (fun c3 => ?_) (fun c3 => ?_)
      · have h := jf c3 h
        exact hex1 _ (hout _ (Option.some.inj h).symm).symm H locs hP hD hS ls (lv_sub hl [0] rfl)
      · have h := jt c3 h
        refine lv_aload_n hx hb dX8_advances_13 rfl (lv_at hl 0 rfl) ?_
        refine lv_dup hx hb dX8_advances_14 rfl ?_
        refine va_get (D := D) (ci := 8) (v := .int (z1.2 2)) (C := RX8) (T := TX8) (N := 24) hx hb hts in_X8_advances_X8 hown hK.1 hP 0 rfl rfl 3 (by decide) (hts _ kw_X8_advances_1) (fun _ h9 => h9) rfl dX8_advances_15 ?_
        refine lv_iconst (v := (1 : Int32)) hx hb dX8_advances_18 (by decide) ?_
        refine lv_iadd hx hb dX8_advances_19 ?_
        refine va_put (D := D) (ci := 8) (v := .int ((z1.2 2) + (1 : Int32))) (ty := .int) (C := RX8) (T := TX8) (N := 24) hx hb hts in_X8_advances_X8 tyX8 tyX8_ok nmX8 hown hK.1 hP hD hS 0 rfl rfl 3 (by decide) (hts _ kw_X8_advances_1) (fun _ h9 => h9) rfl (tyX8_ok 3 (by decide)) rfl rfl (Nat.le_of_ble_eq_true rfl) dX8_advances_20 (fun H locs hP hD hS => ?_)
        have hP : va_P D vwCl (wM cyI cyZ qa (z1.1, va_up z1.2 2 ((z1.2 2) + (1 : Int32)))) H := hP
        have hD : va_D A (wM cyI cyZ qa (z1.1, va_up z1.2 2 ((z1.2 2) + (1 : Int32)))) := hD
        refine lv_goto (tgt := 0) hx hb dX8_advances_23 (by decide) ?_
        exact hin _ (Option.some.inj h).symm H locs hP hD hS ls (lv_sub hl [0] rfl)
    exact hlp1 _ _ hz1 H locs hP hD hS ls (lv_sub hl [0] rfl)
  exact key s.heap [] hP hD hS
abbrev rm_X8_dangerBy : Room := { frames := 0, cells := 0, slots := 0, locals := 0 }
set_option maxHeartbeats 4000000 in
set_option maxRecDepth 100000 in
theorem c_X8_dangerBy (l : Launch) (D : va_G) (cyI cyZ cyT : ClassId) (a0 : Int32) (a1 : Int32) (a2 : Int32) (o : Int32) (hf : f_X8_dangerBy a0 a1 a2 = some o) : Met l yX8_dangerBy wsX8_dangerBy rm_X8_dangerBy (va_Pc [.int a0, .int a1, .int a2] (jB D cyI cyZ cyT ([]))) (jSi o) 0 0 (fun _ => False) := by
  refine Met.ofW (cc := cX8_dangerBy) (maxL := 4) (ret := (some .int)) (by decide) rfl ?_
  intro p e s m args below meth c s₁ B hml hv
  obtain ⟨rfl, hP, hK⟩ := hv
  have hx := B.exec
  have hb := B.bytes
  have hr := B.returns
  have hts := atoms_spec (ws := wsX8_dangerBy) B.pre
  have hown : s.vm.findClass RX8 = some m.cls := findClass_of_methodNamed B.named
  have hlocks := B.notSynchronized
  have hl := lv_entry ([.int a0, .int a1, .int a2]) (n := 4) (Nat.le_of_ble_eq_true rfl)
  rw [lg_entry_eq]
  generalize (lg_sl ([.int a0, .int a1, .int a2]) ++ List.replicate (4 - (lg_sl ([.int a0, .int a1, .int a2])).length) Slot.unset).toArray = ls at hl ⊢
  have hl : lv_has ls 4 [(0, .int a0), (1, .int a1), (2, .int a2)] := hl
  clear B
  generalize ([.int a0, .int a1, .int a2] : List Value).toArray = args at hts ⊢
  have key : ∀ (H : Heap), va_P D vwCl ([]) H → H = s.heap → W p l e rm_X8_dangerBy s m args below meth c H [] 0 0 (MQ below (jSi o) args s 0 0 (fun _ => False)) (F0 m 0 ls []) := by
    intro H hP hH
    have h := hf
    unfold f_X8_dangerBy at h
    refine lv_iload_n hx hb dX8_dangerBy_0 rfl (lv_at hl 0 rfl) ?_
    refine lv_iconst (v := (2 : Int32)) hx hb dX8_dangerBy_1 (by decide) ?_
    refine lv_icmp_ne (tgt := 13) hx hb dX8_dangerBy_2 (by decide) (fun c1 => ?_) (fun c1 => ?_)
    · have h := jf c1 h
      refine lv_iload_n hx hb dX8_dangerBy_13 rfl (lv_at hl 2 rfl) ?_
      refine lv_iload_n hx hb dX8_dangerBy_14 rfl (lv_at hl 1 rfl) ?_
      refine lv_isub hx hb dX8_dangerBy_15 ?_
      refine lv_istore_n (lv' := [(3, .int (a2 - a1)), (0, .int a0), (1, .int a1), (2, .int a2)]) hx hb dX8_dangerBy_16 rfl hl (by decide) rfl (fun ls hl => ?_)
      refine lv_iload_n hx hb dX8_dangerBy_17 rfl (lv_at hl 0 rfl) ?_
      obtain ⟨z2, hz2, h⟩ := jb h
      have hk2 : ∀ (ls : Array Slot), lv_has ls 4 [(0, .int a0)] → W p l e rm_X8_dangerBy s m args below meth c H [] 0 0 (MQ below (jSi o) args s 0 0 (fun _ => False)) (F0 m 37 ls [.int z2]) := by
        intro ls hl
        refine lv_istore_n (lv' := [(3, .int z2), (0, .int a0)]) hx hb dX8_dangerBy_37 rfl hl (by decide) rfl (fun ls hl => ?_)
        refine lv_iload_n hx hb dX8_dangerBy_38 rfl (lv_at hl 1 rfl) ?_
        refine lv_iconst (v := (1 : Int32)) hx hb dX8_dangerBy_39 (by decide) ?_
        obtain ⟨z5, hz5, h⟩ := jb h
        have hk5 : ∀ (ls : Array Slot), lv_has ls 4 [] → W p l e rm_X8_dangerBy s m args below meth c H [] 0 0 (MQ below (jSi o) args s 0 0 (fun _ => False)) (F0 m 65 ls [.int z5]) := by
          intro ls hl
          refine lv_istore_n (lv' := [(3, .int z5)]) hx hb dX8_dangerBy_65 rfl hl (by decide) rfl (fun ls hl => ?_)
          refine lv_iload_n hx hb dX8_dangerBy_66 rfl (lv_at hl 0 rfl) ?_
          refine lv_if_ge (tgt := 74) hx hb dX8_dangerBy_67 (by decide) (fun c10 => ?_) (fun c10 => ?_)
          · have h := jt c10 h
            refine lv_iload_n hx hb dX8_dangerBy_74 rfl (lv_at hl 0 rfl) ?_
            refine lv_bipush (v := (10 : Int32)) hx hb dX8_dangerBy_75 (by decide) ?_
            refine lv_icmp_le (tgt := 85) hx hb dX8_dangerBy_77 (by decide) (fun c11 => ?_) (fun c11 => ?_)
            · have h := jt c11 h
              refine lv_iload_n hx hb dX8_dangerBy_85 rfl (lv_at hl 0 rfl) ?_
              exact W.iret hx hb hr (fun t ht _ => ⟨_, rfl, Option.some.inj h, ht.trans hH⟩) (fun q h => by cases h) dX8_dangerBy_86 hlocks
            · have h := jf c11 h
              refine lv_bipush (v := (10 : Int32)) hx hb dX8_dangerBy_80 (by decide) ?_
              refine lv_goto (tgt := 86) hx hb dX8_dangerBy_82 (by decide) ?_
              exact W.iret hx hb hr (fun t ht _ => ⟨_, rfl, Option.some.inj h, ht.trans hH⟩) (fun q h => by cases h) dX8_dangerBy_86 hlocks
          · have h := jf c10 h
            refine lv_iconst (v := (0 : Int32)) hx hb dX8_dangerBy_70 (by decide) ?_
            refine lv_goto (tgt := 86) hx hb dX8_dangerBy_71 (by decide) ?_
            exact W.iret hx hb hr (fun t ht _ => ⟨_, rfl, Option.some.inj h, ht.trans hH⟩) (fun q h => by cases h) dX8_dangerBy_86 hlocks
        clear h
        have h := hz5
        clear hz5
        refine lv_icmp_ne (tgt := 53) hx hb dX8_dangerBy_40 (by decide) (fun c6 => ?_) (fun c6 => ?_)
        · have h := jf c6 h
          refine lv_iload_n hx hb dX8_dangerBy_53 rfl (lv_at hl 1 rfl) ?_
          refine lv_iconst (v := (3 : Int32)) hx hb dX8_dangerBy_54 (by decide) ?_
          refine lv_icmp_ne (tgt := 64) hx hb dX8_dangerBy_55 (by decide) (fun c7 => ?_) (fun c7 => ?_)
          · have h := jf c7 h
            refine lv_iload_n hx hb dX8_dangerBy_64 rfl (lv_at hl 0 rfl) ?_
            obtain rfl := Option.some.inj h
            exact hk5 ls (lv_sub hl [] rfl)
          · have h := jt c7 h
            refine lv_iload_n hx hb dX8_dangerBy_58 rfl (lv_at hl 0 rfl) ?_
            refine lv_iconst (v := (1 : Int32)) hx hb dX8_dangerBy_59 (by decide) ?_
            refine lv_isub hx hb dX8_dangerBy_60 ?_
            refine lv_goto (tgt := 65) hx hb dX8_dangerBy_61 (by decide) ?_
            obtain rfl := Option.some.inj h
            exact hk5 ls (lv_sub hl [] rfl)
        · have h := jt c6 h
          refine lv_iload_n hx hb dX8_dangerBy_43 rfl (lv_at hl 0 rfl) ?_
          refine lv_if_le (tgt := 53) hx hb dX8_dangerBy_44 (by decide) (fun c8 => ?_) (fun c8 => ?_)
          · have h := jt c8 h
            refine lv_iload_n hx hb dX8_dangerBy_53 rfl (lv_at hl 1 rfl) ?_
            refine lv_iconst (v := (3 : Int32)) hx hb dX8_dangerBy_54 (by decide) ?_
            refine lv_icmp_ne (tgt := 64) hx hb dX8_dangerBy_55 (by decide) (fun c9 => ?_) (fun c9 => ?_)
            · have h := jf c9 h
              refine lv_iload_n hx hb dX8_dangerBy_64 rfl (lv_at hl 0 rfl) ?_
              obtain rfl := Option.some.inj h
              exact hk5 ls (lv_sub hl [] rfl)
            · have h := jt c9 h
              refine lv_iload_n hx hb dX8_dangerBy_58 rfl (lv_at hl 0 rfl) ?_
              refine lv_iconst (v := (1 : Int32)) hx hb dX8_dangerBy_59 (by decide) ?_
              refine lv_isub hx hb dX8_dangerBy_60 ?_
              refine lv_goto (tgt := 65) hx hb dX8_dangerBy_61 (by decide) ?_
              obtain rfl := Option.some.inj h
              exact hk5 ls (lv_sub hl [] rfl)
          · have h := jf c8 h
            refine lv_iload_n hx hb dX8_dangerBy_47 rfl (lv_at hl 0 rfl) ?_
            refine lv_iconst (v := (2 : Int32)) hx hb dX8_dangerBy_48 (by decide) ?_
            refine lv_iadd hx hb dX8_dangerBy_49 ?_
            refine lv_goto (tgt := 65) hx hb dX8_dangerBy_50 (by decide) ?_
            obtain rfl := Option.some.inj h
            exact hk5 ls (lv_sub hl [] rfl)
      clear h
      have h := hz2
      clear hz2
      refine lv_if_ge (tgt := 25) hx hb dX8_dangerBy_18 (by decide) (fun c3 => ?_) (fun c3 => ?_)
      · have h := jt c3 h
        refine lv_iload_n hx hb dX8_dangerBy_25 rfl (lv_at hl 0 rfl) ?_
        refine lv_bipush (v := (10 : Int32)) hx hb dX8_dangerBy_26 (by decide) ?_
        refine lv_icmp_le (tgt := 36) hx hb dX8_dangerBy_28 (by decide) (fun c4 => ?_) (fun c4 => ?_)
        · have h := jt c4 h
          refine lv_iload_n hx hb dX8_dangerBy_36 rfl (lv_at hl 0 rfl) ?_
          obtain rfl := Option.some.inj h
          exact hk2 ls (lv_sub hl [1] rfl)
        · have h := jf c4 h
          refine lv_bipush (v := (10 : Int32)) hx hb dX8_dangerBy_31 (by decide) ?_
          refine lv_goto (tgt := 37) hx hb dX8_dangerBy_33 (by decide) ?_
          obtain rfl := Option.some.inj h
          exact hk2 ls (lv_sub hl [1] rfl)
      · have h := jf c3 h
        refine lv_iconst (v := (0 : Int32)) hx hb dX8_dangerBy_21 (by decide) ?_
        refine lv_goto (tgt := 37) hx hb dX8_dangerBy_22 (by decide) ?_
        obtain rfl := Option.some.inj h
        exact hk2 ls (lv_sub hl [1] rfl)
    · have h := jt c1 h
      refine lv_iload_n hx hb dX8_dangerBy_5 rfl (lv_at hl 2 rfl) ?_
      refine lv_iconst (v := (5 : Int32)) hx hb dX8_dangerBy_6 (by decide) ?_
      refine lv_icmp_le (tgt := 13) hx hb dX8_dangerBy_7 (by decide) (fun c12 => ?_) (fun c12 => ?_)
      · have h := jt c12 h
        refine lv_iload_n hx hb dX8_dangerBy_13 rfl (lv_at hl 2 rfl) ?_
        refine lv_iload_n hx hb dX8_dangerBy_14 rfl (lv_at hl 1 rfl) ?_
        refine lv_isub hx hb dX8_dangerBy_15 ?_
        refine lv_istore_n (lv' := [(3, .int (a2 - a1)), (0, .int a0), (1, .int a1), (2, .int a2)]) hx hb dX8_dangerBy_16 rfl hl (by decide) rfl (fun ls hl => ?_)
        refine lv_iload_n hx hb dX8_dangerBy_17 rfl (lv_at hl 0 rfl) ?_
        obtain ⟨z13, hz13, h⟩ := jb h
        have hk13 : ∀ (ls : Array Slot), lv_has ls 4 [(0, .int a0)] → W p l e rm_X8_dangerBy s m args below meth c H [] 0 0 (MQ below (jSi o) args s 0 0 (fun _ => False)) (F0 m 37 ls [.int z13]) := by
          intro ls hl
          refine lv_istore_n (lv' := [(3, .int z13), (0, .int a0)]) hx hb dX8_dangerBy_37 rfl hl (by decide) rfl (fun ls hl => ?_)
          refine lv_iload_n hx hb dX8_dangerBy_38 rfl (lv_at hl 1 rfl) ?_
          refine lv_iconst (v := (1 : Int32)) hx hb dX8_dangerBy_39 (by decide) ?_
          obtain ⟨z16, hz16, h⟩ := jb h
          have hk16 : ∀ (ls : Array Slot), lv_has ls 4 [] → W p l e rm_X8_dangerBy s m args below meth c H [] 0 0 (MQ below (jSi o) args s 0 0 (fun _ => False)) (F0 m 65 ls [.int z16]) := by
            intro ls hl
            refine lv_istore_n (lv' := [(3, .int z16)]) hx hb dX8_dangerBy_65 rfl hl (by decide) rfl (fun ls hl => ?_)
            refine lv_iload_n hx hb dX8_dangerBy_66 rfl (lv_at hl 0 rfl) ?_
            refine lv_if_ge (tgt := 74) hx hb dX8_dangerBy_67 (by decide) (fun c21 => ?_) (fun c21 => ?_)
            · have h := jt c21 h
              refine lv_iload_n hx hb dX8_dangerBy_74 rfl (lv_at hl 0 rfl) ?_
              refine lv_bipush (v := (10 : Int32)) hx hb dX8_dangerBy_75 (by decide) ?_
              refine lv_icmp_le (tgt := 85) hx hb dX8_dangerBy_77 (by decide) (fun c22 => ?_) (fun c22 => ?_)
              · have h := jt c22 h
                refine lv_iload_n hx hb dX8_dangerBy_85 rfl (lv_at hl 0 rfl) ?_
                exact W.iret hx hb hr (fun t ht _ => ⟨_, rfl, Option.some.inj h, ht.trans hH⟩) (fun q h => by cases h) dX8_dangerBy_86 hlocks
              · have h := jf c22 h
                refine lv_bipush (v := (10 : Int32)) hx hb dX8_dangerBy_80 (by decide) ?_
                refine lv_goto (tgt := 86) hx hb dX8_dangerBy_82 (by decide) ?_
                exact W.iret hx hb hr (fun t ht _ => ⟨_, rfl, Option.some.inj h, ht.trans hH⟩) (fun q h => by cases h) dX8_dangerBy_86 hlocks
            · have h := jf c21 h
              refine lv_iconst (v := (0 : Int32)) hx hb dX8_dangerBy_70 (by decide) ?_
              refine lv_goto (tgt := 86) hx hb dX8_dangerBy_71 (by decide) ?_
              exact W.iret hx hb hr (fun t ht _ => ⟨_, rfl, Option.some.inj h, ht.trans hH⟩) (fun q h => by cases h) dX8_dangerBy_86 hlocks
          clear h
          have h := hz16
          clear hz16
          refine lv_icmp_ne (tgt := 53) hx hb dX8_dangerBy_40 (by decide) (fun c17 => ?_) (fun c17 => ?_)
          · have h := jf c17 h
            refine lv_iload_n hx hb dX8_dangerBy_53 rfl (lv_at hl 1 rfl) ?_
            refine lv_iconst (v := (3 : Int32)) hx hb dX8_dangerBy_54 (by decide) ?_
            refine lv_icmp_ne (tgt := 64) hx hb dX8_dangerBy_55 (by decide) (fun c18 => ?_) (fun c18 => ?_)
            · have h := jf c18 h
              refine lv_iload_n hx hb dX8_dangerBy_64 rfl (lv_at hl 0 rfl) ?_
              obtain rfl := Option.some.inj h
              exact hk16 ls (lv_sub hl [] rfl)
            · have h := jt c18 h
              refine lv_iload_n hx hb dX8_dangerBy_58 rfl (lv_at hl 0 rfl) ?_
              refine lv_iconst (v := (1 : Int32)) hx hb dX8_dangerBy_59 (by decide) ?_
              refine lv_isub hx hb dX8_dangerBy_60 ?_
              refine lv_goto (tgt := 65) hx hb dX8_dangerBy_61 (by decide) ?_
              obtain rfl := Option.some.inj h
              exact hk16 ls (lv_sub hl [] rfl)
          · have h := jt c17 h
            refine lv_iload_n hx hb dX8_dangerBy_43 rfl (lv_at hl 0 rfl) ?_
            refine lv_if_le (tgt := 53) hx hb dX8_dangerBy_44 (by decide) (fun c19 => ?_) (fun c19 => ?_)
            · have h := jt c19 h
              refine lv_iload_n hx hb dX8_dangerBy_53 rfl (lv_at hl 1 rfl) ?_
              refine lv_iconst (v := (3 : Int32)) hx hb dX8_dangerBy_54 (by decide) ?_
              refine lv_icmp_ne (tgt := 64) hx hb dX8_dangerBy_55 (by decide) (fun c20 => ?_) (fun c20 => ?_)
              · have h := jf c20 h
                refine lv_iload_n hx hb dX8_dangerBy_64 rfl (lv_at hl 0 rfl) ?_
                obtain rfl := Option.some.inj h
                exact hk16 ls (lv_sub hl [] rfl)
              · have h := jt c20 h
                refine lv_iload_n hx hb dX8_dangerBy_58 rfl (lv_at hl 0 rfl) ?_
                refine lv_iconst (v := (1 : Int32)) hx hb dX8_dangerBy_59 (by decide) ?_
                refine lv_isub hx hb dX8_dangerBy_60 ?_
                refine lv_goto (tgt := 65) hx hb dX8_dangerBy_61 (by decide) ?_
                obtain rfl := Option.some.inj h
                exact hk16 ls (lv_sub hl [] rfl)
            · have h := jf c19 h
              refine lv_iload_n hx hb dX8_dangerBy_47 rfl (lv_at hl 0 rfl) ?_
              refine lv_iconst (v := (2 : Int32)) hx hb dX8_dangerBy_48 (by decide) ?_
              refine lv_iadd hx hb dX8_dangerBy_49 ?_
              refine lv_goto (tgt := 65) hx hb dX8_dangerBy_50 (by decide) ?_
              obtain rfl := Option.some.inj h
              exact hk16 ls (lv_sub hl [] rfl)
        clear h
        have h := hz13
        clear hz13
        refine lv_if_ge (tgt := 25) hx hb dX8_dangerBy_18 (by decide) (fun c14 => ?_) (fun c14 => ?_)
        · have h := jt c14 h
          refine lv_iload_n hx hb dX8_dangerBy_25 rfl (lv_at hl 0 rfl) ?_
          refine lv_bipush (v := (10 : Int32)) hx hb dX8_dangerBy_26 (by decide) ?_
          refine lv_icmp_le (tgt := 36) hx hb dX8_dangerBy_28 (by decide) (fun c15 => ?_) (fun c15 => ?_)
          · have h := jt c15 h
            refine lv_iload_n hx hb dX8_dangerBy_36 rfl (lv_at hl 0 rfl) ?_
            obtain rfl := Option.some.inj h
            exact hk13 ls (lv_sub hl [1] rfl)
          · have h := jf c15 h
            refine lv_bipush (v := (10 : Int32)) hx hb dX8_dangerBy_31 (by decide) ?_
            refine lv_goto (tgt := 37) hx hb dX8_dangerBy_33 (by decide) ?_
            obtain rfl := Option.some.inj h
            exact hk13 ls (lv_sub hl [1] rfl)
        · have h := jf c14 h
          refine lv_iconst (v := (0 : Int32)) hx hb dX8_dangerBy_21 (by decide) ?_
          refine lv_goto (tgt := 37) hx hb dX8_dangerBy_22 (by decide) ?_
          obtain rfl := Option.some.inj h
          exact hk13 ls (lv_sub hl [1] rfl)
      · have h := jf c12 h
        refine lv_bipush (v := (10 : Int32)) hx hb dX8_dangerBy_10 (by decide) ?_
        exact W.iret hx hb hr (fun t ht _ => ⟨_, rfl, Option.some.inj h, ht.trans hH⟩) (fun q h => by cases h) dX8_dangerBy_12 hlocks
  exact key s.heap hP rfl
theorem kw_X8_dangerTo_1 : (.fieldLink RX8 13 "BellTheCatModel" "mice" "[I" : Cond) ∈ wsX8_dangerTo := List.mem_of_getElem? (i := 1) rfl
theorem kw_X8_dangerTo_2 : (.fieldLink RX8 16 "BellTheCatModel" "noise" "[I" : Cond) ∈ wsX8_dangerTo := List.mem_of_getElem? (i := 2) rfl
theorem in_X8_dangerTo_X8 : ∀ w ∈ wsX80, w ∈ wsX8_dangerTo := fun w h => List.mem_cons_of_mem _ (List.mem_append_right _ h)
abbrev rm_X8_dangerTo : Room := { frames := 1, cells := 0, slots := 0, locals := 23 }
set_option maxHeartbeats 4000000 in
set_option maxRecDepth 100000 in
theorem c_X8_dangerTo (l : Launch) (D : va_G) (cyI cyZ cyT : ClassId) (qa : Nat → Nat) (a1 : Int32) (a2 : Int32) (M : Mo) (o : Int32) (hf : f_X8_dangerTo a1 a2 M = some o) : Met l yX8_dangerTo wsX8_dangerTo rm_X8_dangerTo (va_Pc [.ref (qa 0), .int a1, .int a2] (jB D cyI cyZ cyT (wM cyI cyZ qa M))) (jSi o) 0 0 (fun _ => False) := by
  refine Met.ofW (cc := cX8_dangerTo) (maxL := 3) (ret := (some .int)) (by decide) rfl ?_
  intro p e s m args below meth c s₁ B hml hv
  obtain ⟨rfl, hP, hK⟩ := hv
  have hx := B.exec
  have hb := B.bytes
  have hr := B.returns
  have hts := atoms_spec (ws := wsX8_dangerTo) B.pre
  have hown : s.vm.findClass RX8 = some m.cls := findClass_of_methodNamed B.named
  have hlocks := B.notSynchronized
  have hl := lv_entry ([.ref (qa 0), .int a1, .int a2]) (n := 3) (Nat.le_of_ble_eq_true rfl)
  rw [lg_entry_eq]
  generalize (lg_sl ([.ref (qa 0), .int a1, .int a2]) ++ List.replicate (3 - (lg_sl ([.ref (qa 0), .int a1, .int a2])).length) Slot.unset).toArray = ls at hl ⊢
  have hl : lv_has ls 3 [(0, .ref (qa 0)), (1, .int a1), (2, .int a2)] := hl
  clear B
  generalize ([.ref (qa 0), .int a1, .int a2] : List Value).toArray = args at hts ⊢
  have key : ∀ (H : Heap), va_P D vwCl (wM cyI cyZ qa M) H → H = s.heap → W p l e rm_X8_dangerTo s m args below meth c H [] 0 0 (MQ below (jSi o) args s 0 0 (fun _ => False)) (F0 m 0 ls []) := by
    intro H hP hH
    have h := hf
    unfold f_X8_dangerTo at h
    refine lv_aload_n hx hb dX8_dangerTo_0 rfl (lv_at hl 0 rfl) ?_
    refine va_get (D := D) (ci := 8) (v := .ref (qa 2)) (C := RX8) (T := TX8) (N := 24) hx hb hts in_X8_dangerTo_X8 hown hK.1 hP 0 rfl rfl 10 (by decide) (hts _ kw_X8_dangerTo_1) (fun _ h9 => h9) rfl dX8_dangerTo_1 ?_
    refine lv_iconst (v := (4 : Int32)) hx hb dX8_dangerTo_4 (by decide) ?_
    refine lv_iload_n hx hb dX8_dangerTo_5 rfl (lv_at hl 2 rfl) ?_
    refine lv_imul hx hb dX8_dangerTo_6 ?_
    obtain ⟨g1, h⟩ := jn h
    refine jald hx hb hK hP 2 rfl _ rfl g1 dX8_dangerTo_7 ?_
    refine lv_aload_n hx hb dX8_dangerTo_8 rfl (lv_at hl 0 rfl) ?_
    refine va_get (D := D) (ci := 8) (v := .ref (qa 2)) (C := RX8) (T := TX8) (N := 24) hx hb hts in_X8_dangerTo_X8 hown hK.1 hP 0 rfl rfl 10 (by decide) (hts _ kw_X8_dangerTo_1) (fun _ h9 => h9) rfl dX8_dangerTo_9 ?_
    refine lv_iconst (v := (4 : Int32)) hx hb dX8_dangerTo_12 (by decide) ?_
    refine lv_iload_n hx hb dX8_dangerTo_13 rfl (lv_at hl 2 rfl) ?_
    refine lv_imul hx hb dX8_dangerTo_14 ?_
    refine lv_iconst (v := (1 : Int32)) hx hb dX8_dangerTo_15 (by decide) ?_
    refine lv_iadd hx hb dX8_dangerTo_16 ?_
    obtain ⟨g2, h⟩ := jn h
    refine jald hx hb hK hP 2 rfl _ rfl g2 dX8_dangerTo_17 ?_
    refine lv_aload_n hx hb dX8_dangerTo_18 rfl (lv_at hl 0 rfl) ?_
    refine va_get (D := D) (ci := 8) (v := .ref (qa 3)) (C := RX8) (T := TX8) (N := 24) hx hb hts in_X8_dangerTo_X8 hown hK.1 hP 0 rfl rfl 11 (by decide) (hts _ kw_X8_dangerTo_2) (fun _ h9 => h9) rfl dX8_dangerTo_19 ?_
    refine lv_iload_n hx hb dX8_dangerTo_22 rfl (lv_at hl 1 rfl) ?_
    obtain ⟨g3, h⟩ := jn h
    refine jald hx hb hK hP 3 rfl _ rfl g3 dX8_dangerTo_23 ?_
    obtain ⟨z4, hz4, h⟩ := jb h
    refine jki (jrS (As := [.int (M.1 1 ((4 : Int32) * a2).toNatClampNeg), .int (M.1 1 (((4 : Int32) * a2) + (1 : Int32)).toNatClampNeg), .int (M.1 2 a1.toNatClampNeg)]) (rest := []) ⟨hx, hb, hml, hown, hts⟩ (c_X8_dangerBy l D cyI cyZ cyT   (M.1 1 ((4 : Int32) * a2).toNatClampNeg) (M.1 1 (((4 : Int32) * a2) + (1 : Int32)).toNatClampNeg) (M.1 2 a1.toNatClampNeg) z4 hz4) (va_cwS 3 hts gX8_dangerTo_X8_dangerBy rfl rfl rfl (by decide +kernel) ⟨Nat.le_of_ble_eq_true rfl, Nat.le_of_ble_eq_true rfl⟩) hK jP0 rfl rfl hl.1 (Nat.le_of_ble_eq_true rfl) dX8_dangerTo_24 ⟨Nat.le_of_ble_eq_true rfl, Nat.le_of_ble_eq_true rfl⟩) ?_
    clear hz4
    exact W.iret hx hb hr (fun t ht _ => ⟨_, rfl, Option.some.inj h, ht.trans hH⟩) (fun q h => by cases h) dX8_dangerTo_27 hlocks
  exact key s.heap hP rfl
abbrev rm_X8_power : Room := { frames := 0, cells := 0, slots := 0, locals := 0 }
set_option maxHeartbeats 4000000 in
set_option maxRecDepth 100000 in
theorem c_X8_power (l : Launch) (D : va_G) (cyI cyZ cyT : ClassId) (N : Nat) (a0 : Int64) (a2 : Int32) (o : Int64) (hf : f_X8_power N a0 a2 = some o) : Met l yX8_power wsX8_power rm_X8_power (va_Pc [.long a0, .int a2] (jB D cyI cyZ cyT ([]))) (jSl o) 0 0 (fun _ => False) := by
  refine Met.ofW (cc := cX8_power) (maxL := 6) (ret := (some .long)) (by decide) rfl ?_
  intro p e s m args below meth c s₁ B hml hv
  obtain ⟨rfl, hP, hK⟩ := hv
  have hx := B.exec
  have hb := B.bytes
  have hr := B.returns
  have hts := atoms_spec (ws := wsX8_power) B.pre
  have hown : s.vm.findClass RX8 = some m.cls := findClass_of_methodNamed B.named
  have hlocks := B.notSynchronized
  have hl := lv_entry ([.long a0, .int a2]) (n := 6) (Nat.le_of_ble_eq_true rfl)
  rw [lg_entry_eq]
  generalize (lg_sl ([.long a0, .int a2]) ++ List.replicate (6 - (lg_sl ([.long a0, .int a2])).length) Slot.unset).toArray = ls at hl ⊢
  have hl : lv_has ls 6 [(0, .long a0), (2, .int a2)] := hl
  clear B
  generalize ([.long a0, .int a2] : List Value).toArray = args at hts ⊢
  have key : ∀ (H : Heap), va_P D vwCl ([]) H → H = s.heap → W p l e rm_X8_power s m args below meth c H [] 0 0 (MQ below (jSl o) args s 0 0 (fun _ => False)) (F0 m 0 ls []) := by
    intro H hP hH
    have h := hf
    unfold f_X8_power at h
    refine lv_lconst (v := (1 : Int64)) hx hb dX8_power_0 (by decide) ?_
    refine lv_lstore_n (lv' := [(3, .long (1 : Int64)), (0, .long a0), (2, .int a2)]) hx hb dX8_power_1 rfl hl (by decide) rfl (fun ls hl => ?_)
    refine lv_iconst (v := (0 : Int32)) hx hb dX8_power_2 (by decide) ?_
    refine lv_istore (lv' := [(5, .int (0 : Int32)), (3, .long (1 : Int64)), (0, .long a0), (2, .int a2)]) hx hb dX8_power_3 hl (by decide) rfl (fun ls hl => ?_)
    obtain ⟨r1, hz1, h1_⟩ := jb h
    have hex1 : ∀ e1 : Int64, r1 = e1 → ∀ (ls : Array Slot), lv_has ls 6 [(3, .long e1)] → W p l e rm_X8_power s m args below meth c H [] 0 0 (MQ below (jSl o) args s 0 0 (fun _ => False)) (F0 m 21 ls []) := by
      intro e1 he ls hl
      rw [he] at h1_
      have h := h1_
      clear hz1
      refine lv_lload_n hx hb dX8_power_21 rfl (lv_at hl 0 rfl) ?_
      exact W.lret hx hb hr (fun t ht _ => ⟨_, rfl, Option.some.inj h, ht.trans hH⟩) (fun q h => by cases h) dX8_power_22 hlocks
    have hlp1 : ∀ (nn : Nat) (z1 : (Int64 × Int32)), jw (X8_power_s5 a0 a2) nn z1 = some r1 → ∀ (ls : Array Slot), lv_has ls 6 [(0, .long a0), (2, .int a2), (3, .long z1.1), (5, .int z1.2)] → W p l e rm_X8_power s m args below meth c H [] 0 0 (MQ below (jSl o) args s 0 0 (fun _ => False)) (F0 m 5 ls []) := by
      refine jw_P (r := r1) (P := fun z1 : (Int64 × Int32) => ∀ (ls : Array Slot), lv_has ls 6 [(0, .long a0), (2, .int a2), (3, .long z1.1), (5, .int z1.2)] → W p l e rm_X8_power s m args below meth c H [] 0 0 (MQ below (jSl o) args s 0 0 (fun _ => False)) (F0 m 5 ls [])) ?_
      intro z1 x1 h hin hout ls hl
      unfold X8_power_s5 at h
      refine lv_iload hx hb dX8_power_5 (lv_at hl 3 rfl) ?_
      refine lv_iload_n hx hb dX8_power_7 rfl (lv_at hl 1 rfl) ?_
      refine lv_icmp_ge (tgt := 21) hx hb dX8_power_8 (by decide) (fun c2 => ?_) (fun c2 => ?_)
      · have h := jt c2 h
        exact hex1 _ (hout _ (Option.some.inj h).symm).symm ls (lv_sub hl [2] rfl)
      · have h := jf c2 h
        refine lv_lload_n hx hb dX8_power_11 rfl (lv_at hl 2 rfl) ?_
        refine lv_lload_n hx hb dX8_power_12 rfl (lv_at hl 0 rfl) ?_
        refine lv_lmul hx hb dX8_power_13 ?_
        refine lv_lstore_n (lv' := [(3, .long (z1.1 * a0)), (0, .long a0), (2, .int a2), (5, .int z1.2)]) hx hb dX8_power_14 rfl hl (by decide) rfl (fun ls hl => ?_)
        refine lv_iinc (v := z1.2 + (1 : Int32)) (lv' := [(5, .int (z1.2 + (1 : Int32))), (3, .long (z1.1 * a0)), (0, .long a0), (2, .int a2)]) hx hb dX8_power_15 hl (k := 3) rfl rfl (by decide) rfl (fun ls hl => ?_)
        refine lv_goto (tgt := 5) hx hb dX8_power_18 (by decide) ?_
        exact hin _ (Option.some.inj h).symm ls (lv_sub hl [2, 3, 1, 0] rfl)
    exact hlp1 _ _ hz1 ls (lv_sub hl [2, 3, 1, 0] rfl)
  exact key s.heap hP rfl
theorem kw_X8_caughtAlone_1 : (.fieldLink RX8 22 "BellTheCatModel" "many" "[I" : Cond) ∈ wsX8_caughtAlone := List.mem_of_getElem? (i := 1) rfl
theorem kw_X8_caughtAlone_2 : (.constantLong RX8 175 (10) : Cond) ∈ wsX8_caughtAlone := List.mem_of_getElem? (i := 2) rfl
theorem in_X8_caughtAlone_X8 : ∀ w ∈ wsX80, w ∈ wsX8_caughtAlone := fun w h => List.mem_cons_of_mem _ (List.mem_append_right _ h)
abbrev rm_X8_caughtAlone : Room := { frames := 2, cells := 0, slots := 0, locals := 45 }
set_option maxHeartbeats 4000000 in
set_option maxRecDepth 100000 in
theorem c_X8_caughtAlone (l : Launch) (D : va_G) (cyI cyZ cyT : ClassId) (qa : Nat → Nat) (N : Nat) (a1 : Int32) (M : Mo) (o : Int64) (hf : f_X8_caughtAlone N a1 M = some o) : Met l yX8_caughtAlone wsX8_caughtAlone rm_X8_caughtAlone (va_Pc [.ref (qa 0), .int a1] (jB D cyI cyZ cyT (wM cyI cyZ qa M))) (jSl o) 0 0 (fun _ => False) := by
  refine Met.ofW (cc := cX8_caughtAlone) (maxL := 5) (ret := (some .long)) (by decide) rfl ?_
  intro p e s m args below meth c s₁ B hml hv
  obtain ⟨rfl, hP, hK⟩ := hv
  have hx := B.exec
  have hb := B.bytes
  have hr := B.returns
  have hts := atoms_spec (ws := wsX8_caughtAlone) B.pre
  have hown : s.vm.findClass RX8 = some m.cls := findClass_of_methodNamed B.named
  have hlocks := B.notSynchronized
  have hl := lv_entry ([.ref (qa 0), .int a1]) (n := 5) (Nat.le_of_ble_eq_true rfl)
  rw [lg_entry_eq]
  generalize (lg_sl ([.ref (qa 0), .int a1]) ++ List.replicate (5 - (lg_sl ([.ref (qa 0), .int a1])).length) Slot.unset).toArray = ls at hl ⊢
  have hl : lv_has ls 5 [(0, .ref (qa 0)), (1, .int a1)] := hl
  clear B
  generalize ([.ref (qa 0), .int a1] : List Value).toArray = args at hts ⊢
  have key : ∀ (H : Heap), va_P D vwCl (wM cyI cyZ qa M) H → H = s.heap → W p l e rm_X8_caughtAlone s m args below meth c H [] 0 0 (MQ below (jSl o) args s 0 0 (fun _ => False)) (F0 m 0 ls []) := by
    intro H hP hH
    have h := hf
    unfold f_X8_caughtAlone at h
    refine lv_lconst (v := (1 : Int64)) hx hb dX8_caughtAlone_0 (by decide) ?_
    refine lv_lstore_n (lv' := [(2, .long (1 : Int64)), (0, .ref (qa 0)), (1, .int a1)]) hx hb dX8_caughtAlone_1 rfl hl (by decide) rfl (fun ls hl => ?_)
    refine lv_iconst (v := (0 : Int32)) hx hb dX8_caughtAlone_2 (by decide) ?_
    refine lv_istore (lv' := [(4, .int (0 : Int32)), (2, .long (1 : Int64)), (0, .ref (qa 0)), (1, .int a1)]) hx hb dX8_caughtAlone_3 hl (by decide) rfl (fun ls hl => ?_)
    obtain ⟨r1, hz1, h1_⟩ := jb h
    have hex1 : ∀ e1 : Int64, r1 = e1 → ∀ (ls : Array Slot), lv_has ls 5 [(0, .ref (qa 0)), (2, .long e1)] → W p l e rm_X8_caughtAlone s m args below meth c H [] 0 0 (MQ below (jSl o) args s 0 0 (fun _ => False)) (F0 m 36 ls []) := by
      intro e1 he ls hl
      rw [he] at h1_
      have h := h1_
      clear hz1
      refine lv_ldc2 (v := (10 : Int64)) hx hb hown (hts _ kw_X8_caughtAlone_2) dX8_caughtAlone_36 ?_
      refine lv_aload_n hx hb dX8_caughtAlone_39 rfl (lv_at hl 0 rfl) ?_
      refine va_get (D := D) (ci := 8) (v := .ref (qa 5)) (C := RX8) (T := TX8) (N := 24) hx hb hts in_X8_caughtAlone_X8 hown hK.1 hP 0 rfl rfl 13 (by decide) (hts _ kw_X8_caughtAlone_1) (fun _ h9 => h9) rfl dX8_caughtAlone_40 ?_
      refine lv_iconst (v := (1 : Int32)) hx hb dX8_caughtAlone_43 (by decide) ?_
      refine jald hx hb hK hP 5 rfl 1 (by decide) (by decide) dX8_caughtAlone_44 ?_
      obtain ⟨z4, hz4, h⟩ := jb h
      refine jkl (jrS (As := [.long (10 : Int64), .int (M.1 4 1)]) (rest := []) ⟨hx, hb, hml, hown, hts⟩ (c_X8_power l D cyI cyZ cyT   N (10 : Int64) (M.1 4 1) z4 hz4) (va_cwS 2 hts gX8_caughtAlone_X8_power rfl rfl rfl (by decide +kernel) ⟨Nat.le_of_ble_eq_true rfl, Nat.le_of_ble_eq_true rfl⟩) hK jP0 rfl rfl hl.1 (Nat.le_of_ble_eq_true rfl) dX8_caughtAlone_45 ⟨Nat.le_of_ble_eq_true rfl, Nat.le_of_ble_eq_true rfl⟩) ?_
      clear hz4
      refine lv_lload_n hx hb dX8_caughtAlone_48 rfl (lv_at hl 1 rfl) ?_
      refine lv_lsub hx hb dX8_caughtAlone_49 ?_
      exact W.lret hx hb hr (fun t ht _ => ⟨_, rfl, Option.some.inj h, ht.trans hH⟩) (fun q h => by cases h) dX8_caughtAlone_50 hlocks
    have hlp1 : ∀ (nn : Nat) (z1 : (Int64 × Int32)), jw (X8_caughtAlone_s5 a1 M) nn z1 = some r1 → ∀ (ls : Array Slot), lv_has ls 5 [(0, .ref (qa 0)), (1, .int a1), (2, .long z1.1), (4, .int z1.2)] → W p l e rm_X8_caughtAlone s m args below meth c H [] 0 0 (MQ below (jSl o) args s 0 0 (fun _ => False)) (F0 m 5 ls []) := by
      refine jw_P (r := r1) (P := fun z1 : (Int64 × Int32) => ∀ (ls : Array Slot), lv_has ls 5 [(0, .ref (qa 0)), (1, .int a1), (2, .long z1.1), (4, .int z1.2)] → W p l e rm_X8_caughtAlone s m args below meth c H [] 0 0 (MQ below (jSl o) args s 0 0 (fun _ => False)) (F0 m 5 ls [])) ?_
      intro z1 x1 h hin hout ls hl
      unfold X8_caughtAlone_s5 at h
      refine lv_iload hx hb dX8_caughtAlone_5 (lv_at hl 3 rfl) ?_
      refine lv_aload_n hx hb dX8_caughtAlone_7 rfl (lv_at hl 0 rfl) ?_
      refine va_get (D := D) (ci := 8) (v := .ref (qa 5)) (C := RX8) (T := TX8) (N := 24) hx hb hts in_X8_caughtAlone_X8 hown hK.1 hP 0 rfl rfl 13 (by decide) (hts _ kw_X8_caughtAlone_1) (fun _ h9 => h9) rfl dX8_caughtAlone_8 ?_
      refine lv_iconst (v := (1 : Int32)) hx hb dX8_caughtAlone_11 (by decide) ?_
      refine jald hx hb hK hP 5 rfl 1 (by decide) (by decide) dX8_caughtAlone_12 ?_
      refine lv_icmp_ge (tgt := 36) hx hb dX8_caughtAlone_13 (by decide) (fun c2 => ?_) (fun c2 => ?_)
      · have h := jt c2 h
        exact hex1 _ (hout _ (Option.some.inj h).symm).symm ls (lv_sub hl [0, 2] rfl)
      · have h := jf c2 h
        refine lv_lload_n hx hb dX8_caughtAlone_16 rfl (lv_at hl 2 rfl) ?_
        refine lv_bipush (v := (10 : Int32)) hx hb dX8_caughtAlone_17 (by decide) ?_
        refine lv_aload_n hx hb dX8_caughtAlone_19 rfl (lv_at hl 0 rfl) ?_
        refine lv_iload hx hb dX8_caughtAlone_20 (lv_at hl 3 rfl) ?_
        refine lv_iload_n hx hb dX8_caughtAlone_22 rfl (lv_at hl 1 rfl) ?_
        obtain ⟨z3, hz3, h⟩ := jb h
        refine jki (jrV (As := [.int z1.2, .int a1]) (rest := [.int (10 : Int32), .long z1.1]) ⟨hx, hb, hml, hown, hts⟩ (c_X8_dangerTo l D cyI cyZ cyT qa  z1.2 a1 M z3 hz3) (cwV 2 hts gX8_caughtAlone_X8_dangerTo rfl rfl rfl (by decide +kernel) ⟨Nat.le_of_ble_eq_true rfl, Nat.le_of_ble_eq_true rfl⟩) hK hP rfl 8 0 rfl rfl rfl hl.1 (Nat.le_of_ble_eq_true rfl) dX8_caughtAlone_23 ⟨Nat.le_of_ble_eq_true rfl, Nat.le_of_ble_eq_true rfl⟩) ?_
        clear hz3
        refine lv_isub hx hb dX8_caughtAlone_26 ?_
        refine lv_i2l (v := ((10 : Int32) - z3).toInt64) hx hb dX8_caughtAlone_27 rfl ?_
        refine lv_lmul hx hb dX8_caughtAlone_28 ?_
        refine lv_lstore_n (lv' := [(2, .long (z1.1 * (((10 : Int32) - z3).toInt64))), (0, .ref (qa 0)), (1, .int a1), (4, .int z1.2)]) hx hb dX8_caughtAlone_29 rfl hl (by decide) rfl (fun ls hl => ?_)
        refine lv_iinc (v := z1.2 + (1 : Int32)) (lv' := [(4, .int (z1.2 + (1 : Int32))), (2, .long (z1.1 * (((10 : Int32) - z3).toInt64))), (0, .ref (qa 0)), (1, .int a1)]) hx hb dX8_caughtAlone_30 hl (k := 3) rfl rfl (by decide) rfl (fun ls hl => ?_)
        refine lv_goto (tgt := 5) hx hb dX8_caughtAlone_33 (by decide) ?_
        exact hin _ (Option.some.inj h).symm ls (lv_sub hl [2, 3, 1, 0] rfl)
    exact hlp1 _ _ hz1 ls (lv_sub hl [2, 3, 1, 0] rfl)
  exact key s.heap hP rfl
abbrev rm_X8_gcd : Room := { frames := 0, cells := 0, slots := 0, locals := 0 }
set_option maxHeartbeats 4000000 in
set_option maxRecDepth 100000 in
theorem c_X8_gcd (l : Launch) (D : va_G) (cyI cyZ cyT : ClassId) (N : Nat) (a0 : Int64) (a2 : Int64) (o : Int64) (hf : f_X8_gcd N a0 a2 = some o) : Met l yX8_gcd wsX8_gcd rm_X8_gcd (va_Pc [.long a0, .long a2] (jB D cyI cyZ cyT ([]))) (jSl o) 0 0 (fun _ => False) := by
  refine Met.ofW (cc := cX8_gcd) (maxL := 10) (ret := (some .long)) (by decide) rfl ?_
  intro p e s m args below meth c s₁ B hml hv
  obtain ⟨rfl, hP, hK⟩ := hv
  have hx := B.exec
  have hb := B.bytes
  have hr := B.returns
  have hts := atoms_spec (ws := wsX8_gcd) B.pre
  have hown : s.vm.findClass RX8 = some m.cls := findClass_of_methodNamed B.named
  have hlocks := B.notSynchronized
  have hl := lv_entry ([.long a0, .long a2]) (n := 10) (Nat.le_of_ble_eq_true rfl)
  rw [lg_entry_eq]
  generalize (lg_sl ([.long a0, .long a2]) ++ List.replicate (10 - (lg_sl ([.long a0, .long a2])).length) Slot.unset).toArray = ls at hl ⊢
  have hl : lv_has ls 10 [(0, .long a0), (2, .long a2)] := hl
  clear B
  generalize ([.long a0, .long a2] : List Value).toArray = args at hts ⊢
  have key : ∀ (H : Heap), va_P D vwCl ([]) H → H = s.heap → W p l e rm_X8_gcd s m args below meth c H [] 0 0 (MQ below (jSl o) args s 0 0 (fun _ => False)) (F0 m 0 ls []) := by
    intro H hP hH
    have h := hf
    unfold f_X8_gcd at h
    refine lv_lload_n hx hb dX8_gcd_0 rfl (lv_at hl 0 rfl) ?_
    refine lv_lstore (lv' := [(4, .long a0), (0, .long a0), (2, .long a2)]) hx hb dX8_gcd_1 hl (by decide) rfl (fun ls hl => ?_)
    refine lv_lload_n hx hb dX8_gcd_3 rfl (lv_at hl 2 rfl) ?_
    refine lv_lstore (lv' := [(6, .long a2), (4, .long a0), (0, .long a0), (2, .long a2)]) hx hb dX8_gcd_4 hl (by decide) rfl (fun ls hl => ?_)
    obtain ⟨r1, hz1, h1_⟩ := jb h
    have hex1 : ∀ e1 : Int64, r1 = e1 → ∀ (ls : Array Slot), lv_has ls 10 [(4, .long e1)] → W p l e rm_X8_gcd s m args below meth c H [] 0 0 (MQ below (jSl o) args s 0 0 (fun _ => False)) (F0 m 31 ls []) := by
      intro e1 he ls hl
      rw [he] at h1_
      have h := h1_
      clear hz1
      refine lv_lload hx hb dX8_gcd_31 (lv_at hl 0 rfl) ?_
      exact W.lret hx hb hr (fun t ht _ => ⟨_, rfl, Option.some.inj h, ht.trans hH⟩) (fun q h => by cases h) dX8_gcd_33 hlocks
    have hlp1 : ∀ (nn : Nat) (z1 : (Int64 × Int64)), jw (X8_gcd_s6) nn z1 = some r1 → ∀ (ls : Array Slot), lv_has ls 10 [(4, .long z1.1), (6, .long z1.2)] → W p l e rm_X8_gcd s m args below meth c H [] 0 0 (MQ below (jSl o) args s 0 0 (fun _ => False)) (F0 m 6 ls []) := by
      refine jw_P (r := r1) (P := fun z1 : (Int64 × Int64) => ∀ (ls : Array Slot), lv_has ls 10 [(4, .long z1.1), (6, .long z1.2)] → W p l e rm_X8_gcd s m args below meth c H [] 0 0 (MQ below (jSl o) args s 0 0 (fun _ => False)) (F0 m 6 ls [])) ?_
      intro z1 x1 h hin hout ls hl
      unfold X8_gcd_s6 at h
      refine lv_lload hx hb dX8_gcd_6 (lv_at hl 1 rfl) ?_
      refine lv_lconst (v := (0 : Int64)) hx hb dX8_gcd_8 (by decide) ?_
      refine W.lcmp hx hb dX8_gcd_9 ?_
      refine lv_if_eq (tgt := 31) hx hb dX8_gcd_10 (by decide) (fun c2 => ?_) (fun c2 => ?_)
      · have h := jt ((lg_cmp_eq _ _).mp c2) h
        exact hex1 _ (hout _ (Option.some.inj h).symm).symm ls (lv_sub hl [0] rfl)
      · have h := jf (fun e => c2 ((lg_cmp_eq _ _).mpr e)) h
        refine lv_lload hx hb dX8_gcd_13 (lv_at hl 0 rfl) ?_
        refine lv_lload hx hb dX8_gcd_15 (lv_at hl 1 rfl) ?_
        obtain ⟨g3, h⟩ := jn h
        refine lv_lrem hx hb dX8_gcd_17 g3 ?_
        refine lv_lstore (lv' := [(8, .long (z1.1 - z1.1 / z1.2 * z1.2)), (4, .long z1.1), (6, .long z1.2)]) hx hb dX8_gcd_18 hl (by decide) rfl (fun ls hl => ?_)
        refine lv_lload hx hb dX8_gcd_20 (lv_at hl 2 rfl) ?_
        refine lv_lstore (lv' := [(4, .long z1.2), (8, .long (z1.1 - z1.1 / z1.2 * z1.2)), (6, .long z1.2)]) hx hb dX8_gcd_22 hl (by decide) rfl (fun ls hl => ?_)
        refine lv_lload hx hb dX8_gcd_24 (lv_at hl 1 rfl) ?_
        refine lv_lstore (lv' := [(6, .long (z1.1 - z1.1 / z1.2 * z1.2)), (4, .long z1.2), (8, .long (z1.1 - z1.1 / z1.2 * z1.2))]) hx hb dX8_gcd_26 hl (by decide) rfl (fun ls hl => ?_)
        refine lv_goto (tgt := 6) hx hb dX8_gcd_28 (by decide) ?_
        exact hin _ (Option.some.inj h).symm ls (lv_sub hl [1, 0] rfl)
    exact hlp1 _ _ hz1 ls (lv_sub hl [1, 0] rfl)
  exact key s.heap hP rfl
theorem kw_X8_isMouse_1 : (.fieldLink RX8 22 "BellTheCatModel" "many" "[I" : Cond) ∈ wsX8_isMouse := List.mem_of_getElem? (i := 1) rfl
theorem in_X8_isMouse_X8 : ∀ w ∈ wsX80, w ∈ wsX8_isMouse := fun w h => List.mem_cons_of_mem _ (List.mem_append_right _ h)
abbrev rm_X8_isMouse : Room := { frames := 1, cells := 0, slots := 0, locals := 22 }
set_option maxHeartbeats 4000000 in
set_option maxRecDepth 100000 in
theorem c_X8_isMouse (l : Launch) (D : va_G) (cyI cyZ cyT : ClassId) (qa : Nat → Nat) (a1 : Int32) (M : Mo) (o : Int32) (hf : f_X8_isMouse a1 M = some o) : Met l yX8_isMouse wsX8_isMouse rm_X8_isMouse (va_Pc [.ref (qa 0), .int a1] (jB D cyI cyZ cyT (wM cyI cyZ qa M))) (jSi o) 0 0 (fun _ => False) := by
  refine Met.ofW (cc := cX8_isMouse) (maxL := 2) (ret := (some .boolean)) (by decide) rfl ?_
  intro p e s m args below meth c s₁ B hml hv
  obtain ⟨rfl, hP, hK⟩ := hv
  have hx := B.exec
  have hb := B.bytes
  have hr := B.returns
  have hts := atoms_spec (ws := wsX8_isMouse) B.pre
  have hown : s.vm.findClass RX8 = some m.cls := findClass_of_methodNamed B.named
  have hlocks := B.notSynchronized
  have hl := lv_entry ([.ref (qa 0), .int a1]) (n := 2) (Nat.le_of_ble_eq_true rfl)
  rw [lg_entry_eq]
  generalize (lg_sl ([.ref (qa 0), .int a1]) ++ List.replicate (2 - (lg_sl ([.ref (qa 0), .int a1])).length) Slot.unset).toArray = ls at hl ⊢
  have hl : lv_has ls 2 [(0, .ref (qa 0)), (1, .int a1)] := hl
  clear B
  generalize ([.ref (qa 0), .int a1] : List Value).toArray = args at hts ⊢
  have key : ∀ (H : Heap), va_P D vwCl (wM cyI cyZ qa M) H → H = s.heap → W p l e rm_X8_isMouse s m args below meth c H [] 0 0 (MQ below (jSi o) args s 0 0 (fun _ => False)) (F0 m 0 ls []) := by
    intro H hP hH
    have h := hf
    unfold f_X8_isMouse at h
    refine lv_iload_n hx hb dX8_isMouse_0 rfl (lv_at hl 1 rfl) ?_
    refine lv_iconst (v := (0 : Int32)) hx hb dX8_isMouse_1 (by decide) ?_
    refine lv_aload_n hx hb dX8_isMouse_2 rfl (lv_at hl 0 rfl) ?_
    refine va_get (D := D) (ci := 8) (v := .ref (qa 5)) (C := RX8) (T := TX8) (N := 24) hx hb hts in_X8_isMouse_X8 hown hK.1 hP 0 rfl rfl 13 (by decide) (hts _ kw_X8_isMouse_1) (fun _ h9 => h9) rfl dX8_isMouse_3 ?_
    refine lv_iconst (v := (0 : Int32)) hx hb dX8_isMouse_6 (by decide) ?_
    refine jald hx hb hK hP 5 rfl 0 (by decide) (by decide) dX8_isMouse_7 ?_
    refine lv_iconst (v := (1 : Int32)) hx hb dX8_isMouse_8 (by decide) ?_
    refine lv_isub hx hb dX8_isMouse_9 ?_
    obtain ⟨z1, hz1, h⟩ := jb h
    refine jki (jrS (As := [.int a1, .int (0 : Int32), .int ((M.1 4 0) - (1 : Int32))]) (rest := []) ⟨hx, hb, hml, hown, hts⟩ (c_X8_in l D cyI cyZ cyT   a1 (0 : Int32) ((M.1 4 0) - (1 : Int32)) z1 hz1) (va_cwS 3 hts gX8_isMouse_X8_in rfl rfl rfl (by decide +kernel) ⟨Nat.le_of_ble_eq_true rfl, Nat.le_of_ble_eq_true rfl⟩) hK jP0 rfl rfl hl.1 (Nat.le_of_ble_eq_true rfl) dX8_isMouse_10 ⟨Nat.le_of_ble_eq_true rfl, Nat.le_of_ble_eq_true rfl⟩) ?_
    clear hz1
    obtain ⟨gz, h⟩ := jn h
    exact W.zret hx hb hr (jz_n gz) (fun t ht _ => ⟨_, rfl, Option.some.inj h, ht.trans hH⟩) (fun q h => by cases h) dX8_isMouse_13 hlocks
  exact key s.heap hP rfl
abbrev rm_X8_isPart : Room := { frames := 0, cells := 0, slots := 0, locals := 0 }
set_option maxHeartbeats 4000000 in
set_option maxRecDepth 100000 in
theorem c_X8_isPart (l : Launch) (D : va_G) (cyI cyZ cyT : ClassId) (a0 : Int32) (o : Int32) (hf : f_X8_isPart a0 = some o) : Met l yX8_isPart wsX8_isPart rm_X8_isPart (va_Pc [.int a0] (jB D cyI cyZ cyT ([]))) (jSi o) 0 0 (fun _ => False) := by
  refine Met.ofW (cc := cX8_isPart) (maxL := 1) (ret := (some .boolean)) (by decide) rfl ?_
  intro p e s m args below meth c s₁ B hml hv
  obtain ⟨rfl, hP, hK⟩ := hv
  have hx := B.exec
  have hb := B.bytes
  have hr := B.returns
  have hts := atoms_spec (ws := wsX8_isPart) B.pre
  have hown : s.vm.findClass RX8 = some m.cls := findClass_of_methodNamed B.named
  have hlocks := B.notSynchronized
  have hl := lv_entry ([.int a0]) (n := 1) (Nat.le_of_ble_eq_true rfl)
  rw [lg_entry_eq]
  generalize (lg_sl ([.int a0]) ++ List.replicate (1 - (lg_sl ([.int a0])).length) Slot.unset).toArray = ls at hl ⊢
  have hl : lv_has ls 1 [(0, .int a0)] := hl
  clear B
  generalize ([.int a0] : List Value).toArray = args at hts ⊢
  have key : ∀ (H : Heap), va_P D vwCl ([]) H → H = s.heap → W p l e rm_X8_isPart s m args below meth c H [] 0 0 (MQ below (jSi o) args s 0 0 (fun _ => False)) (F0 m 0 ls []) := by
    intro H hP hH
    have h := hf
    unfold f_X8_isPart at h
    refine lv_iload_n hx hb dX8_isPart_0 rfl (lv_at hl 0 rfl) ?_
    refine lv_if_eq (tgt := 9) hx hb dX8_isPart_1 (by decide) (fun c1 => ?_) (fun c1 => ?_)
    · have h := jt c1 h
      refine lv_iconst (v := (1 : Int32)) hx hb dX8_isPart_9 (by decide) ?_
      refine lv_goto (tgt := 14) hx hb dX8_isPart_10 (by decide) ?_
      exact W.zret hx hb hr rfl (fun t ht _ => ⟨_, rfl, Option.some.inj h, ht.trans hH⟩) (fun q h => by cases h) dX8_isPart_14 hlocks
    · have h := jf c1 h
      refine lv_iload_n hx hb dX8_isPart_4 rfl (lv_at hl 0 rfl) ?_
      refine lv_iconst (v := (1 : Int32)) hx hb dX8_isPart_5 (by decide) ?_
      refine lv_icmp_ne (tgt := 13) hx hb dX8_isPart_6 (by decide) (fun c2 => ?_) (fun c2 => ?_)
      · have h := jf c2 h
        refine lv_iconst (v := (0 : Int32)) hx hb dX8_isPart_13 (by decide) ?_
        exact W.zret hx hb hr rfl (fun t ht _ => ⟨_, rfl, Option.some.inj h, ht.trans hH⟩) (fun q h => by cases h) dX8_isPart_14 hlocks
      · have h := jt c2 h
        refine lv_iconst (v := (1 : Int32)) hx hb dX8_isPart_9 (by decide) ?_
        refine lv_goto (tgt := 14) hx hb dX8_isPart_10 (by decide) ?_
        exact W.zret hx hb hr rfl (fun t ht _ => ⟨_, rfl, Option.some.inj h, ht.trans hH⟩) (fun q h => by cases h) dX8_isPart_14 hlocks
  exact key s.heap hP rfl
abbrev rm_X8_part : Room := { frames := 1, cells := 0, slots := 0, locals := 29 }
set_option maxHeartbeats 4000000 in
set_option maxRecDepth 100000 in
theorem c_X8_part (l : Launch) (D : va_G) (cyI cyZ cyT : ClassId) (N : Nat) (a0 : Int64) (a2 : Int64) (a4 : Int32) (o : Int64) (hf : f_X8_part N a0 a2 a4 = some o) : Met l yX8_part wsX8_part rm_X8_part (va_Pc [.long a0, .long a2, .int a4] (jB D cyI cyZ cyT ([]))) (jSl o) 0 0 (fun _ => False) := by
  refine Met.ofW (cc := cX8_part) (maxL := 7) (ret := (some .long)) (by decide) rfl ?_
  intro p e s m args below meth c s₁ B hml hv
  obtain ⟨rfl, hP, hK⟩ := hv
  have hx := B.exec
  have hb := B.bytes
  have hr := B.returns
  have hts := atoms_spec (ws := wsX8_part) B.pre
  have hown : s.vm.findClass RX8 = some m.cls := findClass_of_methodNamed B.named
  have hlocks := B.notSynchronized
  have hl := lv_entry ([.long a0, .long a2, .int a4]) (n := 7) (Nat.le_of_ble_eq_true rfl)
  rw [lg_entry_eq]
  generalize (lg_sl ([.long a0, .long a2, .int a4]) ++ List.replicate (7 - (lg_sl ([.long a0, .long a2, .int a4])).length) Slot.unset).toArray = ls at hl ⊢
  have hl : lv_has ls 7 [(0, .long a0), (2, .long a2), (4, .int a4)] := hl
  clear B
  generalize ([.long a0, .long a2, .int a4] : List Value).toArray = args at hts ⊢
  have key : ∀ (H : Heap), va_P D vwCl ([]) H → H = s.heap → W p l e rm_X8_part s m args below meth c H [] 0 0 (MQ below (jSl o) args s 0 0 (fun _ => False)) (F0 m 0 ls []) := by
    intro H hP hH
    have h := hf
    unfold f_X8_part at h
    refine lv_lload_n hx hb dX8_part_0 rfl (lv_at hl 0 rfl) ?_
    refine lv_lload_n hx hb dX8_part_1 rfl (lv_at hl 1 rfl) ?_
    obtain ⟨z1, hz1, h⟩ := jb h
    refine jkl (jrS (As := [.long a0, .long a2]) (rest := []) ⟨hx, hb, hml, hown, hts⟩ (c_X8_gcd l D cyI cyZ cyT   N a0 a2 z1 hz1) (va_cwS 2 hts gX8_part_X8_gcd rfl rfl rfl (by decide +kernel) ⟨Nat.le_of_ble_eq_true rfl, Nat.le_of_ble_eq_true rfl⟩) hK jP0 rfl rfl hl.1 (Nat.le_of_ble_eq_true rfl) dX8_part_2 ⟨Nat.le_of_ble_eq_true rfl, Nat.le_of_ble_eq_true rfl⟩) ?_
    clear hz1
    refine lv_lstore (lv' := [(5, .long z1), (0, .long a0), (2, .long a2), (4, .int a4)]) hx hb dX8_part_5 hl (by decide) rfl (fun ls hl => ?_)
    refine lv_iload hx hb dX8_part_7 (lv_at hl 3 rfl) ?_
    refine lv_if_ne (tgt := 19) hx hb dX8_part_9 (by decide) (fun c2 => ?_) (fun c2 => ?_)
    · have h := jf c2 h
      refine lv_lload_n hx hb dX8_part_19 rfl (lv_at hl 2 rfl) ?_
      refine lv_lload hx hb dX8_part_20 (lv_at hl 0 rfl) ?_
      obtain ⟨g3, h⟩ := jn h
      refine lv_ldiv hx hb dX8_part_22 g3 ?_
      exact W.lret hx hb hr (fun t ht _ => ⟨_, rfl, Option.some.inj h, ht.trans hH⟩) (fun q h => by cases h) dX8_part_23 hlocks
    · have h := jt c2 h
      refine lv_lload_n hx hb dX8_part_12 rfl (lv_at hl 1 rfl) ?_
      refine lv_lload hx hb dX8_part_13 (lv_at hl 0 rfl) ?_
      obtain ⟨g4, h⟩ := jn h
      refine lv_ldiv hx hb dX8_part_15 g4 ?_
      refine lv_goto (tgt := 23) hx hb dX8_part_16 (by decide) ?_
      exact W.lret hx hb hr (fun t ht _ => ⟨_, rfl, Option.some.inj h, ht.trans hH⟩) (fun q h => by cases h) dX8_part_23 hlocks
  exact key s.heap hP rfl
theorem kw_X8_alone_1 : (.fieldLink RX8 50 "BellTheCatModel" "thrown" "I" : Cond) ∈ wsX8_alone := List.mem_of_getElem? (i := 1) rfl
theorem kw_X8_alone_2 : (.constantLong RX8 175 (10) : Cond) ∈ wsX8_alone := List.mem_of_getElem? (i := 2) rfl
theorem kw_X8_alone_3 : (.fieldLink RX8 22 "BellTheCatModel" "many" "[I" : Cond) ∈ wsX8_alone := List.mem_of_getElem? (i := 3) rfl
theorem in_X8_alone_X8 : ∀ w ∈ wsX80, w ∈ wsX8_alone := fun w h => List.mem_cons_of_mem _ (List.mem_append_right _ h)
abbrev rm_X8_alone : Room := { frames := 3, cells := 0, slots := 0, locals := 69 }
set_option maxHeartbeats 4000000 in
set_option maxRecDepth 100000 in
theorem c_X8_alone (l : Launch) (D : va_G) (cyI cyZ cyT : ClassId) (qa : Nat → Nat) (sz : Nat) (N : Nat) (a1 : Int32) (a2 : Int32) (M : Mo) (o : (Int32 × Mo)) (hf : f_X8_alone N a1 a2 M = some o) : Met l yX8_alone wsX8_alone rm_X8_alone (va_Pc [.ref (qa 0), .int a1, .int a2] (jM D cyI cyZ cyT (wM cyI cyZ qa M) sz)) (jQi D (va_A (wM cyI cyZ qa M) sz) (fun u : Mo => wM cyI cyZ qa u) o) 0 0 (va_A (wM cyI cyZ qa M) sz) := by
  refine Met.ofW (cc := cX8_alone) (maxL := 3) (ret := (some .int)) (by decide) rfl ?_
  intro p e s m args below meth c s₁ B hml hv
  obtain ⟨rfl, hsz, hP, hK, hD0⟩ := hv
  have hx := B.exec
  have hb := B.bytes
  have hr := B.returns
  have hts := atoms_spec (ws := wsX8_alone) B.pre
  have hown : s.vm.findClass RX8 = some m.cls := findClass_of_methodNamed B.named
  have hlocks := B.notSynchronized
  subst hsz
  have hD := hD0.self (sz := s.heap.size)
  generalize hAe : va_A (wM cyI cyZ qa M) s.heap.size = A at hD ⊢
  have hA : ∀ q : Nat, s.heap.size ≤ q → A q := fun q h => by rw [← hAe]; exact Or.inr h
  have hS : va_S A s.heap s.heap [] := va_S.rf
  have hl := lv_entry ([.ref (qa 0), .int a1, .int a2]) (n := 3) (Nat.le_of_ble_eq_true rfl)
  rw [lg_entry_eq]
  generalize (lg_sl ([.ref (qa 0), .int a1, .int a2]) ++ List.replicate (3 - (lg_sl ([.ref (qa 0), .int a1, .int a2])).length) Slot.unset).toArray = ls at hl ⊢
  have hl : lv_has ls 3 [(0, .ref (qa 0)), (1, .int a1), (2, .int a2)] := hl
  clear B
  generalize ([.ref (qa 0), .int a1, .int a2] : List Value).toArray = args at hts ⊢
  have key : ∀ (H : Heap) (locs : List Loc), va_P D vwCl (wM cyI cyZ qa M) H → va_D A (wM cyI cyZ qa M) → va_S A s.heap H locs → W p l e rm_X8_alone s m args below meth c H locs 0 0 (MQ below (jQi D A (fun u : Mo => wM cyI cyZ qa u) o) args s 0 0 A) (F0 m 0 ls []) := by
    intro H locs hP hD hS
    have h := hf
    unfold f_X8_alone at h
    refine lv_aload_n hx hb dX8_alone_0 rfl (lv_at hl 0 rfl) ?_
    refine lv_iconst (v := (0 : Int32)) hx hb dX8_alone_1 (by decide) ?_
    refine va_put (D := D) (ci := 8) (v := .int (0 : Int32)) (ty := .int) (C := RX8) (T := TX8) (N := 24) hx hb hts in_X8_alone_X8 tyX8 tyX8_ok nmX8 hown hK.1 hP hD hS 0 rfl rfl 0 (by decide) (hts _ kw_X8_alone_1) (fun _ h9 => h9) rfl (tyX8_ok 0 (by decide)) rfl rfl (Nat.le_of_ble_eq_true rfl) dX8_alone_2 (fun H locs hP hD hS => ?_)
    have hP : va_P D vwCl (wM cyI cyZ qa (M.1, va_up M.2 0 (0 : Int32))) H := hP
    have hD : va_D A (wM cyI cyZ qa (M.1, va_up M.2 0 (0 : Int32))) := hD
    refine lv_aload_n hx hb dX8_alone_5 rfl (lv_at hl 0 rfl) ?_
    refine lv_iload_n hx hb dX8_alone_6 rfl (lv_at hl 1 rfl) ?_
    obtain ⟨z1, hz1, h⟩ := jb h
    refine jki (jrV (As := [.int a1]) (rest := []) ⟨hx, hb, hml, hown, hts⟩ (c_X8_isMouse l D cyI cyZ cyT qa  a1 (M.1, va_up M.2 0 (0 : Int32)) z1 hz1) (cwV 1 hts gX8_alone_X8_isMouse rfl rfl rfl (by decide +kernel) ⟨Nat.le_of_ble_eq_true rfl, Nat.le_of_ble_eq_true rfl⟩) hK hP rfl 8 0 rfl rfl rfl hl.1 (Nat.le_of_ble_eq_true rfl) dX8_alone_7 ⟨Nat.le_of_ble_eq_true rfl, Nat.le_of_ble_eq_true rfl⟩) ?_
    clear hz1
    refine lv_if_ne (tgt := 16) hx hb dX8_alone_10 (by decide) (fun c2 => ?_) (fun c2 => ?_)
    · have h := jf c2 h
      refine lv_iload_n hx hb dX8_alone_16 rfl (lv_at hl 2 rfl) ?_
      obtain ⟨z3, hz3, h⟩ := jb h
      refine jki (jrS (As := [.int a2]) (rest := []) ⟨hx, hb, hml, hown, hts⟩ (c_X8_isPart l D cyI cyZ cyT   a2 z3 hz3) (va_cwS 1 hts gX8_alone_X8_isPart rfl rfl rfl (by decide +kernel) ⟨Nat.le_of_ble_eq_true rfl, Nat.le_of_ble_eq_true rfl⟩) hK jP0 rfl rfl hl.1 (Nat.le_of_ble_eq_true rfl) dX8_alone_17 ⟨Nat.le_of_ble_eq_true rfl, Nat.le_of_ble_eq_true rfl⟩) ?_
      clear hz3
      refine lv_if_eq (tgt := 48) hx hb dX8_alone_20 (by decide) (fun c4 => ?_) (fun c4 => ?_)
      · have h := jt c4 h
        refine lv_bipush (v := (-3 : Int32)) hx hb dX8_alone_48 (by decide) ?_
        exact W.iret hx hb hr (fun t ht _ => ⟨⟨_, _, rfl, Option.some.inj h, by rw [ht]; exact hP, hD⟩, hS.F ht⟩) hS.2.2 dX8_alone_50 hlocks
      · have h := jf c4 h
        refine lv_aload_n hx hb dX8_alone_23 rfl (lv_at hl 0 rfl) ?_
        refine lv_iload_n hx hb dX8_alone_24 rfl (lv_at hl 1 rfl) ?_
        obtain ⟨z5, hz5, h⟩ := jb h
        refine jkl (jrV (As := [.int a1]) (rest := []) ⟨hx, hb, hml, hown, hts⟩ (c_X8_caughtAlone l D cyI cyZ cyT qa  N a1 (M.1, va_up M.2 0 (0 : Int32)) z5 hz5) (cwV 1 hts gX8_alone_X8_caughtAlone rfl rfl rfl (by decide +kernel) ⟨Nat.le_of_ble_eq_true rfl, Nat.le_of_ble_eq_true rfl⟩) hK hP rfl 8 0 rfl rfl rfl hl.1 (Nat.le_of_ble_eq_true rfl) dX8_alone_25 ⟨Nat.le_of_ble_eq_true rfl, Nat.le_of_ble_eq_true rfl⟩) ?_
        clear hz5
        refine lv_ldc2 (v := (10 : Int64)) hx hb hown (hts _ kw_X8_alone_2) dX8_alone_28 ?_
        refine lv_aload_n hx hb dX8_alone_31 rfl (lv_at hl 0 rfl) ?_
        refine va_get (D := D) (ci := 8) (v := .ref (qa 5)) (C := RX8) (T := TX8) (N := 24) hx hb hts in_X8_alone_X8 hown hK.1 hP 0 rfl rfl 13 (by decide) (hts _ kw_X8_alone_3) (fun _ h9 => h9) rfl dX8_alone_32 ?_
        refine lv_iconst (v := (1 : Int32)) hx hb dX8_alone_35 (by decide) ?_
        refine jald hx hb hK hP 5 rfl 1 (by decide) (by decide) dX8_alone_36 ?_
        obtain ⟨z6, hz6, h⟩ := jb h
        refine jkl (jrS (As := [.long (10 : Int64), .int (M.1 4 1)]) (rest := [.long z5]) ⟨hx, hb, hml, hown, hts⟩ (c_X8_power l D cyI cyZ cyT   N (10 : Int64) (M.1 4 1) z6 hz6) (va_cwS 2 hts gX8_alone_X8_power rfl rfl rfl (by decide +kernel) ⟨Nat.le_of_ble_eq_true rfl, Nat.le_of_ble_eq_true rfl⟩) hK jP0 rfl rfl hl.1 (Nat.le_of_ble_eq_true rfl) dX8_alone_37 ⟨Nat.le_of_ble_eq_true rfl, Nat.le_of_ble_eq_true rfl⟩) ?_
        clear hz6
        refine lv_iload_n hx hb dX8_alone_40 rfl (lv_at hl 2 rfl) ?_
        obtain ⟨z7, hz7, h⟩ := jb h
        refine jkl (jrS (As := [.long z5, .long z6, .int a2]) (rest := []) ⟨hx, hb, hml, hown, hts⟩ (c_X8_part l D cyI cyZ cyT   N z5 z6 a2 z7 hz7) (va_cwS 3 hts gX8_alone_X8_part rfl rfl rfl (by decide +kernel) ⟨Nat.le_of_ble_eq_true rfl, Nat.le_of_ble_eq_true rfl⟩) hK jP0 rfl rfl hl.1 (Nat.le_of_ble_eq_true rfl) dX8_alone_41 ⟨Nat.le_of_ble_eq_true rfl, Nat.le_of_ble_eq_true rfl⟩) ?_
        clear hz7
        refine lv_l2i (v := z7.toInt32) hx hb dX8_alone_44 rfl ?_
        refine lv_goto (tgt := 50) hx hb dX8_alone_45 (by decide) ?_
        exact W.iret hx hb hr (fun t ht _ => ⟨⟨_, _, rfl, Option.some.inj h, by rw [ht]; exact hP, hD⟩, hS.F ht⟩) hS.2.2 dX8_alone_50 hlocks
    · have h := jt c2 h
      refine lv_bipush (v := (-2 : Int32)) hx hb dX8_alone_13 (by decide) ?_
      exact W.iret hx hb hr (fun t ht _ => ⟨⟨_, _, rfl, Option.some.inj h, by rw [ht]; exact hP, hD⟩, hS.F ht⟩) hS.2.2 dX8_alone_15 hlocks
  exact key s.heap [] hP hD hS
theorem kw_X8_as_1 : (.fieldLink RX8 50 "BellTheCatModel" "thrown" "I" : Cond) ∈ wsX8_as := List.mem_of_getElem? (i := 1) rfl
theorem kw_X8_as_2 : (.fieldLink RX8 13 "BellTheCatModel" "mice" "[I" : Cond) ∈ wsX8_as := List.mem_of_getElem? (i := 2) rfl
theorem in_X8_as_X8 : ∀ w ∈ wsX80, w ∈ wsX8_as := fun w h => List.mem_cons_of_mem _ (List.mem_append_right _ h)
abbrev rm_X8_as : Room := { frames := 2, cells := 0, slots := 0, locals := 43 }
set_option maxHeartbeats 4000000 in
set_option maxRecDepth 100000 in
theorem c_X8_as (l : Launch) (D : va_G) (cyI cyZ cyT : ClassId) (qa : Nat → Nat) (sz : Nat) (a1 : Int32) (a2 : Int32) (M : Mo) (o : (Int32 × Mo)) (hf : f_X8_as a1 a2 M = some o) : Met l yX8_as wsX8_as rm_X8_as (va_Pc [.ref (qa 0), .int a1, .int a2] (jM D cyI cyZ cyT (wM cyI cyZ qa M) sz)) (jQi D (va_A (wM cyI cyZ qa M) sz) (fun u : Mo => wM cyI cyZ qa u) o) 0 0 (va_A (wM cyI cyZ qa M) sz) := by
  refine Met.ofW (cc := cX8_as) (maxL := 5) (ret := (some .int)) (by decide) rfl ?_
  intro p e s m args below meth c s₁ B hml hv
  obtain ⟨rfl, hsz, hP, hK, hD0⟩ := hv
  have hx := B.exec
  have hb := B.bytes
  have hr := B.returns
  have hts := atoms_spec (ws := wsX8_as) B.pre
  have hown : s.vm.findClass RX8 = some m.cls := findClass_of_methodNamed B.named
  have hlocks := B.notSynchronized
  subst hsz
  have hD := hD0.self (sz := s.heap.size)
  generalize hAe : va_A (wM cyI cyZ qa M) s.heap.size = A at hD ⊢
  have hA : ∀ q : Nat, s.heap.size ≤ q → A q := fun q h => by rw [← hAe]; exact Or.inr h
  have hS : va_S A s.heap s.heap [] := va_S.rf
  have hl := lv_entry ([.ref (qa 0), .int a1, .int a2]) (n := 5) (Nat.le_of_ble_eq_true rfl)
  rw [lg_entry_eq]
  generalize (lg_sl ([.ref (qa 0), .int a1, .int a2]) ++ List.replicate (5 - (lg_sl ([.ref (qa 0), .int a1, .int a2])).length) Slot.unset).toArray = ls at hl ⊢
  have hl : lv_has ls 5 [(0, .ref (qa 0)), (1, .int a1), (2, .int a2)] := hl
  clear B
  generalize ([.ref (qa 0), .int a1, .int a2] : List Value).toArray = args at hts ⊢
  have key : ∀ (H : Heap) (locs : List Loc), va_P D vwCl (wM cyI cyZ qa M) H → va_D A (wM cyI cyZ qa M) → va_S A s.heap H locs → W p l e rm_X8_as s m args below meth c H locs 0 0 (MQ below (jQi D A (fun u : Mo => wM cyI cyZ qa u) o) args s 0 0 A) (F0 m 0 ls []) := by
    intro H locs hP hD hS
    have h := hf
    unfold f_X8_as at h
    refine lv_aload_n hx hb dX8_as_0 rfl (lv_at hl 0 rfl) ?_
    refine lv_iconst (v := (0 : Int32)) hx hb dX8_as_1 (by decide) ?_
    refine va_put (D := D) (ci := 8) (v := .int (0 : Int32)) (ty := .int) (C := RX8) (T := TX8) (N := 24) hx hb hts in_X8_as_X8 tyX8 tyX8_ok nmX8 hown hK.1 hP hD hS 0 rfl rfl 0 (by decide) (hts _ kw_X8_as_1) (fun _ h9 => h9) rfl (tyX8_ok 0 (by decide)) rfl rfl (Nat.le_of_ble_eq_true rfl) dX8_as_2 (fun H locs hP hD hS => ?_)
    have hP : va_P D vwCl (wM cyI cyZ qa (M.1, va_up M.2 0 (0 : Int32))) H := hP
    have hD : va_D A (wM cyI cyZ qa (M.1, va_up M.2 0 (0 : Int32))) := hD
    refine lv_aload_n hx hb dX8_as_5 rfl (lv_at hl 0 rfl) ?_
    refine lv_iload_n hx hb dX8_as_6 rfl (lv_at hl 1 rfl) ?_
    obtain ⟨z1, hz1, h⟩ := jb h
    refine jki (jrV (As := [.int a1]) (rest := []) ⟨hx, hb, hml, hown, hts⟩ (c_X8_isMouse l D cyI cyZ cyT qa  a1 (M.1, va_up M.2 0 (0 : Int32)) z1 hz1) (cwV 1 hts gX8_as_X8_isMouse rfl rfl rfl (by decide +kernel) ⟨Nat.le_of_ble_eq_true rfl, Nat.le_of_ble_eq_true rfl⟩) hK hP rfl 8 0 rfl rfl rfl hl.1 (Nat.le_of_ble_eq_true rfl) dX8_as_7 ⟨Nat.le_of_ble_eq_true rfl, Nat.le_of_ble_eq_true rfl⟩) ?_
    clear hz1
    refine lv_if_ne (tgt := 16) hx hb dX8_as_10 (by decide) (fun c2 => ?_) (fun c2 => ?_)
    · have h := jf c2 h
      refine lv_iload_n hx hb dX8_as_16 rfl (lv_at hl 2 rfl) ?_
      refine lv_iconst (v := (0 : Int32)) hx hb dX8_as_17 (by decide) ?_
      refine lv_iconst (v := (4 : Int32)) hx hb dX8_as_18 (by decide) ?_
      obtain ⟨z3, hz3, h⟩ := jb h
      refine jki (jrS (As := [.int a2, .int (0 : Int32), .int (4 : Int32)]) (rest := []) ⟨hx, hb, hml, hown, hts⟩ (c_X8_in l D cyI cyZ cyT   a2 (0 : Int32) (4 : Int32) z3 hz3) (va_cwS 3 hts gX8_as_X8_in rfl rfl rfl (by decide +kernel) ⟨Nat.le_of_ble_eq_true rfl, Nat.le_of_ble_eq_true rfl⟩) hK jP0 rfl rfl hl.1 (Nat.le_of_ble_eq_true rfl) dX8_as_19 ⟨Nat.le_of_ble_eq_true rfl, Nat.le_of_ble_eq_true rfl⟩) ?_
      clear hz3
      refine lv_if_ne (tgt := 28) hx hb dX8_as_22 (by decide) (fun c4 => ?_) (fun c4 => ?_)
      · have h := jf c4 h
        refine lv_aload_n hx hb dX8_as_28 rfl (lv_at hl 0 rfl) ?_
        refine va_get (D := D) (ci := 8) (v := .ref (qa 2)) (C := RX8) (T := TX8) (N := 24) hx hb hts in_X8_as_X8 hown hK.1 hP 0 rfl rfl 10 (by decide) (hts _ kw_X8_as_2) (fun _ h9 => h9) rfl dX8_as_29 ?_
        refine lv_iconst (v := (4 : Int32)) hx hb dX8_as_32 (by decide) ?_
        refine lv_iload_n hx hb dX8_as_33 rfl (lv_at hl 1 rfl) ?_
        refine lv_imul hx hb dX8_as_34 ?_
        obtain ⟨g5, h⟩ := jn h
        refine jald hx hb hK hP 2 rfl _ rfl g5 dX8_as_35 ?_
        refine lv_istore_n (lv' := [(3, .int (M.1 1 ((4 : Int32) * a1).toNatClampNeg)), (0, .ref (qa 0)), (1, .int a1), (2, .int a2)]) hx hb dX8_as_36 rfl hl (by decide) rfl (fun ls hl => ?_)
        refine lv_iload_n hx hb dX8_as_37 rfl (lv_at hl 3 rfl) ?_
        obtain ⟨z6, hz6, h⟩ := jb h
        have hk6 : ∀ (H : Heap) (locs : List Loc), va_P D vwCl (wM cyI cyZ qa (M.1, va_up M.2 0 (0 : Int32))) H → va_D A (wM cyI cyZ qa (M.1, va_up M.2 0 (0 : Int32))) → va_S A s.heap H locs → ∀ (ls : Array Slot), lv_has ls 5 [(0, .ref (qa 0)), (1, .int a1), (3, .int (M.1 1 ((4 : Int32) * a1).toNatClampNeg))] → W p l e rm_X8_as s m args below meth c H locs 0 0 (MQ below (jQi D A (fun u : Mo => wM cyI cyZ qa u) o) args s 0 0 A) (F0 m 86 ls [.int z6]) := by
          intro H locs hP hD hS ls hl
          refine lv_istore (lv' := [(4, .int z6), (0, .ref (qa 0)), (1, .int a1), (3, .int (M.1 1 ((4 : Int32) * a1).toNatClampNeg))]) hx hb dX8_as_86 hl (by decide) rfl (fun ls hl => ?_)
          refine lv_iload hx hb dX8_as_88 (lv_at hl 0 rfl) ?_
          refine lv_if_eq (tgt := 112) hx hb dX8_as_90 (by decide) (fun c38 => ?_) (fun c38 => ?_)
          · have h := jt c38 h
            refine lv_bipush (v := (-4 : Int32)) hx hb dX8_as_112 (by decide) ?_
            exact W.iret hx hb hr (fun t ht _ => ⟨⟨_, _, rfl, Option.some.inj h, by rw [ht]; exact hP, hD⟩, hS.F ht⟩) hS.2.2 dX8_as_114 hlocks
          · have h := jf c38 h
            refine lv_iload_n hx hb dX8_as_93 rfl (lv_at hl 3 rfl) ?_
            refine lv_aload_n hx hb dX8_as_94 rfl (lv_at hl 1 rfl) ?_
            refine va_get (D := D) (ci := 8) (v := .ref (qa 2)) (C := RX8) (T := TX8) (N := 24) hx hb hts in_X8_as_X8 hown hK.1 hP 0 rfl rfl 10 (by decide) (hts _ kw_X8_as_2) (fun _ h9 => h9) rfl dX8_as_95 ?_
            refine lv_iconst (v := (4 : Int32)) hx hb dX8_as_98 (by decide) ?_
            refine lv_iload_n hx hb dX8_as_99 rfl (lv_at hl 2 rfl) ?_
            refine lv_imul hx hb dX8_as_100 ?_
            refine lv_iconst (v := (1 : Int32)) hx hb dX8_as_101 (by decide) ?_
            refine lv_iadd hx hb dX8_as_102 ?_
            obtain ⟨g39, h⟩ := jn h
            refine jald hx hb hK hP 2 rfl _ rfl g39 dX8_as_103 ?_
            refine lv_bipush (v := (6 : Int32)) hx hb dX8_as_104 (by decide) ?_
            obtain ⟨z40, hz40, h⟩ := jb h
            refine jki (jrS (As := [.int (M.1 1 ((4 : Int32) * a1).toNatClampNeg), .int (M.1 1 (((4 : Int32) * a1) + (1 : Int32)).toNatClampNeg), .int (6 : Int32)]) (rest := []) ⟨hx, hb, hml, hown, hts⟩ (c_X8_dangerBy l D cyI cyZ cyT   (M.1 1 ((4 : Int32) * a1).toNatClampNeg) (M.1 1 (((4 : Int32) * a1) + (1 : Int32)).toNatClampNeg) (6 : Int32) z40 hz40) (va_cwS 3 hts gX8_as_X8_dangerBy rfl rfl rfl (by decide +kernel) ⟨Nat.le_of_ble_eq_true rfl, Nat.le_of_ble_eq_true rfl⟩) hK jP0 rfl rfl hl.1 (Nat.le_of_ble_eq_true rfl) dX8_as_106 ⟨Nat.le_of_ble_eq_true rfl, Nat.le_of_ble_eq_true rfl⟩) ?_
            clear hz40
            refine lv_goto (tgt := 114) hx hb dX8_as_109 (by decide) ?_
            exact W.iret hx hb hr (fun t ht _ => ⟨⟨_, _, rfl, Option.some.inj h, by rw [ht]; exact hP, hD⟩, hS.F ht⟩) hS.2.2 dX8_as_114 hlocks
        clear h
        have h := hz6
        clear hz6
        refine lv_if_eq (tgt := 81) hx hb dX8_as_38 (by decide) (fun c7 => ?_) (fun c7 => ?_)
        · have h := jt c7 h
          refine lv_iconst (v := (1 : Int32)) hx hb dX8_as_81 (by decide) ?_
          refine lv_goto (tgt := 86) hx hb dX8_as_82 (by decide) ?_
          obtain rfl := Option.some.inj h
          exact hk6 H locs hP hD hS ls (lv_sub hl [1, 2, 0] rfl)
        · have h := jf c7 h
          refine lv_iload_n hx hb dX8_as_41 rfl (lv_at hl 3 rfl) ?_
          refine lv_iconst (v := (1 : Int32)) hx hb dX8_as_42 (by decide) ?_
          refine lv_icmp_ne (tgt := 51) hx hb dX8_as_43 (by decide) (fun c8 => ?_) (fun c8 => ?_)
          · have h := jf c8 h
            refine lv_iload_n hx hb dX8_as_51 rfl (lv_at hl 3 rfl) ?_
            refine lv_iconst (v := (2 : Int32)) hx hb dX8_as_52 (by decide) ?_
            refine lv_icmp_ne (tgt := 61) hx hb dX8_as_53 (by decide) (fun c9 => ?_) (fun c9 => ?_)
            · have h := jf c9 h
              refine lv_iload_n hx hb dX8_as_61 rfl (lv_at hl 3 rfl) ?_
              refine lv_iconst (v := (3 : Int32)) hx hb dX8_as_62 (by decide) ?_
              refine lv_icmp_ne (tgt := 71) hx hb dX8_as_63 (by decide) (fun c10 => ?_) (fun c10 => ?_)
              · have h := jf c10 h
                refine lv_iload_n hx hb dX8_as_71 rfl (lv_at hl 3 rfl) ?_
                refine lv_iconst (v := (4 : Int32)) hx hb dX8_as_72 (by decide) ?_
                refine lv_icmp_ne (tgt := 85) hx hb dX8_as_73 (by decide) (fun c11 => ?_) (fun c11 => ?_)
                · have h := jf c11 h
                  refine lv_iconst (v := (0 : Int32)) hx hb dX8_as_85 (by decide) ?_
                  obtain rfl := Option.some.inj h
                  exact hk6 H locs hP hD hS ls (lv_sub hl [1, 2, 0] rfl)
                · have h := jt c11 h
                  refine lv_iload_n hx hb dX8_as_76 rfl (lv_at hl 0 rfl) ?_
                  refine lv_iconst (v := (3 : Int32)) hx hb dX8_as_77 (by decide) ?_
                  refine lv_icmp_ne (tgt := 85) hx hb dX8_as_78 (by decide) (fun c12 => ?_) (fun c12 => ?_)
                  · have h := jf c12 h
                    refine lv_iconst (v := (0 : Int32)) hx hb dX8_as_85 (by decide) ?_
                    obtain rfl := Option.some.inj h
                    exact hk6 H locs hP hD hS ls (lv_sub hl [1, 2, 0] rfl)
                  · have h := jt c12 h
                    refine lv_iconst (v := (1 : Int32)) hx hb dX8_as_81 (by decide) ?_
                    refine lv_goto (tgt := 86) hx hb dX8_as_82 (by decide) ?_
                    obtain rfl := Option.some.inj h
                    exact hk6 H locs hP hD hS ls (lv_sub hl [1, 2, 0] rfl)
              · have h := jt c10 h
                refine lv_iload_n hx hb dX8_as_66 rfl (lv_at hl 0 rfl) ?_
                refine lv_iconst (v := (2 : Int32)) hx hb dX8_as_67 (by decide) ?_
                refine lv_icmp_eq (tgt := 81) hx hb dX8_as_68 (by decide) (fun c13 => ?_) (fun c13 => ?_)
                · have h := jt c13 h
                  refine lv_iconst (v := (1 : Int32)) hx hb dX8_as_81 (by decide) ?_
                  refine lv_goto (tgt := 86) hx hb dX8_as_82 (by decide) ?_
                  obtain rfl := Option.some.inj h
                  exact hk6 H locs hP hD hS ls (lv_sub hl [1, 2, 0] rfl)
                · have h := jf c13 h
                  refine lv_iload_n hx hb dX8_as_71 rfl (lv_at hl 3 rfl) ?_
                  refine lv_iconst (v := (4 : Int32)) hx hb dX8_as_72 (by decide) ?_
                  refine lv_icmp_ne (tgt := 85) hx hb dX8_as_73 (by decide) (fun c14 => ?_) (fun c14 => ?_)
                  · have h := jf c14 h
                    refine lv_iconst (v := (0 : Int32)) hx hb dX8_as_85 (by decide) ?_
                    obtain rfl := Option.some.inj h
                    exact hk6 H locs hP hD hS ls (lv_sub hl [1, 2, 0] rfl)
                  · have h := jt c14 h
                    refine lv_iload_n hx hb dX8_as_76 rfl (lv_at hl 0 rfl) ?_
                    refine lv_iconst (v := (3 : Int32)) hx hb dX8_as_77 (by decide) ?_
                    refine lv_icmp_ne (tgt := 85) hx hb dX8_as_78 (by decide) (fun c15 => ?_) (fun c15 => ?_)
                    · have h := jf c15 h
                      refine lv_iconst (v := (0 : Int32)) hx hb dX8_as_85 (by decide) ?_
                      obtain rfl := Option.some.inj h
                      exact hk6 H locs hP hD hS ls (lv_sub hl [1, 2, 0] rfl)
                    · have h := jt c15 h
                      refine lv_iconst (v := (1 : Int32)) hx hb dX8_as_81 (by decide) ?_
                      refine lv_goto (tgt := 86) hx hb dX8_as_82 (by decide) ?_
                      obtain rfl := Option.some.inj h
                      exact hk6 H locs hP hD hS ls (lv_sub hl [1, 2, 0] rfl)
            · have h := jt c9 h
              refine lv_iload_n hx hb dX8_as_56 rfl (lv_at hl 0 rfl) ?_
              refine lv_iconst (v := (1 : Int32)) hx hb dX8_as_57 (by decide) ?_
              refine lv_icmp_eq (tgt := 81) hx hb dX8_as_58 (by decide) (fun c16 => ?_) (fun c16 => ?_)
              · have h := jt c16 h
                refine lv_iconst (v := (1 : Int32)) hx hb dX8_as_81 (by decide) ?_
                refine lv_goto (tgt := 86) hx hb dX8_as_82 (by decide) ?_
                obtain rfl := Option.some.inj h
                exact hk6 H locs hP hD hS ls (lv_sub hl [1, 2, 0] rfl)
              · have h := jf c16 h
                refine lv_iload_n hx hb dX8_as_61 rfl (lv_at hl 3 rfl) ?_
                refine lv_iconst (v := (3 : Int32)) hx hb dX8_as_62 (by decide) ?_
                refine lv_icmp_ne (tgt := 71) hx hb dX8_as_63 (by decide) (fun c17 => ?_) (fun c17 => ?_)
                · have h := jf c17 h
                  refine lv_iload_n hx hb dX8_as_71 rfl (lv_at hl 3 rfl) ?_
                  refine lv_iconst (v := (4 : Int32)) hx hb dX8_as_72 (by decide) ?_
                  refine lv_icmp_ne (tgt := 85) hx hb dX8_as_73 (by decide) (fun c18 => ?_) (fun c18 => ?_)
                  · have h := jf c18 h
                    refine lv_iconst (v := (0 : Int32)) hx hb dX8_as_85 (by decide) ?_
                    obtain rfl := Option.some.inj h
                    exact hk6 H locs hP hD hS ls (lv_sub hl [1, 2, 0] rfl)
                  · have h := jt c18 h
                    refine lv_iload_n hx hb dX8_as_76 rfl (lv_at hl 0 rfl) ?_
                    refine lv_iconst (v := (3 : Int32)) hx hb dX8_as_77 (by decide) ?_
                    refine lv_icmp_ne (tgt := 85) hx hb dX8_as_78 (by decide) (fun c19 => ?_) (fun c19 => ?_)
                    · have h := jf c19 h
                      refine lv_iconst (v := (0 : Int32)) hx hb dX8_as_85 (by decide) ?_
                      obtain rfl := Option.some.inj h
                      exact hk6 H locs hP hD hS ls (lv_sub hl [1, 2, 0] rfl)
                    · have h := jt c19 h
                      refine lv_iconst (v := (1 : Int32)) hx hb dX8_as_81 (by decide) ?_
                      refine lv_goto (tgt := 86) hx hb dX8_as_82 (by decide) ?_
                      obtain rfl := Option.some.inj h
                      exact hk6 H locs hP hD hS ls (lv_sub hl [1, 2, 0] rfl)
                · have h := jt c17 h
                  refine lv_iload_n hx hb dX8_as_66 rfl (lv_at hl 0 rfl) ?_
                  refine lv_iconst (v := (2 : Int32)) hx hb dX8_as_67 (by decide) ?_
                  refine lv_icmp_eq (tgt := 81) hx hb dX8_as_68 (by decide) (fun c20 => ?_) (fun c20 => ?_)
                  · have h := jt c20 h
                    refine lv_iconst (v := (1 : Int32)) hx hb dX8_as_81 (by decide) ?_
                    refine lv_goto (tgt := 86) hx hb dX8_as_82 (by decide) ?_
                    obtain rfl := Option.some.inj h
                    exact hk6 H locs hP hD hS ls (lv_sub hl [1, 2, 0] rfl)
                  · have h := jf c20 h
                    refine lv_iload_n hx hb dX8_as_71 rfl (lv_at hl 3 rfl) ?_
                    refine lv_iconst (v := (4 : Int32)) hx hb dX8_as_72 (by decide) ?_
                    refine lv_icmp_ne (tgt := 85) hx hb dX8_as_73 (by decide) (fun c21 => ?_) (fun c21 => ?_)
                    · have h := jf c21 h
                      refine lv_iconst (v := (0 : Int32)) hx hb dX8_as_85 (by decide) ?_
                      obtain rfl := Option.some.inj h
                      exact hk6 H locs hP hD hS ls (lv_sub hl [1, 2, 0] rfl)
                    · have h := jt c21 h
                      refine lv_iload_n hx hb dX8_as_76 rfl (lv_at hl 0 rfl) ?_
                      refine lv_iconst (v := (3 : Int32)) hx hb dX8_as_77 (by decide) ?_
                      refine lv_icmp_ne (tgt := 85) hx hb dX8_as_78 (by decide) (fun c22 => ?_) (fun c22 => ?_)
                      · have h := jf c22 h
                        refine lv_iconst (v := (0 : Int32)) hx hb dX8_as_85 (by decide) ?_
                        obtain rfl := Option.some.inj h
                        exact hk6 H locs hP hD hS ls (lv_sub hl [1, 2, 0] rfl)
                      · have h := jt c22 h
                        refine lv_iconst (v := (1 : Int32)) hx hb dX8_as_81 (by decide) ?_
                        refine lv_goto (tgt := 86) hx hb dX8_as_82 (by decide) ?_
                        obtain rfl := Option.some.inj h
                        exact hk6 H locs hP hD hS ls (lv_sub hl [1, 2, 0] rfl)
          · have h := jt c8 h
            refine lv_iload_n hx hb dX8_as_46 rfl (lv_at hl 0 rfl) ?_
            refine lv_iconst (v := (2 : Int32)) hx hb dX8_as_47 (by decide) ?_
            refine lv_icmp_ne (tgt := 81) hx hb dX8_as_48 (by decide) (fun c23 => ?_) (fun c23 => ?_)
            · have h := jf c23 h
              refine lv_iconst (v := (1 : Int32)) hx hb dX8_as_81 (by decide) ?_
              refine lv_goto (tgt := 86) hx hb dX8_as_82 (by decide) ?_
              obtain rfl := Option.some.inj h
              exact hk6 H locs hP hD hS ls (lv_sub hl [1, 2, 0] rfl)
            · have h := jt c23 h
              refine lv_iload_n hx hb dX8_as_51 rfl (lv_at hl 3 rfl) ?_
              refine lv_iconst (v := (2 : Int32)) hx hb dX8_as_52 (by decide) ?_
              refine lv_icmp_ne (tgt := 61) hx hb dX8_as_53 (by decide) (fun c24 => ?_) (fun c24 => ?_)
              · have h := jf c24 h
                refine lv_iload_n hx hb dX8_as_61 rfl (lv_at hl 3 rfl) ?_
                refine lv_iconst (v := (3 : Int32)) hx hb dX8_as_62 (by decide) ?_
                refine lv_icmp_ne (tgt := 71) hx hb dX8_as_63 (by decide) (fun c25 => ?_) (fun c25 => ?_)
                · have h := jf c25 h
                  refine lv_iload_n hx hb dX8_as_71 rfl (lv_at hl 3 rfl) ?_
                  refine lv_iconst (v := (4 : Int32)) hx hb dX8_as_72 (by decide) ?_
                  refine lv_icmp_ne (tgt := 85) hx hb dX8_as_73 (by decide) (fun c26 => ?_) (fun c26 => ?_)
                  · have h := jf c26 h
                    refine lv_iconst (v := (0 : Int32)) hx hb dX8_as_85 (by decide) ?_
                    obtain rfl := Option.some.inj h
                    exact hk6 H locs hP hD hS ls (lv_sub hl [1, 2, 0] rfl)
                  · have h := jt c26 h
                    refine lv_iload_n hx hb dX8_as_76 rfl (lv_at hl 0 rfl) ?_
                    refine lv_iconst (v := (3 : Int32)) hx hb dX8_as_77 (by decide) ?_
                    refine lv_icmp_ne (tgt := 85) hx hb dX8_as_78 (by decide) (fun c27 => ?_) (fun c27 => ?_)
                    · have h := jf c27 h
                      refine lv_iconst (v := (0 : Int32)) hx hb dX8_as_85 (by decide) ?_
                      obtain rfl := Option.some.inj h
                      exact hk6 H locs hP hD hS ls (lv_sub hl [1, 2, 0] rfl)
                    · have h := jt c27 h
                      refine lv_iconst (v := (1 : Int32)) hx hb dX8_as_81 (by decide) ?_
                      refine lv_goto (tgt := 86) hx hb dX8_as_82 (by decide) ?_
                      obtain rfl := Option.some.inj h
                      exact hk6 H locs hP hD hS ls (lv_sub hl [1, 2, 0] rfl)
                · have h := jt c25 h
                  refine lv_iload_n hx hb dX8_as_66 rfl (lv_at hl 0 rfl) ?_
                  refine lv_iconst (v := (2 : Int32)) hx hb dX8_as_67 (by decide) ?_
                  refine lv_icmp_eq (tgt := 81) hx hb dX8_as_68 (by decide) (fun c28 => ?_) (fun c28 => ?_)
                  · have h := jt c28 h
                    refine lv_iconst (v := (1 : Int32)) hx hb dX8_as_81 (by decide) ?_
                    refine lv_goto (tgt := 86) hx hb dX8_as_82 (by decide) ?_
                    obtain rfl := Option.some.inj h
                    exact hk6 H locs hP hD hS ls (lv_sub hl [1, 2, 0] rfl)
                  · have h := jf c28 h
                    refine lv_iload_n hx hb dX8_as_71 rfl (lv_at hl 3 rfl) ?_
                    refine lv_iconst (v := (4 : Int32)) hx hb dX8_as_72 (by decide) ?_
                    refine lv_icmp_ne (tgt := 85) hx hb dX8_as_73 (by decide) (fun c29 => ?_) (fun c29 => ?_)
                    · have h := jf c29 h
                      refine lv_iconst (v := (0 : Int32)) hx hb dX8_as_85 (by decide) ?_
                      obtain rfl := Option.some.inj h
                      exact hk6 H locs hP hD hS ls (lv_sub hl [1, 2, 0] rfl)
                    · have h := jt c29 h
                      refine lv_iload_n hx hb dX8_as_76 rfl (lv_at hl 0 rfl) ?_
                      refine lv_iconst (v := (3 : Int32)) hx hb dX8_as_77 (by decide) ?_
                      refine lv_icmp_ne (tgt := 85) hx hb dX8_as_78 (by decide) (fun c30 => ?_) (fun c30 => ?_)
                      · have h := jf c30 h
                        refine lv_iconst (v := (0 : Int32)) hx hb dX8_as_85 (by decide) ?_
                        obtain rfl := Option.some.inj h
                        exact hk6 H locs hP hD hS ls (lv_sub hl [1, 2, 0] rfl)
                      · have h := jt c30 h
                        refine lv_iconst (v := (1 : Int32)) hx hb dX8_as_81 (by decide) ?_
                        refine lv_goto (tgt := 86) hx hb dX8_as_82 (by decide) ?_
                        obtain rfl := Option.some.inj h
                        exact hk6 H locs hP hD hS ls (lv_sub hl [1, 2, 0] rfl)
              · have h := jt c24 h
                refine lv_iload_n hx hb dX8_as_56 rfl (lv_at hl 0 rfl) ?_
                refine lv_iconst (v := (1 : Int32)) hx hb dX8_as_57 (by decide) ?_
                refine lv_icmp_eq (tgt := 81) hx hb dX8_as_58 (by decide) (fun c31 => ?_) (fun c31 => ?_)
                · have h := jt c31 h
                  refine lv_iconst (v := (1 : Int32)) hx hb dX8_as_81 (by decide) ?_
                  refine lv_goto (tgt := 86) hx hb dX8_as_82 (by decide) ?_
                  obtain rfl := Option.some.inj h
                  exact hk6 H locs hP hD hS ls (lv_sub hl [1, 2, 0] rfl)
                · have h := jf c31 h
                  refine lv_iload_n hx hb dX8_as_61 rfl (lv_at hl 3 rfl) ?_
                  refine lv_iconst (v := (3 : Int32)) hx hb dX8_as_62 (by decide) ?_
                  refine lv_icmp_ne (tgt := 71) hx hb dX8_as_63 (by decide) (fun c32 => ?_) (fun c32 => ?_)
                  · have h := jf c32 h
                    refine lv_iload_n hx hb dX8_as_71 rfl (lv_at hl 3 rfl) ?_
                    refine lv_iconst (v := (4 : Int32)) hx hb dX8_as_72 (by decide) ?_
                    refine lv_icmp_ne (tgt := 85) hx hb dX8_as_73 (by decide) (fun c33 => ?_) (fun c33 => ?_)
                    · have h := jf c33 h
                      refine lv_iconst (v := (0 : Int32)) hx hb dX8_as_85 (by decide) ?_
                      obtain rfl := Option.some.inj h
                      exact hk6 H locs hP hD hS ls (lv_sub hl [1, 2, 0] rfl)
                    · have h := jt c33 h
                      refine lv_iload_n hx hb dX8_as_76 rfl (lv_at hl 0 rfl) ?_
                      refine lv_iconst (v := (3 : Int32)) hx hb dX8_as_77 (by decide) ?_
                      refine lv_icmp_ne (tgt := 85) hx hb dX8_as_78 (by decide) (fun c34 => ?_) (fun c34 => ?_)
                      · have h := jf c34 h
                        refine lv_iconst (v := (0 : Int32)) hx hb dX8_as_85 (by decide) ?_
                        obtain rfl := Option.some.inj h
                        exact hk6 H locs hP hD hS ls (lv_sub hl [1, 2, 0] rfl)
                      · have h := jt c34 h
                        refine lv_iconst (v := (1 : Int32)) hx hb dX8_as_81 (by decide) ?_
                        refine lv_goto (tgt := 86) hx hb dX8_as_82 (by decide) ?_
                        obtain rfl := Option.some.inj h
                        exact hk6 H locs hP hD hS ls (lv_sub hl [1, 2, 0] rfl)
                  · have h := jt c32 h
                    refine lv_iload_n hx hb dX8_as_66 rfl (lv_at hl 0 rfl) ?_
                    refine lv_iconst (v := (2 : Int32)) hx hb dX8_as_67 (by decide) ?_
                    refine lv_icmp_eq (tgt := 81) hx hb dX8_as_68 (by decide) (fun c35 => ?_) (fun c35 => ?_)
                    · have h := jt c35 h
                      refine lv_iconst (v := (1 : Int32)) hx hb dX8_as_81 (by decide) ?_
                      refine lv_goto (tgt := 86) hx hb dX8_as_82 (by decide) ?_
                      obtain rfl := Option.some.inj h
                      exact hk6 H locs hP hD hS ls (lv_sub hl [1, 2, 0] rfl)
                    · have h := jf c35 h
                      refine lv_iload_n hx hb dX8_as_71 rfl (lv_at hl 3 rfl) ?_
                      refine lv_iconst (v := (4 : Int32)) hx hb dX8_as_72 (by decide) ?_
                      refine lv_icmp_ne (tgt := 85) hx hb dX8_as_73 (by decide) (fun c36 => ?_) (fun c36 => ?_)
                      · have h := jf c36 h
                        refine lv_iconst (v := (0 : Int32)) hx hb dX8_as_85 (by decide) ?_
                        obtain rfl := Option.some.inj h
                        exact hk6 H locs hP hD hS ls (lv_sub hl [1, 2, 0] rfl)
                      · have h := jt c36 h
                        refine lv_iload_n hx hb dX8_as_76 rfl (lv_at hl 0 rfl) ?_
                        refine lv_iconst (v := (3 : Int32)) hx hb dX8_as_77 (by decide) ?_
                        refine lv_icmp_ne (tgt := 85) hx hb dX8_as_78 (by decide) (fun c37 => ?_) (fun c37 => ?_)
                        · have h := jf c37 h
                          refine lv_iconst (v := (0 : Int32)) hx hb dX8_as_85 (by decide) ?_
                          obtain rfl := Option.some.inj h
                          exact hk6 H locs hP hD hS ls (lv_sub hl [1, 2, 0] rfl)
                        · have h := jt c37 h
                          refine lv_iconst (v := (1 : Int32)) hx hb dX8_as_81 (by decide) ?_
                          refine lv_goto (tgt := 86) hx hb dX8_as_82 (by decide) ?_
                          obtain rfl := Option.some.inj h
                          exact hk6 H locs hP hD hS ls (lv_sub hl [1, 2, 0] rfl)
      · have h := jt c4 h
        refine lv_bipush (v := (-3 : Int32)) hx hb dX8_as_25 (by decide) ?_
        exact W.iret hx hb hr (fun t ht _ => ⟨⟨_, _, rfl, Option.some.inj h, by rw [ht]; exact hP, hD⟩, hS.F ht⟩) hS.2.2 dX8_as_27 hlocks
    · have h := jt c2 h
      refine lv_bipush (v := (-2 : Int32)) hx hb dX8_as_13 (by decide) ?_
      exact W.iret hx hb hr (fun t ht _ => ⟨⟨_, _, rfl, Option.some.inj h, by rw [ht]; exact hP, hD⟩, hS.F ht⟩) hS.2.2 dX8_as_15 hlocks
  exact key s.heap [] hP hD hS
theorem kw_X8_back_1 : (.fieldLink RX8 50 "BellTheCatModel" "thrown" "I" : Cond) ∈ wsX8_back := List.mem_of_getElem? (i := 1) rfl
theorem kw_X8_back_2 : (.fieldLink RX8 34 "BellTheCatModel" "isKept" "[Z" : Cond) ∈ wsX8_back := List.mem_of_getElem? (i := 2) rfl
theorem kw_X8_back_3 : (.fieldLink RX8 25 "BellTheCatModel" "s" "[I" : Cond) ∈ wsX8_back := List.mem_of_getElem? (i := 3) rfl
theorem kw_X8_back_4 : (.fieldLink RX8 31 "BellTheCatModel" "kept" "[I" : Cond) ∈ wsX8_back := List.mem_of_getElem? (i := 4) rfl
theorem kw_X8_back_5 : (.fieldLink RX8 137 "BellTheCatModel" "undos" "I" : Cond) ∈ wsX8_back := List.mem_of_getElem? (i := 5) rfl
theorem in_X8_back_X8 : ∀ w ∈ wsX80, w ∈ wsX8_back := fun w h => List.mem_cons_of_mem _ (List.mem_append_right _ h)
abbrev rm_X8_back : Room := { frames := 1, cells := 0, slots := 0, locals := 22 }
set_option maxHeartbeats 4000000 in
set_option maxRecDepth 100000 in
theorem c_X8_back (l : Launch) (D : va_G) (cyI cyZ cyT : ClassId) (qa : Nat → Nat) (sz : Nat) (N : Nat) (a1 : Int32) (M : Mo) (o : (Int32 × Mo)) (hf : f_X8_back N a1 M = some o) : Met l yX8_back wsX8_back rm_X8_back (va_Pc [.ref (qa 0), .int a1] (jM D cyI cyZ cyT (wM cyI cyZ qa M) sz)) (jQi D (va_A (wM cyI cyZ qa M) sz) (fun u : Mo => wM cyI cyZ qa u) o) 0 0 (va_A (wM cyI cyZ qa M) sz) := by
  refine Met.ofW (cc := cX8_back) (maxL := 3) (ret := (some .int)) (by decide) rfl ?_
  intro p e s m args below meth c s₁ B hml hv
  obtain ⟨rfl, hsz, hP, hK, hD0⟩ := hv
  have hx := B.exec
  have hb := B.bytes
  have hr := B.returns
  have hts := atoms_spec (ws := wsX8_back) B.pre
  have hown : s.vm.findClass RX8 = some m.cls := findClass_of_methodNamed B.named
  have hlocks := B.notSynchronized
  subst hsz
  have hD := hD0.self (sz := s.heap.size)
  generalize hAe : va_A (wM cyI cyZ qa M) s.heap.size = A at hD ⊢
  have hA : ∀ q : Nat, s.heap.size ≤ q → A q := fun q h => by rw [← hAe]; exact Or.inr h
  have hS : va_S A s.heap s.heap [] := va_S.rf
  have hl := lv_entry ([.ref (qa 0), .int a1]) (n := 3) (Nat.le_of_ble_eq_true rfl)
  rw [lg_entry_eq]
  generalize (lg_sl ([.ref (qa 0), .int a1]) ++ List.replicate (3 - (lg_sl ([.ref (qa 0), .int a1])).length) Slot.unset).toArray = ls at hl ⊢
  have hl : lv_has ls 3 [(0, .ref (qa 0)), (1, .int a1)] := hl
  clear B
  generalize ([.ref (qa 0), .int a1] : List Value).toArray = args at hts ⊢
  have key : ∀ (H : Heap) (locs : List Loc), va_P D vwCl (wM cyI cyZ qa M) H → va_D A (wM cyI cyZ qa M) → va_S A s.heap H locs → W p l e rm_X8_back s m args below meth c H locs 0 0 (MQ below (jQi D A (fun u : Mo => wM cyI cyZ qa u) o) args s 0 0 A) (F0 m 0 ls []) := by
    intro H locs hP hD hS
    have h := hf
    unfold f_X8_back at h
    refine lv_aload_n hx hb dX8_back_0 rfl (lv_at hl 0 rfl) ?_
    refine lv_iconst (v := (0 : Int32)) hx hb dX8_back_1 (by decide) ?_
    refine va_put (D := D) (ci := 8) (v := .int (0 : Int32)) (ty := .int) (C := RX8) (T := TX8) (N := 24) hx hb hts in_X8_back_X8 tyX8 tyX8_ok nmX8 hown hK.1 hP hD hS 0 rfl rfl 0 (by decide) (hts _ kw_X8_back_1) (fun _ h9 => h9) rfl (tyX8_ok 0 (by decide)) rfl rfl (Nat.le_of_ble_eq_true rfl) dX8_back_2 (fun H locs hP hD hS => ?_)
    have hP : va_P D vwCl (wM cyI cyZ qa (M.1, va_up M.2 0 (0 : Int32))) H := hP
    have hD : va_D A (wM cyI cyZ qa (M.1, va_up M.2 0 (0 : Int32))) := hD
    refine lv_iload_n hx hb dX8_back_5 rfl (lv_at hl 1 rfl) ?_
    refine lv_iconst (v := (0 : Int32)) hx hb dX8_back_6 (by decide) ?_
    refine lv_iconst (v := (1 : Int32)) hx hb dX8_back_7 (by decide) ?_
    obtain ⟨z1, hz1, h⟩ := jb h
    refine jki (jrS (As := [.int a1, .int (0 : Int32), .int (1 : Int32)]) (rest := []) ⟨hx, hb, hml, hown, hts⟩ (c_X8_in l D cyI cyZ cyT   a1 (0 : Int32) (1 : Int32) z1 hz1) (va_cwS 3 hts gX8_back_X8_in rfl rfl rfl (by decide +kernel) ⟨Nat.le_of_ble_eq_true rfl, Nat.le_of_ble_eq_true rfl⟩) hK jP0 rfl rfl hl.1 (Nat.le_of_ble_eq_true rfl) dX8_back_8 ⟨Nat.le_of_ble_eq_true rfl, Nat.le_of_ble_eq_true rfl⟩) ?_
    clear hz1
    refine lv_if_ne (tgt := 17) hx hb dX8_back_11 (by decide) (fun c2 => ?_) (fun c2 => ?_)
    · have h := jf c2 h
      refine lv_aload_n hx hb dX8_back_17 rfl (lv_at hl 0 rfl) ?_
      refine va_get (D := D) (ci := 8) (v := .ref (qa 9)) (C := RX8) (T := TX8) (N := 24) hx hb hts in_X8_back_X8 hown hK.1 hP 0 rfl rfl 18 (by decide) (hts _ kw_X8_back_2) (fun _ h9 => h9) rfl dX8_back_18 ?_
      refine lv_iload_n hx hb dX8_back_21 rfl (lv_at hl 1 rfl) ?_
      obtain ⟨g3, h⟩ := jn h
      refine jzld hx hb hK hP 9 rfl _ rfl g3 dX8_back_22 ?_
      refine lv_if_ne (tgt := 29) hx hb dX8_back_23 (by decide) (fun c4 => ?_) (fun c4 => ?_)
      · have h := jf c4 h
        refine lv_iconst (v := (0 : Int32)) hx hb dX8_back_29 (by decide) ?_
        refine lv_istore_n (lv' := [(2, .int (0 : Int32)), (0, .ref (qa 0)), (1, .int a1)]) hx hb dX8_back_30 rfl hl (by decide) rfl (fun ls hl => ?_)
        obtain ⟨r5, hz5, h5_⟩ := jb h
        have hex5 : ∀ e5 : Mo, r5 = e5 → ∀ (H : Heap) (locs : List Loc), va_P D vwCl (wM cyI cyZ qa e5) H → va_D A (wM cyI cyZ qa e5) → va_S A s.heap H locs → ∀ (ls : Array Slot), lv_has ls 3 [(0, .ref (qa 0))] → W p l e rm_X8_back s m args below meth c H locs 0 0 (MQ below (jQi D A (fun u : Mo => wM cyI cyZ qa u) o) args s 0 0 A) (F0 m 60 ls []) := by
          intro e5 he H locs hP hD hS ls hl
          rw [he] at h5_
          have h := h5_
          clear hz5
          refine lv_aload_n hx hb dX8_back_60 rfl (lv_at hl 0 rfl) ?_
          refine lv_iconst (v := (0 : Int32)) hx hb dX8_back_61 (by decide) ?_
          refine va_put (D := D) (ci := 8) (v := .int (0 : Int32)) (ty := .int) (C := RX8) (T := TX8) (N := 24) hx hb hts in_X8_back_X8 tyX8 tyX8_ok nmX8 hown hK.1 hP hD hS 0 rfl rfl 16 (by decide) (hts _ kw_X8_back_5) (fun _ h9 => h9) rfl (tyX8_ok 16 (by decide)) rfl rfl (Nat.le_of_ble_eq_true rfl) dX8_back_62 (fun H locs hP hD hS => ?_)
          have hP : va_P D vwCl (wM cyI cyZ qa (e5.1, va_up e5.2 9 (0 : Int32))) H := hP
          have hD : va_D A (wM cyI cyZ qa (e5.1, va_up e5.2 9 (0 : Int32))) := hD
          refine lv_aload_n hx hb dX8_back_65 rfl (lv_at hl 0 rfl) ?_
          refine va_get (D := D) (ci := 8) (v := .ref (qa 6)) (C := RX8) (T := TX8) (N := 24) hx hb hts in_X8_back_X8 hown hK.1 hP 0 rfl rfl 14 (by decide) (hts _ kw_X8_back_3) (fun _ h9 => h9) rfl dX8_back_66 ?_
          refine lv_iconst (v := (0 : Int32)) hx hb dX8_back_69 (by decide) ?_
          refine jald hx hb hK hP 6 rfl 0 (by decide) (by decide) dX8_back_70 ?_
          exact W.iret hx hb hr (fun t ht _ => ⟨⟨_, _, rfl, Option.some.inj h, by rw [ht]; exact hP, hD⟩, hS.F ht⟩) hS.2.2 dX8_back_71 hlocks
        have hlp5 : ∀ (nn : Nat) (z5 : (Int32 × Mo)), jw (X8_back_s31 a1) nn z5 = some r5 → ∀ (H : Heap) (locs : List Loc), va_P D vwCl (wM cyI cyZ qa z5.2) H → va_D A (wM cyI cyZ qa z5.2) → va_S A s.heap H locs → ∀ (ls : Array Slot), lv_has ls 3 [(0, .ref (qa 0)), (1, .int a1), (2, .int z5.1)] → W p l e rm_X8_back s m args below meth c H locs 0 0 (MQ below (jQi D A (fun u : Mo => wM cyI cyZ qa u) o) args s 0 0 A) (F0 m 31 ls []) := by
          refine jw_P (r := r5) (P := fun z5 : (Int32 × Mo) => ∀ (H : Heap) (locs : List Loc), va_P D vwCl (wM cyI cyZ qa z5.2) H → va_D A (wM cyI cyZ qa z5.2) → va_S A s.heap H locs → ∀ (ls : Array Slot), lv_has ls 3 [(0, .ref (qa 0)), (1, .int a1), (2, .int z5.1)] → W p l e rm_X8_back s m args below meth c H locs 0 0 (MQ below (jQi D A (fun u : Mo => wM cyI cyZ qa u) o) args s 0 0 A) (F0 m 31 ls [])) ?_
          intro z5 x5 h hin hout H locs hP hD hS ls hl
          unfold X8_back_s31 at h
          refine lv_iload_n hx hb dX8_back_31 rfl (lv_at hl 2 rfl) ?_
          refine lv_bipush (v := (8 : Int32)) hx hb dX8_back_32 (by decide) ?_
          refine lv_icmp_ge (tgt := 60) hx hb dX8_back_34 (by decide) (fun c6 => ?_) (fun c6 => ?_)
          · have h := jt c6 h
            exact hex5 _ (hout _ (Option.some.inj h).symm).symm H locs hP hD hS ls (lv_sub hl [0] rfl)
          · have h := jf c6 h
            refine lv_aload_n hx hb dX8_back_37 rfl (lv_at hl 0 rfl) ?_
            refine va_get (D := D) (ci := 8) (v := .ref (qa 6)) (C := RX8) (T := TX8) (N := 24) hx hb hts in_X8_back_X8 hown hK.1 hP 0 rfl rfl 14 (by decide) (hts _ kw_X8_back_3) (fun _ h9 => h9) rfl dX8_back_38 ?_
            refine lv_iload_n hx hb dX8_back_41 rfl (lv_at hl 2 rfl) ?_
            refine lv_aload_n hx hb dX8_back_42 rfl (lv_at hl 0 rfl) ?_
            refine va_get (D := D) (ci := 8) (v := .ref (qa 8)) (C := RX8) (T := TX8) (N := 24) hx hb hts in_X8_back_X8 hown hK.1 hP 0 rfl rfl 17 (by decide) (hts _ kw_X8_back_4) (fun _ h9 => h9) rfl dX8_back_43 ?_
            refine lv_bipush (v := (8 : Int32)) hx hb dX8_back_46 (by decide) ?_
            refine lv_iload_n hx hb dX8_back_48 rfl (lv_at hl 1 rfl) ?_
            refine lv_imul hx hb dX8_back_49 ?_
            refine lv_iload_n hx hb dX8_back_50 rfl (lv_at hl 2 rfl) ?_
            refine lv_iadd hx hb dX8_back_51 ?_
            obtain ⟨g7, h⟩ := jn h
            refine jald hx hb hK hP 8 rfl _ rfl g7 dX8_back_52 ?_
            obtain ⟨g8, h⟩ := jn h
            refine jast (w' := wM cyI cyZ qa (va_up z5.2.1 5 (upd (z5.2.1 5) z5.1.toNatClampNeg (z5.2.1 7 (((8 : Int32) * a1) + z5.1).toNatClampNeg)), z5.2.2)) hx hb hK hP hD hS 6 rfl _ rfl g8 rfl dX8_back_53 (fun H locs hP hD hS => ?_)
            refine lv_iinc (v := z5.1 + (1 : Int32)) (lv' := [(2, .int (z5.1 + (1 : Int32))), (0, .ref (qa 0)), (1, .int a1)]) hx hb dX8_back_54 hl (k := 2) rfl rfl (by decide) rfl (fun ls hl => ?_)
            refine lv_goto (tgt := 31) hx hb dX8_back_57 (by decide) ?_
            exact hin _ (Option.some.inj h).symm H locs hP hD hS ls (lv_sub hl [1, 2, 0] rfl)
        exact hlp5 _ _ hz5 H locs hP hD hS ls (lv_sub hl [1, 2, 0] rfl)
      · have h := jt c4 h
        refine lv_bipush (v := (-4 : Int32)) hx hb dX8_back_26 (by decide) ?_
        exact W.iret hx hb hr (fun t ht _ => ⟨⟨_, _, rfl, Option.some.inj h, by rw [ht]; exact hP, hD⟩, hS.F ht⟩) hS.2.2 dX8_back_28 hlocks
    · have h := jt c2 h
      refine lv_bipush (v := (-2 : Int32)) hx hb dX8_back_14 (by decide) ?_
      exact W.iret hx hb hr (fun t ht _ => ⟨⟨_, _, rfl, Option.some.inj h, by rw [ht]; exact hP, hD⟩, hS.F ht⟩) hS.2.2 dX8_back_16 hlocks
  exact key s.heap [] hP hD hS
theorem kw_X8_isLiving_1 : (.fieldLink RX8 25 "BellTheCatModel" "s" "[I" : Cond) ∈ wsX8_isLiving := List.mem_of_getElem? (i := 1) rfl
theorem in_X8_isLiving_X8 : ∀ w ∈ wsX80, w ∈ wsX8_isLiving := fun w h => List.mem_cons_of_mem _ (List.mem_append_right _ h)
abbrev rm_X8_isLiving : Room := { frames := 0, cells := 0, slots := 0, locals := 0 }
set_option maxHeartbeats 4000000 in
set_option maxRecDepth 100000 in
theorem c_X8_isLiving (l : Launch) (D : va_G) (cyI cyZ cyT : ClassId) (qa : Nat → Nat) (a1 : Int32) (M : Mo) (o : Int32) (hf : f_X8_isLiving a1 M = some o) : Met l yX8_isLiving wsX8_isLiving rm_X8_isLiving (va_Pc [.ref (qa 0), .int a1] (jB D cyI cyZ cyT (wM cyI cyZ qa M))) (jSi o) 0 0 (fun _ => False) := by
  refine Met.ofW (cc := cX8_isLiving) (maxL := 2) (ret := (some .boolean)) (by decide) rfl ?_
  intro p e s m args below meth c s₁ B hml hv
  obtain ⟨rfl, hP, hK⟩ := hv
  have hx := B.exec
  have hb := B.bytes
  have hr := B.returns
  have hts := atoms_spec (ws := wsX8_isLiving) B.pre
  have hown : s.vm.findClass RX8 = some m.cls := findClass_of_methodNamed B.named
  have hlocks := B.notSynchronized
  have hl := lv_entry ([.ref (qa 0), .int a1]) (n := 2) (Nat.le_of_ble_eq_true rfl)
  rw [lg_entry_eq]
  generalize (lg_sl ([.ref (qa 0), .int a1]) ++ List.replicate (2 - (lg_sl ([.ref (qa 0), .int a1])).length) Slot.unset).toArray = ls at hl ⊢
  have hl : lv_has ls 2 [(0, .ref (qa 0)), (1, .int a1)] := hl
  clear B
  generalize ([.ref (qa 0), .int a1] : List Value).toArray = args at hts ⊢
  have key : ∀ (H : Heap), va_P D vwCl (wM cyI cyZ qa M) H → H = s.heap → W p l e rm_X8_isLiving s m args below meth c H [] 0 0 (MQ below (jSi o) args s 0 0 (fun _ => False)) (F0 m 0 ls []) := by
    intro H hP hH
    have h := hf
    unfold f_X8_isLiving at h
    refine lv_aload_n hx hb dX8_isLiving_0 rfl (lv_at hl 0 rfl) ?_
    refine va_get (D := D) (ci := 8) (v := .ref (qa 6)) (C := RX8) (T := TX8) (N := 24) hx hb hts in_X8_isLiving_X8 hown hK.1 hP 0 rfl rfl 14 (by decide) (hts _ kw_X8_isLiving_1) (fun _ h9 => h9) rfl dX8_isLiving_1 ?_
    refine lv_iconst (v := (1 : Int32)) hx hb dX8_isLiving_4 (by decide) ?_
    refine jald hx hb hK hP 6 rfl 1 (by decide) (by decide) dX8_isLiving_5 ?_
    refine lv_iload_n hx hb dX8_isLiving_6 rfl (lv_at hl 1 rfl) ?_
    refine lv_ishr hx hb dX8_isLiving_7 ?_
    refine lv_iconst (v := (1 : Int32)) hx hb dX8_isLiving_8 (by decide) ?_
    refine lv_iand hx hb dX8_isLiving_9 ?_
    refine lv_iconst (v := (1 : Int32)) hx hb dX8_isLiving_10 (by decide) ?_
    refine lv_icmp_ne (tgt := 18) hx hb dX8_isLiving_11 (by decide) (fun c1 => ?_) (fun c1 => ?_)
    · have h := jf c1 h
      refine lv_iconst (v := (0 : Int32)) hx hb dX8_isLiving_18 (by decide) ?_
      exact W.zret hx hb hr rfl (fun t ht _ => ⟨_, rfl, Option.some.inj h, ht.trans hH⟩) (fun q h => by cases h) dX8_isLiving_19 hlocks
    · have h := jt c1 h
      refine lv_iconst (v := (1 : Int32)) hx hb dX8_isLiving_14 (by decide) ?_
      refine lv_goto (tgt := 19) hx hb dX8_isLiving_15 (by decide) ?_
      exact W.zret hx hb hr rfl (fun t ht _ => ⟨_, rfl, Option.some.inj h, ht.trans hH⟩) (fun q h => by cases h) dX8_isLiving_19 hlocks
  exact key s.heap hP rfl
abbrev rm_X8_ones : Room := { frames := 0, cells := 0, slots := 0, locals := 0 }
set_option maxHeartbeats 4000000 in
set_option maxRecDepth 100000 in
theorem c_X8_ones (l : Launch) (D : va_G) (cyI cyZ cyT : ClassId) (N : Nat) (a0 : Int32) (o : Int32) (hf : f_X8_ones N a0 = some o) : Met l yX8_ones wsX8_ones rm_X8_ones (va_Pc [.int a0] (jB D cyI cyZ cyT ([]))) (jSi o) 0 0 (fun _ => False) := by
  refine Met.ofW (cc := cX8_ones) (maxL := 3) (ret := (some .int)) (by decide) rfl ?_
  intro p e s m args below meth c s₁ B hml hv
  obtain ⟨rfl, hP, hK⟩ := hv
  have hx := B.exec
  have hb := B.bytes
  have hr := B.returns
  have hts := atoms_spec (ws := wsX8_ones) B.pre
  have hown : s.vm.findClass RX8 = some m.cls := findClass_of_methodNamed B.named
  have hlocks := B.notSynchronized
  have hl := lv_entry ([.int a0]) (n := 3) (Nat.le_of_ble_eq_true rfl)
  rw [lg_entry_eq]
  generalize (lg_sl ([.int a0]) ++ List.replicate (3 - (lg_sl ([.int a0])).length) Slot.unset).toArray = ls at hl ⊢
  have hl : lv_has ls 3 [(0, .int a0)] := hl
  clear B
  generalize ([.int a0] : List Value).toArray = args at hts ⊢
  have key : ∀ (H : Heap), va_P D vwCl ([]) H → H = s.heap → W p l e rm_X8_ones s m args below meth c H [] 0 0 (MQ below (jSi o) args s 0 0 (fun _ => False)) (F0 m 0 ls []) := by
    intro H hP hH
    have h := hf
    unfold f_X8_ones at h
    refine lv_iconst (v := (0 : Int32)) hx hb dX8_ones_0 (by decide) ?_
    refine lv_istore_n (lv' := [(1, .int (0 : Int32)), (0, .int a0)]) hx hb dX8_ones_1 rfl hl (by decide) rfl (fun ls hl => ?_)
    refine lv_iconst (v := (0 : Int32)) hx hb dX8_ones_2 (by decide) ?_
    refine lv_istore_n (lv' := [(2, .int (0 : Int32)), (1, .int (0 : Int32)), (0, .int a0)]) hx hb dX8_ones_3 rfl hl (by decide) rfl (fun ls hl => ?_)
    obtain ⟨r1, hz1, h1_⟩ := jb h
    have hex1 : ∀ e1 : Int32, r1 = e1 → ∀ (ls : Array Slot), lv_has ls 3 [(1, .int e1)] → W p l e rm_X8_ones s m args below meth c H [] 0 0 (MQ below (jSi o) args s 0 0 (fun _ => False)) (F0 m 24 ls []) := by
      intro e1 he ls hl
      rw [he] at h1_
      have h := h1_
      clear hz1
      refine lv_iload_n hx hb dX8_ones_24 rfl (lv_at hl 0 rfl) ?_
      exact W.iret hx hb hr (fun t ht _ => ⟨_, rfl, Option.some.inj h, ht.trans hH⟩) (fun q h => by cases h) dX8_ones_25 hlocks
    have hlp1 : ∀ (nn : Nat) (z1 : (Int32 × Int32)), jw (X8_ones_s4 a0) nn z1 = some r1 → ∀ (ls : Array Slot), lv_has ls 3 [(0, .int a0), (1, .int z1.1), (2, .int z1.2)] → W p l e rm_X8_ones s m args below meth c H [] 0 0 (MQ below (jSi o) args s 0 0 (fun _ => False)) (F0 m 4 ls []) := by
      refine jw_P (r := r1) (P := fun z1 : (Int32 × Int32) => ∀ (ls : Array Slot), lv_has ls 3 [(0, .int a0), (1, .int z1.1), (2, .int z1.2)] → W p l e rm_X8_ones s m args below meth c H [] 0 0 (MQ below (jSi o) args s 0 0 (fun _ => False)) (F0 m 4 ls [])) ?_
      intro z1 x1 h hin hout ls hl
      unfold X8_ones_s4 at h
      refine lv_iload_n hx hb dX8_ones_4 rfl (lv_at hl 2 rfl) ?_
      refine lv_bipush (v := (6 : Int32)) hx hb dX8_ones_5 (by decide) ?_
      refine lv_icmp_ge (tgt := 24) hx hb dX8_ones_7 (by decide) (fun c2 => ?_) (fun c2 => ?_)
      · have h := jt c2 h
        exact hex1 _ (hout _ (Option.some.inj h).symm).symm ls (lv_sub hl [1] rfl)
      · have h := jf c2 h
        refine lv_iload_n hx hb dX8_ones_10 rfl (lv_at hl 1 rfl) ?_
        refine lv_iload_n hx hb dX8_ones_11 rfl (lv_at hl 0 rfl) ?_
        refine lv_iload_n hx hb dX8_ones_12 rfl (lv_at hl 2 rfl) ?_
        refine lv_ishr hx hb dX8_ones_13 ?_
        refine lv_iconst (v := (1 : Int32)) hx hb dX8_ones_14 (by decide) ?_
        refine lv_iand hx hb dX8_ones_15 ?_
        refine lv_iadd hx hb dX8_ones_16 ?_
        refine lv_istore_n (lv' := [(1, .int (z1.1 + ((a0 >>> (z1.2 &&& 31)) &&& (1 : Int32)))), (0, .int a0), (2, .int z1.2)]) hx hb dX8_ones_17 rfl hl (by decide) rfl (fun ls hl => ?_)
        refine lv_iinc (v := z1.2 + (1 : Int32)) (lv' := [(2, .int (z1.2 + (1 : Int32))), (1, .int (z1.1 + ((a0 >>> (z1.2 &&& 31)) &&& (1 : Int32)))), (0, .int a0)]) hx hb dX8_ones_18 hl (k := 2) rfl rfl (by decide) rfl (fun ls hl => ?_)
        refine lv_goto (tgt := 4) hx hb dX8_ones_21 (by decide) ?_
        exact hin _ (Option.some.inj h).symm ls (lv_sub hl [2, 1, 0] rfl)
    exact hlp1 _ _ hz1 ls (lv_sub hl [2, 1, 0] rfl)
  exact key s.heap hP rfl
theorem kw_X8_mayGo_1 : (.fieldLink RX8 22 "BellTheCatModel" "many" "[I" : Cond) ∈ wsX8_mayGo := List.mem_of_getElem? (i := 1) rfl
theorem kw_X8_mayGo_2 : (.fieldLink RX8 25 "BellTheCatModel" "s" "[I" : Cond) ∈ wsX8_mayGo := List.mem_of_getElem? (i := 2) rfl
theorem kw_X8_mayGo_3 : (.fieldLink RX8 44 "BellTheCatModel" "row" "[I" : Cond) ∈ wsX8_mayGo := List.mem_of_getElem? (i := 3) rfl
theorem in_X8_mayGo_X8 : ∀ w ∈ wsX80, w ∈ wsX8_mayGo := fun w h => List.mem_cons_of_mem _ (List.mem_append_right _ h)
abbrev rm_X8_mayGo : Room := { frames := 1, cells := 0, slots := 0, locals := 22 }
set_option maxHeartbeats 4000000 in
set_option maxRecDepth 100000 in
theorem c_X8_mayGo (l : Launch) (D : va_G) (cyI cyZ cyT : ClassId) (qa : Nat → Nat) (N : Nat) (M : Mo) (o : Int32) (hf : f_X8_mayGo N M = some o) : Met l yX8_mayGo wsX8_mayGo rm_X8_mayGo (va_Pc [.ref (qa 0)] (jB D cyI cyZ cyT (wM cyI cyZ qa M))) (jSi o) 0 0 (fun _ => False) := by
  refine Met.ofW (cc := cX8_mayGo) (maxL := 5) (ret := (some .boolean)) (by decide) rfl ?_
  intro p e s m args below meth c s₁ B hml hv
  obtain ⟨rfl, hP, hK⟩ := hv
  have hx := B.exec
  have hb := B.bytes
  have hr := B.returns
  have hts := atoms_spec (ws := wsX8_mayGo) B.pre
  have hown : s.vm.findClass RX8 = some m.cls := findClass_of_methodNamed B.named
  have hlocks := B.notSynchronized
  have hl := lv_entry ([.ref (qa 0)]) (n := 5) (Nat.le_of_ble_eq_true rfl)
  rw [lg_entry_eq]
  generalize (lg_sl ([.ref (qa 0)]) ++ List.replicate (5 - (lg_sl ([.ref (qa 0)])).length) Slot.unset).toArray = ls at hl ⊢
  have hl : lv_has ls 5 [(0, .ref (qa 0))] := hl
  clear B
  generalize ([.ref (qa 0)] : List Value).toArray = args at hts ⊢
  have key : ∀ (H : Heap), va_P D vwCl (wM cyI cyZ qa M) H → H = s.heap → W p l e rm_X8_mayGo s m args below meth c H [] 0 0 (MQ below (jSi o) args s 0 0 (fun _ => False)) (F0 m 0 ls []) := by
    intro H hP hH
    have h := hf
    unfold f_X8_mayGo at h
    refine lv_aload_n hx hb dX8_mayGo_0 rfl (lv_at hl 0 rfl) ?_
    refine va_get (D := D) (ci := 8) (v := .ref (qa 5)) (C := RX8) (T := TX8) (N := 24) hx hb hts in_X8_mayGo_X8 hown hK.1 hP 0 rfl rfl 13 (by decide) (hts _ kw_X8_mayGo_1) (fun _ h9 => h9) rfl dX8_mayGo_1 ?_
    refine lv_iconst (v := (1 : Int32)) hx hb dX8_mayGo_4 (by decide) ?_
    refine jald hx hb hK hP 5 rfl 1 (by decide) (by decide) dX8_mayGo_5 ?_
    refine lv_aload_n hx hb dX8_mayGo_6 rfl (lv_at hl 0 rfl) ?_
    refine va_get (D := D) (ci := 8) (v := .ref (qa 6)) (C := RX8) (T := TX8) (N := 24) hx hb hts in_X8_mayGo_X8 hown hK.1 hP 0 rfl rfl 14 (by decide) (hts _ kw_X8_mayGo_2) (fun _ h9 => h9) rfl dX8_mayGo_7 ?_
    refine lv_iconst (v := (1 : Int32)) hx hb dX8_mayGo_10 (by decide) ?_
    refine jald hx hb hK hP 6 rfl 1 (by decide) (by decide) dX8_mayGo_11 ?_
    obtain ⟨z1, hz1, h⟩ := jb h
    refine jki (jrS (As := [.int (M.1 5 1)]) (rest := [.int (M.1 4 1)]) ⟨hx, hb, hml, hown, hts⟩ (c_X8_ones l D cyI cyZ cyT   N (M.1 5 1) z1 hz1) (va_cwS 1 hts gX8_mayGo_X8_ones rfl rfl rfl (by decide +kernel) ⟨Nat.le_of_ble_eq_true rfl, Nat.le_of_ble_eq_true rfl⟩) hK jP0 rfl rfl hl.1 (Nat.le_of_ble_eq_true rfl) dX8_mayGo_12 ⟨Nat.le_of_ble_eq_true rfl, Nat.le_of_ble_eq_true rfl⟩) ?_
    clear hz1
    obtain ⟨z2, hz2, h⟩ := jb h
    have hk2 : ∀ (ls : Array Slot), lv_has ls 5 [(0, .ref (qa 0))] → W p l e rm_X8_mayGo s m args below meth c H [] 0 0 (MQ below (jSi o) args s 0 0 (fun _ => False)) (F0 m 23 ls [.int z2]) := by
      intro ls hl
      refine lv_istore_n (lv' := [(1, .int z2), (0, .ref (qa 0))]) hx hb dX8_mayGo_23 rfl hl (by decide) rfl (fun ls hl => ?_)
      refine lv_iconst (v := (0 : Int32)) hx hb dX8_mayGo_24 (by decide) ?_
      refine lv_istore_n (lv' := [(2, .int (0 : Int32)), (1, .int z2), (0, .ref (qa 0))]) hx hb dX8_mayGo_25 rfl hl (by decide) rfl (fun ls hl => ?_)
      refine lv_iconst (v := (1 : Int32)) hx hb dX8_mayGo_26 (by decide) ?_
      refine lv_istore_n (lv' := [(3, .int (1 : Int32)), (2, .int (0 : Int32)), (1, .int z2), (0, .ref (qa 0))]) hx hb dX8_mayGo_27 rfl hl (by decide) rfl (fun ls hl => ?_)
      refine lv_iconst (v := (0 : Int32)) hx hb dX8_mayGo_28 (by decide) ?_
      refine lv_istore (lv' := [(4, .int (0 : Int32)), (3, .int (1 : Int32)), (2, .int (0 : Int32)), (1, .int z2), (0, .ref (qa 0))]) hx hb dX8_mayGo_29 hl (by decide) rfl (fun ls hl => ?_)
      obtain ⟨r4, hz4, h4_⟩ := jb h
      have hex4 : ∀ e4 : Int32, r4 = e4 → ∀ (ls : Array Slot), lv_has ls 5 [(3, .int e4)] → W p l e rm_X8_mayGo s m args below meth c H [] 0 0 (MQ below (jSi o) args s 0 0 (fun _ => False)) (F0 m 103 ls []) := by
        intro e4 he ls hl
        rw [he] at h4_
        have h := h4_
        clear hz4
        refine lv_iload_n hx hb dX8_mayGo_103 rfl (lv_at hl 0 rfl) ?_
        obtain ⟨gz, h⟩ := jn h
        exact W.zret hx hb hr (jz_n gz) (fun t ht _ => ⟨_, rfl, Option.some.inj h, ht.trans hH⟩) (fun q h => by cases h) dX8_mayGo_104 hlocks
      have hlp4 : ∀ (nn : Nat) (z4 : (Int32 × Int32 × Int32)), jw (X8_mayGo_s31 M z2) nn z4 = some r4 → ∀ (ls : Array Slot), lv_has ls 5 [(0, .ref (qa 0)), (1, .int z2), (2, .int z4.1), (3, .int z4.2.1), (4, .int z4.2.2)] → W p l e rm_X8_mayGo s m args below meth c H [] 0 0 (MQ below (jSi o) args s 0 0 (fun _ => False)) (F0 m 31 ls []) := by
        refine jw_P (r := r4) (P := fun z4 : (Int32 × Int32 × Int32) => ∀ (ls : Array Slot), lv_has ls 5 [(0, .ref (qa 0)), (1, .int z2), (2, .int z4.1), (3, .int z4.2.1), (4, .int z4.2.2)] → W p l e rm_X8_mayGo s m args below meth c H [] 0 0 (MQ below (jSi o) args s 0 0 (fun _ => False)) (F0 m 31 ls [])) ?_
        intro z4 x4 h hin hout ls hl
        unfold X8_mayGo_s31 at h
        refine lv_iload hx hb dX8_mayGo_31 (lv_at hl 4 rfl) ?_
        refine lv_aload_n hx hb dX8_mayGo_33 rfl (lv_at hl 0 rfl) ?_
        refine va_get (D := D) (ci := 8) (v := .ref (qa 5)) (C := RX8) (T := TX8) (N := 24) hx hb hts in_X8_mayGo_X8 hown hK.1 hP 0 rfl rfl 13 (by decide) (hts _ kw_X8_mayGo_1) (fun _ h9 => h9) rfl dX8_mayGo_34 ?_
        refine lv_iconst (v := (1 : Int32)) hx hb dX8_mayGo_37 (by decide) ?_
        refine jald hx hb hK hP 5 rfl 1 (by decide) (by decide) dX8_mayGo_38 ?_
        refine lv_icmp_ge (tgt := 103) hx hb dX8_mayGo_39 (by decide) (fun c5 => ?_) (fun c5 => ?_)
        · have h := jt c5 h
          exact hex4 _ (hout _ (Option.some.inj h).symm).symm ls (lv_sub hl [3] rfl)
        · have h := jf c5 h
          refine lv_iload_n hx hb dX8_mayGo_42 rfl (lv_at hl 3 rfl) ?_
          obtain ⟨z6, hz6, h⟩ := jb h
          have hk6 : ∀ (ls : Array Slot), lv_has ls 5 [(0, .ref (qa 0)), (1, .int z2), (2, .int z4.1), (4, .int z4.2.2)] → W p l e rm_X8_mayGo s m args below meth c H [] 0 0 (MQ below (jSi o) args s 0 0 (fun _ => False)) (F0 m 84 ls [.int z6]) := by
            intro ls hl
            refine lv_istore_n (lv' := [(3, .int z6), (0, .ref (qa 0)), (1, .int z2), (2, .int z4.1), (4, .int z4.2.2)]) hx hb dX8_mayGo_84 rfl hl (by decide) rfl (fun ls hl => ?_)
            refine lv_iload_n hx hb dX8_mayGo_85 rfl (lv_at hl 3 rfl) ?_
            refine lv_iconst (v := (1 : Int32)) hx hb dX8_mayGo_86 (by decide) ?_
            refine lv_aload_n hx hb dX8_mayGo_87 rfl (lv_at hl 1 rfl) ?_
            refine va_get (D := D) (ci := 8) (v := .ref (qa 12)) (C := RX8) (T := TX8) (N := 24) hx hb hts in_X8_mayGo_X8 hown hK.1 hP 0 rfl rfl 22 (by decide) (hts _ kw_X8_mayGo_3) (fun _ h9 => h9) rfl dX8_mayGo_88 ?_
            refine lv_iload hx hb dX8_mayGo_91 (lv_at hl 4 rfl) ?_
            obtain ⟨g14, h⟩ := jn h
            refine jald hx hb hK hP 12 rfl _ rfl g14 dX8_mayGo_93 ?_
            refine lv_ishl hx hb dX8_mayGo_94 ?_
            refine lv_ior hx hb dX8_mayGo_95 ?_
            refine lv_istore_n (lv' := [(2, .int (z4.1 ||| ((1 : Int32) <<< ((M.1 11 z4.2.2.toNatClampNeg) &&& 31)))), (3, .int z6), (0, .ref (qa 0)), (1, .int z2), (4, .int z4.2.2)]) hx hb dX8_mayGo_96 rfl hl (by decide) rfl (fun ls hl => ?_)
            refine lv_iinc (v := z4.2.2 + (1 : Int32)) (lv' := [(4, .int (z4.2.2 + (1 : Int32))), (2, .int (z4.1 ||| ((1 : Int32) <<< ((M.1 11 z4.2.2.toNatClampNeg) &&& 31)))), (3, .int z6), (0, .ref (qa 0)), (1, .int z2)]) hx hb dX8_mayGo_97 hl (k := 4) rfl rfl (by decide) rfl (fun ls hl => ?_)
            refine lv_goto (tgt := 31) hx hb dX8_mayGo_100 (by decide) ?_
            exact hin _ (Option.some.inj h).symm ls (lv_sub hl [3, 4, 1, 2, 0] rfl)
          clear h
          have h := hz6
          clear hz6
          refine lv_if_eq (tgt := 83) hx hb dX8_mayGo_43 (by decide) (fun c7 => ?_) (fun c7 => ?_)
          · have h := jt c7 h
            refine lv_iconst (v := (0 : Int32)) hx hb dX8_mayGo_83 (by decide) ?_
            obtain rfl := Option.some.inj h
            exact hk6 ls (lv_sub hl [0, 1, 2, 4] rfl)
          · have h := jf c7 h
            refine lv_aload_n hx hb dX8_mayGo_46 rfl (lv_at hl 0 rfl) ?_
            refine lv_aload_n hx hb dX8_mayGo_47 rfl (lv_at hl 0 rfl) ?_
            refine va_get (D := D) (ci := 8) (v := .ref (qa 12)) (C := RX8) (T := TX8) (N := 24) hx hb hts in_X8_mayGo_X8 hown hK.1 hP 0 rfl rfl 22 (by decide) (hts _ kw_X8_mayGo_3) (fun _ h9 => h9) rfl dX8_mayGo_48 ?_
            refine lv_iload hx hb dX8_mayGo_51 (lv_at hl 4 rfl) ?_
            obtain ⟨g8, h⟩ := jn h
            refine jald hx hb hK hP 12 rfl _ rfl g8 dX8_mayGo_53 ?_
            obtain ⟨z9, hz9, h⟩ := jb h
            refine jki (jrV (As := [.int (M.1 11 z4.2.2.toNatClampNeg)]) (rest := []) ⟨hx, hb, hml, hown, hts⟩ (c_X8_isLiving l D cyI cyZ cyT qa  (M.1 11 z4.2.2.toNatClampNeg) M z9 hz9) (cwV 1 hts gX8_mayGo_X8_isLiving rfl rfl rfl (by decide +kernel) ⟨Nat.le_of_ble_eq_true rfl, Nat.le_of_ble_eq_true rfl⟩) hK hP rfl 8 0 rfl rfl rfl hl.1 (Nat.le_of_ble_eq_true rfl) dX8_mayGo_54 ⟨Nat.le_of_ble_eq_true rfl, Nat.le_of_ble_eq_true rfl⟩) ?_
            clear hz9
            refine lv_if_eq (tgt := 83) hx hb dX8_mayGo_57 (by decide) (fun c10 => ?_) (fun c10 => ?_)
            · have h := jt c10 h
              refine lv_iconst (v := (0 : Int32)) hx hb dX8_mayGo_83 (by decide) ?_
              obtain rfl := Option.some.inj h
              exact hk6 ls (lv_sub hl [0, 1, 2, 4] rfl)
            · have h := jf c10 h
              refine lv_iload_n hx hb dX8_mayGo_60 rfl (lv_at hl 1 rfl) ?_
              refine lv_if_eq (tgt := 79) hx hb dX8_mayGo_61 (by decide) (fun c11 => ?_) (fun c11 => ?_)
              · have h := jt c11 h
                refine lv_iconst (v := (1 : Int32)) hx hb dX8_mayGo_79 (by decide) ?_
                refine lv_goto (tgt := 84) hx hb dX8_mayGo_80 (by decide) ?_
                obtain rfl := Option.some.inj h
                exact hk6 ls (lv_sub hl [0, 1, 2, 4] rfl)
              · have h := jf c11 h
                refine lv_iload_n hx hb dX8_mayGo_64 rfl (lv_at hl 2 rfl) ?_
                refine lv_aload_n hx hb dX8_mayGo_65 rfl (lv_at hl 0 rfl) ?_
                refine va_get (D := D) (ci := 8) (v := .ref (qa 12)) (C := RX8) (T := TX8) (N := 24) hx hb hts in_X8_mayGo_X8 hown hK.1 hP 0 rfl rfl 22 (by decide) (hts _ kw_X8_mayGo_3) (fun _ h9 => h9) rfl dX8_mayGo_66 ?_
                refine lv_iload hx hb dX8_mayGo_69 (lv_at hl 4 rfl) ?_
                obtain ⟨g12, h⟩ := jn h
                refine jald hx hb hK hP 12 rfl _ rfl g12 dX8_mayGo_71 ?_
                refine lv_ishr hx hb dX8_mayGo_72 ?_
                refine lv_iconst (v := (1 : Int32)) hx hb dX8_mayGo_73 (by decide) ?_
                refine lv_iand hx hb dX8_mayGo_74 ?_
                refine lv_iconst (v := (1 : Int32)) hx hb dX8_mayGo_75 (by decide) ?_
                refine lv_icmp_eq (tgt := 83) hx hb dX8_mayGo_76 (by decide) (fun c13 => ?_) (fun c13 => ?_)
                · have h := jt c13 h
                  refine lv_iconst (v := (0 : Int32)) hx hb dX8_mayGo_83 (by decide) ?_
                  obtain rfl := Option.some.inj h
                  exact hk6 ls (lv_sub hl [0, 1, 2, 4] rfl)
                · have h := jf c13 h
                  refine lv_iconst (v := (1 : Int32)) hx hb dX8_mayGo_79 (by decide) ?_
                  refine lv_goto (tgt := 84) hx hb dX8_mayGo_80 (by decide) ?_
                  obtain rfl := Option.some.inj h
                  exact hk6 ls (lv_sub hl [0, 1, 2, 4] rfl)
      exact hlp4 _ _ hz4 ls (lv_sub hl [4, 3, 2, 1, 0] rfl)
    clear h
    have h := hz2
    clear hz2
    refine lv_icmp_gt (tgt := 22) hx hb dX8_mayGo_15 (by decide) (fun c3 => ?_) (fun c3 => ?_)
    · have h := jt c3 h
      refine lv_iconst (v := (0 : Int32)) hx hb dX8_mayGo_22 (by decide) ?_
      obtain rfl := Option.some.inj h
      exact hk2 ls (lv_sub hl [0] rfl)
    · have h := jf c3 h
      refine lv_iconst (v := (1 : Int32)) hx hb dX8_mayGo_18 (by decide) ?_
      refine lv_goto (tgt := 23) hx hb dX8_mayGo_19 (by decide) ?_
      obtain rfl := Option.some.inj h
      exact hk2 ls (lv_sub hl [0] rfl)
  exact key s.heap hP rfl
theorem kw_X8_rowOf_1 : (.fieldLink RX8 22 "BellTheCatModel" "many" "[I" : Cond) ∈ wsX8_rowOf := List.mem_of_getElem? (i := 1) rfl
theorem kw_X8_rowOf_2 : (.fieldLink RX8 44 "BellTheCatModel" "row" "[I" : Cond) ∈ wsX8_rowOf := List.mem_of_getElem? (i := 2) rfl
theorem in_X8_rowOf_X8 : ∀ w ∈ wsX80, w ∈ wsX8_rowOf := fun w h => List.mem_cons_of_mem _ (List.mem_append_right _ h)
abbrev rm_X8_rowOf : Room := { frames := 0, cells := 0, slots := 0, locals := 0 }
set_option maxHeartbeats 4000000 in
set_option maxRecDepth 100000 in
theorem c_X8_rowOf (l : Launch) (D : va_G) (cyI cyZ cyT : ClassId) (qa : Nat → Nat) (sz : Nat) (N : Nat) (a1 : Int32) (M : Mo) (o : Mo) (hf : f_X8_rowOf N a1 M = some o) : Met l yX8_rowOf wsX8_rowOf rm_X8_rowOf (va_Pc [.ref (qa 0), .int a1] (jM D cyI cyZ cyT (wM cyI cyZ qa M) sz)) (jQv D (va_A (wM cyI cyZ qa M) sz) (fun u : Mo => wM cyI cyZ qa u) o) 0 0 (va_A (wM cyI cyZ qa M) sz) := by
  refine Met.ofW (cc := cX8_rowOf) (maxL := 4) (ret := none) (by decide) rfl ?_
  intro p e s m args below meth c s₁ B hml hv
  obtain ⟨rfl, hsz, hP, hK, hD0⟩ := hv
  have hx := B.exec
  have hb := B.bytes
  have hr := B.returns
  have hts := atoms_spec (ws := wsX8_rowOf) B.pre
  have hown : s.vm.findClass RX8 = some m.cls := findClass_of_methodNamed B.named
  have hlocks := B.notSynchronized
  subst hsz
  have hD := hD0.self (sz := s.heap.size)
  generalize hAe : va_A (wM cyI cyZ qa M) s.heap.size = A at hD ⊢
  have hA : ∀ q : Nat, s.heap.size ≤ q → A q := fun q h => by rw [← hAe]; exact Or.inr h
  have hS : va_S A s.heap s.heap [] := va_S.rf
  have hl := lv_entry ([.ref (qa 0), .int a1]) (n := 4) (Nat.le_of_ble_eq_true rfl)
  rw [lg_entry_eq]
  generalize (lg_sl ([.ref (qa 0), .int a1]) ++ List.replicate (4 - (lg_sl ([.ref (qa 0), .int a1])).length) Slot.unset).toArray = ls at hl ⊢
  have hl : lv_has ls 4 [(0, .ref (qa 0)), (1, .int a1)] := hl
  clear B
  generalize ([.ref (qa 0), .int a1] : List Value).toArray = args at hts ⊢
  have key : ∀ (H : Heap) (locs : List Loc), va_P D vwCl (wM cyI cyZ qa M) H → va_D A (wM cyI cyZ qa M) → va_S A s.heap H locs → W p l e rm_X8_rowOf s m args below meth c H locs 0 0 (MQ below (jQv D A (fun u : Mo => wM cyI cyZ qa u) o) args s 0 0 A) (F0 m 0 ls []) := by
    intro H locs hP hD hS
    have h := hf
    unfold f_X8_rowOf at h
    refine lv_iload_n hx hb dX8_rowOf_0 rfl (lv_at hl 1 rfl) ?_
    refine lv_istore_n (lv' := [(2, .int a1), (0, .ref (qa 0)), (1, .int a1)]) hx hb dX8_rowOf_1 rfl hl (by decide) rfl (fun ls hl => ?_)
    refine lv_aload_n hx hb dX8_rowOf_2 rfl (lv_at hl 1 rfl) ?_
    refine va_get (D := D) (ci := 8) (v := .ref (qa 5)) (C := RX8) (T := TX8) (N := 24) hx hb hts in_X8_rowOf_X8 hown hK.1 hP 0 rfl rfl 13 (by decide) (hts _ kw_X8_rowOf_1) (fun _ h9 => h9) rfl dX8_rowOf_3 ?_
    refine lv_iconst (v := (1 : Int32)) hx hb dX8_rowOf_6 (by decide) ?_
    refine jald hx hb hK hP 5 rfl 1 (by decide) (by decide) dX8_rowOf_7 ?_
    refine lv_iconst (v := (1 : Int32)) hx hb dX8_rowOf_8 (by decide) ?_
    refine lv_isub hx hb dX8_rowOf_9 ?_
    refine lv_istore_n (lv' := [(3, .int ((M.1 4 1) - (1 : Int32))), (2, .int a1), (0, .ref (qa 0)), (1, .int a1)]) hx hb dX8_rowOf_10 rfl hl (by decide) rfl (fun ls hl => ?_)
    obtain ⟨r1, hz1, h1_⟩ := jb h
    have hex1 : ∀ e1 : Mo, r1 = e1 → ∀ (H : Heap) (locs : List Loc), va_P D vwCl (wM cyI cyZ qa e1) H → va_D A (wM cyI cyZ qa e1) → va_S A s.heap H locs → ∀ (ls : Array Slot), lv_has ls 4 [] → W p l e rm_X8_rowOf s m args below meth c H locs 0 0 (MQ below (jQv D A (fun u : Mo => wM cyI cyZ qa u) o) args s 0 0 A) (F0 m 44 ls []) := by
      intro e1 he H locs hP hD hS ls hl
      rw [he] at h1_
      have h := h1_
      clear hz1
      exact W.vret hx hb hr (fun t ht _ => ⟨⟨_, rfl, Option.some.inj h, by rw [ht]; exact hP, hD⟩, hS.F ht⟩) hS.2.2 dX8_rowOf_44 hlocks
    have hlp1 : ∀ (nn : Nat) (z1 : (Int32 × Int32 × Mo)), jw (X8_rowOf_s11) nn z1 = some r1 → ∀ (H : Heap) (locs : List Loc), va_P D vwCl (wM cyI cyZ qa z1.2.2) H → va_D A (wM cyI cyZ qa z1.2.2) → va_S A s.heap H locs → ∀ (ls : Array Slot), lv_has ls 4 [(0, .ref (qa 0)), (2, .int z1.1), (3, .int z1.2.1)] → W p l e rm_X8_rowOf s m args below meth c H locs 0 0 (MQ below (jQv D A (fun u : Mo => wM cyI cyZ qa u) o) args s 0 0 A) (F0 m 11 ls []) := by
      refine jw_P (r := r1) (P := fun z1 : (Int32 × Int32 × Mo) => ∀ (H : Heap) (locs : List Loc), va_P D vwCl (wM cyI cyZ qa z1.2.2) H → va_D A (wM cyI cyZ qa z1.2.2) → va_S A s.heap H locs → ∀ (ls : Array Slot), lv_has ls 4 [(0, .ref (qa 0)), (2, .int z1.1), (3, .int z1.2.1)] → W p l e rm_X8_rowOf s m args below meth c H locs 0 0 (MQ below (jQv D A (fun u : Mo => wM cyI cyZ qa u) o) args s 0 0 A) (F0 m 11 ls [])) ?_
      intro z1 x1 h hin hout H locs hP hD hS ls hl
      unfold X8_rowOf_s11 at h
      refine lv_iload_n hx hb dX8_rowOf_11 rfl (lv_at hl 2 rfl) ?_
      refine lv_if_lt (tgt := 44) hx hb dX8_rowOf_12 (by decide) (fun c2 => ?_) (fun c2 => ?_)
      · have h := jt c2 h
        exact hex1 _ (hout _ (Option.some.inj h).symm).symm H locs hP hD hS ls (lv_sub hl [] rfl)
      · have h := jf c2 h
        refine lv_aload_n hx hb dX8_rowOf_15 rfl (lv_at hl 0 rfl) ?_
        refine va_get (D := D) (ci := 8) (v := .ref (qa 12)) (C := RX8) (T := TX8) (N := 24) hx hb hts in_X8_rowOf_X8 hown hK.1 hP 0 rfl rfl 22 (by decide) (hts _ kw_X8_rowOf_2) (fun _ h9 => h9) rfl dX8_rowOf_16 ?_
        refine lv_iload_n hx hb dX8_rowOf_19 rfl (lv_at hl 2 rfl) ?_
        refine lv_iload_n hx hb dX8_rowOf_20 rfl (lv_at hl 1 rfl) ?_
        refine lv_aload_n hx hb dX8_rowOf_21 rfl (lv_at hl 0 rfl) ?_
        refine va_get (D := D) (ci := 8) (v := .ref (qa 5)) (C := RX8) (T := TX8) (N := 24) hx hb hts in_X8_rowOf_X8 hown hK.1 hP 0 rfl rfl 13 (by decide) (hts _ kw_X8_rowOf_1) (fun _ h9 => h9) rfl dX8_rowOf_22 ?_
        refine lv_iconst (v := (0 : Int32)) hx hb dX8_rowOf_25 (by decide) ?_
        refine jald hx hb hK hP 5 rfl 0 (by decide) (by decide) dX8_rowOf_26 ?_
        obtain ⟨g3, h⟩ := jn h
        refine lv_irem hx hb dX8_rowOf_27 g3 ?_
        obtain ⟨g4, h⟩ := jn h
        refine jast (w' := wM cyI cyZ qa (va_up z1.2.2.1 11 (upd (z1.2.2.1 11) z1.2.1.toNatClampNeg (z1.1 - z1.1 / (z1.2.2.1 4 0) * (z1.2.2.1 4 0))), z1.2.2.2)) hx hb hK hP hD hS 12 rfl _ rfl g4 rfl dX8_rowOf_28 (fun H locs hP hD hS => ?_)
        refine lv_iload_n hx hb dX8_rowOf_29 rfl (lv_at hl 1 rfl) ?_
        refine lv_aload_n hx hb dX8_rowOf_30 rfl (lv_at hl 0 rfl) ?_
        refine va_get (D := D) (ci := 8) (v := .ref (qa 5)) (C := RX8) (T := TX8) (N := 24) hx hb hts in_X8_rowOf_X8 hown hK.1 hP 0 rfl rfl 13 (by decide) (hts _ kw_X8_rowOf_1) (fun _ h9 => h9) rfl dX8_rowOf_31 ?_
        refine lv_iconst (v := (0 : Int32)) hx hb dX8_rowOf_34 (by decide) ?_
        refine jald hx hb hK hP 5 rfl 0 (by decide) (by decide) dX8_rowOf_35 ?_
        obtain ⟨g5, h⟩ := jn h
        refine lv_idiv hx hb dX8_rowOf_36 g5 ?_
        refine lv_istore_n (lv' := [(2, .int (z1.1 / (z1.2.2.1 4 0))), (0, .ref (qa 0)), (3, .int z1.2.1)]) hx hb dX8_rowOf_37 rfl hl (by decide) rfl (fun ls hl => ?_)
        refine lv_iinc (v := z1.2.1 + (-1 : Int32)) (lv' := [(3, .int (z1.2.1 + (-1 : Int32))), (2, .int (z1.1 / (z1.2.2.1 4 0))), (0, .ref (qa 0))]) hx hb dX8_rowOf_38 hl (k := 2) rfl rfl (by decide) rfl (fun ls hl => ?_)
        refine lv_goto (tgt := 11) hx hb dX8_rowOf_41 (by decide) ?_
        exact hin _ (Option.some.inj h).symm H locs hP hD hS ls (lv_sub hl [2, 1, 0] rfl)
    exact hlp1 _ _ hz1 H locs hP hD hS ls (lv_sub hl [2, 1, 0] rfl)
  exact key s.heap [] hP hD hS
abbrev rm_X8_rowsOf : Room := { frames := 0, cells := 0, slots := 0, locals := 0 }
set_option maxHeartbeats 4000000 in
set_option maxRecDepth 100000 in
theorem c_X8_rowsOf (l : Launch) (D : va_G) (cyI cyZ cyT : ClassId) (N : Nat) (a0 : Int32) (a1 : Int32) (o : Int32) (hf : f_X8_rowsOf N a0 a1 = some o) : Met l yX8_rowsOf wsX8_rowsOf rm_X8_rowsOf (va_Pc [.int a0, .int a1] (jB D cyI cyZ cyT ([]))) (jSi o) 0 0 (fun _ => False) := by
  refine Met.ofW (cc := cX8_rowsOf) (maxL := 4) (ret := (some .int)) (by decide) rfl ?_
  intro p e s m args below meth c s₁ B hml hv
  obtain ⟨rfl, hP, hK⟩ := hv
  have hx := B.exec
  have hb := B.bytes
  have hr := B.returns
  have hts := atoms_spec (ws := wsX8_rowsOf) B.pre
  have hown : s.vm.findClass RX8 = some m.cls := findClass_of_methodNamed B.named
  have hlocks := B.notSynchronized
  have hl := lv_entry ([.int a0, .int a1]) (n := 4) (Nat.le_of_ble_eq_true rfl)
  rw [lg_entry_eq]
  generalize (lg_sl ([.int a0, .int a1]) ++ List.replicate (4 - (lg_sl ([.int a0, .int a1])).length) Slot.unset).toArray = ls at hl ⊢
  have hl : lv_has ls 4 [(0, .int a0), (1, .int a1)] := hl
  clear B
  generalize ([.int a0, .int a1] : List Value).toArray = args at hts ⊢
  have key : ∀ (H : Heap), va_P D vwCl ([]) H → H = s.heap → W p l e rm_X8_rowsOf s m args below meth c H [] 0 0 (MQ below (jSi o) args s 0 0 (fun _ => False)) (F0 m 0 ls []) := by
    intro H hP hH
    have h := hf
    unfold f_X8_rowsOf at h
    refine lv_iconst (v := (1 : Int32)) hx hb dX8_rowsOf_0 (by decide) ?_
    refine lv_istore_n (lv' := [(2, .int (1 : Int32)), (0, .int a0), (1, .int a1)]) hx hb dX8_rowsOf_1 rfl hl (by decide) rfl (fun ls hl => ?_)
    refine lv_iconst (v := (0 : Int32)) hx hb dX8_rowsOf_2 (by decide) ?_
    refine lv_istore_n (lv' := [(3, .int (0 : Int32)), (2, .int (1 : Int32)), (0, .int a0), (1, .int a1)]) hx hb dX8_rowsOf_3 rfl hl (by decide) rfl (fun ls hl => ?_)
    obtain ⟨r1, hz1, h1_⟩ := jb h
    have hex1 : ∀ e1 : Int32, r1 = e1 → ∀ (ls : Array Slot), lv_has ls 4 [(2, .int e1)] → W p l e rm_X8_rowsOf s m args below meth c H [] 0 0 (MQ below (jSi o) args s 0 0 (fun _ => False)) (F0 m 19 ls []) := by
      intro e1 he ls hl
      rw [he] at h1_
      have h := h1_
      clear hz1
      refine lv_iload_n hx hb dX8_rowsOf_19 rfl (lv_at hl 0 rfl) ?_
      exact W.iret hx hb hr (fun t ht _ => ⟨_, rfl, Option.some.inj h, ht.trans hH⟩) (fun q h => by cases h) dX8_rowsOf_20 hlocks
    have hlp1 : ∀ (nn : Nat) (z1 : (Int32 × Int32)), jw (X8_rowsOf_s4 a0 a1) nn z1 = some r1 → ∀ (ls : Array Slot), lv_has ls 4 [(0, .int a0), (1, .int a1), (2, .int z1.1), (3, .int z1.2)] → W p l e rm_X8_rowsOf s m args below meth c H [] 0 0 (MQ below (jSi o) args s 0 0 (fun _ => False)) (F0 m 4 ls []) := by
      refine jw_P (r := r1) (P := fun z1 : (Int32 × Int32) => ∀ (ls : Array Slot), lv_has ls 4 [(0, .int a0), (1, .int a1), (2, .int z1.1), (3, .int z1.2)] → W p l e rm_X8_rowsOf s m args below meth c H [] 0 0 (MQ below (jSi o) args s 0 0 (fun _ => False)) (F0 m 4 ls [])) ?_
      intro z1 x1 h hin hout ls hl
      unfold X8_rowsOf_s4 at h
      refine lv_iload_n hx hb dX8_rowsOf_4 rfl (lv_at hl 3 rfl) ?_
      refine lv_iload_n hx hb dX8_rowsOf_5 rfl (lv_at hl 1 rfl) ?_
      refine lv_icmp_ge (tgt := 19) hx hb dX8_rowsOf_6 (by decide) (fun c2 => ?_) (fun c2 => ?_)
      · have h := jt c2 h
        exact hex1 _ (hout _ (Option.some.inj h).symm).symm ls (lv_sub hl [2] rfl)
      · have h := jf c2 h
        refine lv_iload_n hx hb dX8_rowsOf_9 rfl (lv_at hl 2 rfl) ?_
        refine lv_iload_n hx hb dX8_rowsOf_10 rfl (lv_at hl 0 rfl) ?_
        refine lv_imul hx hb dX8_rowsOf_11 ?_
        refine lv_istore_n (lv' := [(2, .int (z1.1 * a0)), (0, .int a0), (1, .int a1), (3, .int z1.2)]) hx hb dX8_rowsOf_12 rfl hl (by decide) rfl (fun ls hl => ?_)
        refine lv_iinc (v := z1.2 + (1 : Int32)) (lv' := [(3, .int (z1.2 + (1 : Int32))), (2, .int (z1.1 * a0)), (0, .int a0), (1, .int a1)]) hx hb dX8_rowsOf_13 hl (k := 3) rfl rfl (by decide) rfl (fun ls hl => ?_)
        refine lv_goto (tgt := 4) hx hb dX8_rowsOf_16 (by decide) ?_
        exact hin _ (Option.some.inj h).symm ls (lv_sub hl [2, 3, 1, 0] rfl)
    exact hlp1 _ _ hz1 ls (lv_sub hl [2, 3, 1, 0] rfl)
  exact key s.heap hP rfl
theorem kw_X8_findsBest_1 : (.constantLong RX8 206 (-1) : Cond) ∈ wsX8_findsBest := List.mem_of_getElem? (i := 1) rfl
theorem kw_X8_findsBest_2 : (.fieldLink RX8 22 "BellTheCatModel" "many" "[I" : Cond) ∈ wsX8_findsBest := List.mem_of_getElem? (i := 2) rfl
theorem kw_X8_findsBest_3 : (.fieldLink RX8 44 "BellTheCatModel" "row" "[I" : Cond) ∈ wsX8_findsBest := List.mem_of_getElem? (i := 3) rfl
theorem kw_X8_findsBest_4 : (.fieldLink RX8 47 "BellTheCatModel" "bestRow" "[I" : Cond) ∈ wsX8_findsBest := List.mem_of_getElem? (i := 4) rfl
theorem in_X8_findsBest_X8 : ∀ w ∈ wsX80, w ∈ wsX8_findsBest := fun w h => List.mem_cons_of_mem _ (List.mem_append_right _ h)
abbrev rm_X8_findsBest : Room := { frames := 2, cells := 0, slots := 0, locals := 46 }
set_option maxHeartbeats 4000000 in
set_option maxRecDepth 100000 in
theorem c_X8_findsBest (l : Launch) (D : va_G) (cyI cyZ cyT : ClassId) (qa : Nat → Nat) (sz : Nat) (N : Nat) (M : Mo) (o : (Int64 × Mo)) (hf : f_X8_findsBest N M = some o) : Met l yX8_findsBest wsX8_findsBest rm_X8_findsBest (va_Pc [.ref (qa 0)] (jM D cyI cyZ cyT (wM cyI cyZ qa M) sz)) (jQl D (va_A (wM cyI cyZ qa M) sz) (fun u : Mo => wM cyI cyZ qa u) o) 0 0 (va_A (wM cyI cyZ qa M) sz) := by
  refine Met.ofW (cc := cX8_findsBest) (maxL := 7) (ret := (some .long)) (by decide) rfl ?_
  intro p e s m args below meth c s₁ B hml hv
  obtain ⟨rfl, hsz, hP, hK, hD0⟩ := hv
  have hx := B.exec
  have hb := B.bytes
  have hr := B.returns
  have hts := atoms_spec (ws := wsX8_findsBest) B.pre
  have hown : s.vm.findClass RX8 = some m.cls := findClass_of_methodNamed B.named
  have hlocks := B.notSynchronized
  subst hsz
  have hD := hD0.self (sz := s.heap.size)
  generalize hAe : va_A (wM cyI cyZ qa M) s.heap.size = A at hD ⊢
  have hA : ∀ q : Nat, s.heap.size ≤ q → A q := fun q h => by rw [← hAe]; exact Or.inr h
  have hS : va_S A s.heap s.heap [] := va_S.rf
  have hl := lv_entry ([.ref (qa 0)]) (n := 7) (Nat.le_of_ble_eq_true rfl)
  rw [lg_entry_eq]
  generalize (lg_sl ([.ref (qa 0)]) ++ List.replicate (7 - (lg_sl ([.ref (qa 0)])).length) Slot.unset).toArray = ls at hl ⊢
  have hl : lv_has ls 7 [(0, .ref (qa 0))] := hl
  clear B
  generalize ([.ref (qa 0)] : List Value).toArray = args at hts ⊢
  have key : ∀ (H : Heap) (locs : List Loc), va_P D vwCl (wM cyI cyZ qa M) H → va_D A (wM cyI cyZ qa M) → va_S A s.heap H locs → W p l e rm_X8_findsBest s m args below meth c H locs 0 0 (MQ below (jQl D A (fun u : Mo => wM cyI cyZ qa u) o) args s 0 0 A) (F0 m 0 ls []) := by
    intro H locs hP hD hS
    have h := hf
    unfold f_X8_findsBest at h
    refine lv_ldc2 (v := (-1 : Int64)) hx hb hown (hts _ kw_X8_findsBest_1) dX8_findsBest_0 ?_
    refine lv_lstore_n (lv' := [(1, .long (-1 : Int64)), (0, .ref (qa 0))]) hx hb dX8_findsBest_3 rfl hl (by decide) rfl (fun ls hl => ?_)
    refine lv_iconst (v := (0 : Int32)) hx hb dX8_findsBest_4 (by decide) ?_
    refine lv_istore_n (lv' := [(3, .int (0 : Int32)), (1, .long (-1 : Int64)), (0, .ref (qa 0))]) hx hb dX8_findsBest_5 rfl hl (by decide) rfl (fun ls hl => ?_)
    obtain ⟨r1, hz1, h1_⟩ := jb h
    have hex1 : ∀ e1 : (Int64 × Mo), r1 = e1 → ∀ (H : Heap) (locs : List Loc), va_P D vwCl (wM cyI cyZ qa e1.2) H → va_D A (wM cyI cyZ qa e1.2) → va_S A s.heap H locs → ∀ (ls : Array Slot), lv_has ls 7 [(1, .long e1.1)] → W p l e rm_X8_findsBest s m args below meth c H locs 0 0 (MQ below (jQl D A (fun u : Mo => wM cyI cyZ qa u) o) args s 0 0 A) (F0 m 132 ls []) := by
      intro e1 he H locs hP hD hS ls hl
      rw [he] at h1_
      have h := h1_
      clear hz1
      refine lv_lload_n hx hb dX8_findsBest_132 rfl (lv_at hl 0 rfl) ?_
      exact W.lret hx hb hr (fun t ht _ => ⟨⟨_, _, rfl, Option.some.inj h, by rw [ht]; exact hP, hD⟩, hS.F ht⟩) hS.2.2 dX8_findsBest_133 hlocks
    have hlp1 : ∀ (nn : Nat) (z1 : (Int64 × Int32 × Mo)), jw (X8_findsBest_s6 N) nn z1 = some r1 → ∀ (H : Heap) (locs : List Loc), va_P D vwCl (wM cyI cyZ qa z1.2.2) H → va_D A (wM cyI cyZ qa z1.2.2) → va_S A s.heap H locs → ∀ (ls : Array Slot), lv_has ls 7 [(0, .ref (qa 0)), (1, .long z1.1), (3, .int z1.2.1)] → W p l e rm_X8_findsBest s m args below meth c H locs 0 0 (MQ below (jQl D A (fun u : Mo => wM cyI cyZ qa u) o) args s 0 0 A) (F0 m 6 ls []) := by
      refine jw_P (r := r1) (P := fun z1 : (Int64 × Int32 × Mo) => ∀ (H : Heap) (locs : List Loc), va_P D vwCl (wM cyI cyZ qa z1.2.2) H → va_D A (wM cyI cyZ qa z1.2.2) → va_S A s.heap H locs → ∀ (ls : Array Slot), lv_has ls 7 [(0, .ref (qa 0)), (1, .long z1.1), (3, .int z1.2.1)] → W p l e rm_X8_findsBest s m args below meth c H locs 0 0 (MQ below (jQl D A (fun u : Mo => wM cyI cyZ qa u) o) args s 0 0 A) (F0 m 6 ls [])) ?_
      intro z1 x1 h hin hout H locs hP hD hS ls hl
      unfold X8_findsBest_s6 at h
      refine lv_iload_n hx hb dX8_findsBest_6 rfl (lv_at hl 2 rfl) ?_
      refine lv_aload_n hx hb dX8_findsBest_7 rfl (lv_at hl 0 rfl) ?_
      refine va_get (D := D) (ci := 8) (v := .ref (qa 5)) (C := RX8) (T := TX8) (N := 24) hx hb hts in_X8_findsBest_X8 hown hK.1 hP 0 rfl rfl 13 (by decide) (hts _ kw_X8_findsBest_2) (fun _ h9 => h9) rfl dX8_findsBest_8 ?_
      refine lv_iconst (v := (0 : Int32)) hx hb dX8_findsBest_11 (by decide) ?_
      refine jald hx hb hK hP 5 rfl 0 (by decide) (by decide) dX8_findsBest_12 ?_
      refine lv_aload_n hx hb dX8_findsBest_13 rfl (lv_at hl 0 rfl) ?_
      refine va_get (D := D) (ci := 8) (v := .ref (qa 5)) (C := RX8) (T := TX8) (N := 24) hx hb hts in_X8_findsBest_X8 hown hK.1 hP 0 rfl rfl 13 (by decide) (hts _ kw_X8_findsBest_2) (fun _ h9 => h9) rfl dX8_findsBest_14 ?_
      refine lv_iconst (v := (1 : Int32)) hx hb dX8_findsBest_17 (by decide) ?_
      refine jald hx hb hK hP 5 rfl 1 (by decide) (by decide) dX8_findsBest_18 ?_
      obtain ⟨z2, hz2, h⟩ := jb h
      refine jki (jrS (As := [.int (z1.2.2.1 4 0), .int (z1.2.2.1 4 1)]) (rest := [.int z1.2.1]) ⟨hx, hb, hml, hown, hts⟩ (c_X8_rowsOf l D cyI cyZ cyT   N (z1.2.2.1 4 0) (z1.2.2.1 4 1) z2 hz2) (va_cwS 2 hts gX8_findsBest_X8_rowsOf rfl rfl rfl (by decide +kernel) ⟨Nat.le_of_ble_eq_true rfl, Nat.le_of_ble_eq_true rfl⟩) hK jP0 rfl rfl hl.1 (Nat.le_of_ble_eq_true rfl) dX8_findsBest_19 ⟨Nat.le_of_ble_eq_true rfl, Nat.le_of_ble_eq_true rfl⟩) ?_
      clear hz2
      refine lv_icmp_ge (tgt := 132) hx hb dX8_findsBest_22 (by decide) (fun c3 => ?_) (fun c3 => ?_)
      · have h := jt c3 h
        exact hex1 _ (hout _ (Option.some.inj h).symm).symm H locs hP hD hS ls (lv_sub hl [1] rfl)
      · have h := jf c3 h
        refine lv_aload_n hx hb dX8_findsBest_25 rfl (lv_at hl 0 rfl) ?_
        refine lv_iload_n hx hb dX8_findsBest_26 rfl (lv_at hl 2 rfl) ?_
        obtain ⟨z4, hz4, h⟩ := jb h
        refine jgv (w1 := fun u : Mo => wM cyI cyZ qa u) (wn := wM cyI cyZ qa z4) (jmV (As := [.int z1.2.1]) (rest := []) ⟨hx, hb, hml, hown, hts⟩ (c_X8_rowOf l D cyI cyZ cyT qa H.size N z1.2.1 z1.2.2 z4 hz4) (cwV 1 hts gX8_findsBest_X8_rowOf rfl rfl rfl (by decide +kernel) ⟨Nat.le_of_ble_eq_true rfl, Nat.le_of_ble_eq_true rfl⟩) hK hP hD rfl 8 0 rfl rfl rfl hl.1 (Nat.le_of_ble_eq_true rfl) dX8_findsBest_27 ⟨Nat.le_of_ble_eq_true rfl, Nat.le_of_ble_eq_true rfl⟩) hP hD hS hA [0, 1, 2, 3, 4, 5, 6, 7, 8, 9, 10, 11, 12, 13] [] [0, 1, 2, 3, 4, 5, 6, 7, 8, 9, 10, 11, 12, 13] rfl rfl (by decide) (by decide) rfl (by decide) (fun H locs hP hD hS => ?_)
        clear hz4
        refine lv_aload_n hx hb dX8_findsBest_30 rfl (lv_at hl 0 rfl) ?_
        obtain ⟨z5, hz5, h⟩ := jb h
        refine jki (jrV (As := []) (rest := []) ⟨hx, hb, hml, hown, hts⟩ (c_X8_mayGo l D cyI cyZ cyT qa  N z4 z5 hz5) (cwV 0 hts gX8_findsBest_X8_mayGo rfl rfl rfl (by decide +kernel) ⟨Nat.le_of_ble_eq_true rfl, Nat.le_of_ble_eq_true rfl⟩) hK hP rfl 8 0 rfl rfl rfl hl.1 (Nat.le_of_ble_eq_true rfl) dX8_findsBest_31 ⟨Nat.le_of_ble_eq_true rfl, Nat.le_of_ble_eq_true rfl⟩) ?_
        clear hz5
        obtain ⟨z6, hz6, h⟩ := jb h
        have hk6 : ∀ (H : Heap) (locs : List Loc), va_P D vwCl (wM cyI cyZ qa z6.2) H → va_D A (wM cyI cyZ qa z6.2) → va_S A s.heap H locs → ∀ (ls : Array Slot), lv_has ls 7 [(0, .ref (qa 0)), (1, .long z6.1), (3, .int z1.2.1)] → W p l e rm_X8_findsBest s m args below meth c H locs 0 0 (MQ below (jQl D A (fun u : Mo => wM cyI cyZ qa u) o) args s 0 0 A) (F0 m 126 ls []) := by
          intro H locs hP hD hS ls hl
          refine lv_iinc (v := z1.2.1 + (1 : Int32)) (lv' := [(3, .int (z1.2.1 + (1 : Int32))), (0, .ref (qa 0)), (1, .long z6.1)]) hx hb dX8_findsBest_126 hl (k := 2) rfl rfl (by decide) rfl (fun ls hl => ?_)
          refine lv_goto (tgt := 6) hx hb dX8_findsBest_129 (by decide) ?_
          exact hin _ (Option.some.inj h).symm H locs hP hD hS ls (lv_sub hl [1, 2, 0] rfl)
        clear h
        have h := hz6
        clear hz6
        refine lv_if_eq (tgt := 126) hx hb dX8_findsBest_34 (by decide) (fun c7 => ?_) (fun c7 => ?_)
        · have h := jt c7 h
          obtain rfl := Option.some.inj h
          exact hk6 H locs hP hD hS ls (lv_sub hl [0, 1, 2] rfl)
        · have h := jf c7 h
          refine lv_lconst (v := (1 : Int64)) hx hb dX8_findsBest_37 (by decide) ?_
          refine lv_lstore (lv' := [(4, .long (1 : Int64)), (0, .ref (qa 0)), (1, .long z1.1), (3, .int z1.2.1)]) hx hb dX8_findsBest_38 hl (by decide) rfl (fun ls hl => ?_)
          refine lv_iconst (v := (0 : Int32)) hx hb dX8_findsBest_40 (by decide) ?_
          refine lv_istore (lv' := [(6, .int (0 : Int32)), (4, .long (1 : Int64)), (0, .ref (qa 0)), (1, .long z1.1), (3, .int z1.2.1)]) hx hb dX8_findsBest_41 hl (by decide) rfl (fun ls hl => ?_)
          obtain ⟨r8, hz8, h8_⟩ := jb h
          have hex8 : ∀ e8 : Int64, r8 = e8 → ∀ (H : Heap) (locs : List Loc), va_P D vwCl (wM cyI cyZ qa z4) H → va_D A (wM cyI cyZ qa z4) → va_S A s.heap H locs → ∀ (ls : Array Slot), lv_has ls 7 [(0, .ref (qa 0)), (1, .long z1.1), (3, .int z1.2.1), (4, .long e8)] → W p l e rm_X8_findsBest s m args below meth c H locs 0 0 (MQ below (jQl D A (fun u : Mo => wM cyI cyZ qa u) o) args s 0 0 A) (F0 m 82 ls []) := by
            intro e8 he H locs hP hD hS ls hl
            rw [he] at h8_
            have h := h8_
            clear hz8
            refine lv_lload hx hb dX8_findsBest_82 (lv_at hl 3 rfl) ?_
            refine lv_lload_n hx hb dX8_findsBest_84 rfl (lv_at hl 1 rfl) ?_
            refine W.lcmp hx hb dX8_findsBest_85 ?_
            refine lv_if_le (tgt := 126) hx hb dX8_findsBest_86 (by decide) (fun c12 => ?_) (fun c12 => ?_)
            · have h := jt ((lg_cmp_le _ _).mp c12) h
              obtain rfl := Option.some.inj h
              exact hk6 H locs hP hD hS ls (lv_sub hl [0, 1, 2] rfl)
            · have h := jf (fun e => c12 ((lg_cmp_le _ _).mpr e)) h
              refine lv_lload hx hb dX8_findsBest_89 (lv_at hl 3 rfl) ?_
              refine lv_lstore_n (lv' := [(1, .long e8), (0, .ref (qa 0)), (3, .int z1.2.1), (4, .long e8)]) hx hb dX8_findsBest_91 rfl hl (by decide) rfl (fun ls hl => ?_)
              refine lv_iconst (v := (0 : Int32)) hx hb dX8_findsBest_92 (by decide) ?_
              refine lv_istore (lv' := [(6, .int (0 : Int32)), (1, .long e8), (0, .ref (qa 0)), (3, .int z1.2.1), (4, .long e8)]) hx hb dX8_findsBest_93 hl (by decide) rfl (fun ls hl => ?_)
              obtain ⟨r13, hz13, h13_⟩ := jb h
              have hex13 : ∀ e13 : Mo, r13 = e13 → ∀ (H : Heap) (locs : List Loc), va_P D vwCl (wM cyI cyZ qa e13) H → va_D A (wM cyI cyZ qa e13) → va_S A s.heap H locs → ∀ (ls : Array Slot), lv_has ls 7 [(0, .ref (qa 0)), (1, .long e8), (3, .int z1.2.1)] → W p l e rm_X8_findsBest s m args below meth c H locs 0 0 (MQ below (jQl D A (fun u : Mo => wM cyI cyZ qa u) o) args s 0 0 A) (F0 m 126 ls []) := by
                intro e13 he H locs hP hD hS ls hl
                rw [he] at h13_
                have h := h13_
                clear hz13
                obtain rfl := Option.some.inj h
                exact hk6 H locs hP hD hS ls (lv_sub hl [0, 1, 2] rfl)
              have hlp13 : ∀ (nn : Nat) (z13 : (Int32 × Mo)), jw (X8_findsBest_s95) nn z13 = some r13 → ∀ (H : Heap) (locs : List Loc), va_P D vwCl (wM cyI cyZ qa z13.2) H → va_D A (wM cyI cyZ qa z13.2) → va_S A s.heap H locs → ∀ (ls : Array Slot), lv_has ls 7 [(0, .ref (qa 0)), (1, .long e8), (3, .int z1.2.1), (6, .int z13.1)] → W p l e rm_X8_findsBest s m args below meth c H locs 0 0 (MQ below (jQl D A (fun u : Mo => wM cyI cyZ qa u) o) args s 0 0 A) (F0 m 95 ls []) := by
                refine jw_P (r := r13) (P := fun z13 : (Int32 × Mo) => ∀ (H : Heap) (locs : List Loc), va_P D vwCl (wM cyI cyZ qa z13.2) H → va_D A (wM cyI cyZ qa z13.2) → va_S A s.heap H locs → ∀ (ls : Array Slot), lv_has ls 7 [(0, .ref (qa 0)), (1, .long e8), (3, .int z1.2.1), (6, .int z13.1)] → W p l e rm_X8_findsBest s m args below meth c H locs 0 0 (MQ below (jQl D A (fun u : Mo => wM cyI cyZ qa u) o) args s 0 0 A) (F0 m 95 ls [])) ?_
                intro z13 x13 h hin hout H locs hP hD hS ls hl
                unfold X8_findsBest_s95 at h
                refine lv_iload hx hb dX8_findsBest_95 (lv_at hl 3 rfl) ?_
                refine lv_aload_n hx hb dX8_findsBest_97 rfl (lv_at hl 0 rfl) ?_
                refine va_get (D := D) (ci := 8) (v := .ref (qa 5)) (C := RX8) (T := TX8) (N := 24) hx hb hts in_X8_findsBest_X8 hown hK.1 hP 0 rfl rfl 13 (by decide) (hts _ kw_X8_findsBest_2) (fun _ h9 => h9) rfl dX8_findsBest_98 ?_
                refine lv_iconst (v := (1 : Int32)) hx hb dX8_findsBest_101 (by decide) ?_
                refine jald hx hb hK hP 5 rfl 1 (by decide) (by decide) dX8_findsBest_102 ?_
                refine lv_icmp_ge (tgt := 126) hx hb dX8_findsBest_103 (by decide) (fun c14 => ?_) (fun c14 => ?_)
                · have h := jt c14 h
                  exact hex13 _ (hout _ (Option.some.inj h).symm).symm H locs hP hD hS ls (lv_sub hl [0, 1, 2] rfl)
                · have h := jf c14 h
                  refine lv_aload_n hx hb dX8_findsBest_106 rfl (lv_at hl 0 rfl) ?_
                  refine va_get (D := D) (ci := 8) (v := .ref (qa 13)) (C := RX8) (T := TX8) (N := 24) hx hb hts in_X8_findsBest_X8 hown hK.1 hP 0 rfl rfl 23 (by decide) (hts _ kw_X8_findsBest_4) (fun _ h9 => h9) rfl dX8_findsBest_107 ?_
                  refine lv_iload hx hb dX8_findsBest_110 (lv_at hl 3 rfl) ?_
                  refine lv_aload_n hx hb dX8_findsBest_112 rfl (lv_at hl 0 rfl) ?_
                  refine va_get (D := D) (ci := 8) (v := .ref (qa 12)) (C := RX8) (T := TX8) (N := 24) hx hb hts in_X8_findsBest_X8 hown hK.1 hP 0 rfl rfl 22 (by decide) (hts _ kw_X8_findsBest_3) (fun _ h9 => h9) rfl dX8_findsBest_113 ?_
                  refine lv_iload hx hb dX8_findsBest_116 (lv_at hl 3 rfl) ?_
                  obtain ⟨g15, h⟩ := jn h
                  refine jald hx hb hK hP 12 rfl _ rfl g15 dX8_findsBest_118 ?_
                  obtain ⟨g16, h⟩ := jn h
                  refine jast (w' := wM cyI cyZ qa (va_up z13.2.1 12 (upd (z13.2.1 12) z13.1.toNatClampNeg (z13.2.1 11 z13.1.toNatClampNeg)), z13.2.2)) hx hb hK hP hD hS 13 rfl _ rfl g16 rfl dX8_findsBest_119 (fun H locs hP hD hS => ?_)
                  refine lv_iinc (v := z13.1 + (1 : Int32)) (lv' := [(6, .int (z13.1 + (1 : Int32))), (0, .ref (qa 0)), (1, .long e8), (3, .int z1.2.1)]) hx hb dX8_findsBest_120 hl (k := 3) rfl rfl (by decide) rfl (fun ls hl => ?_)
                  refine lv_goto (tgt := 95) hx hb dX8_findsBest_123 (by decide) ?_
                  exact hin _ (Option.some.inj h).symm H locs hP hD hS ls (lv_sub hl [1, 2, 3, 0] rfl)
              exact hlp13 _ _ hz13 H locs hP hD hS ls (lv_sub hl [2, 1, 3, 0] rfl)
          have hlp8 : ∀ (nn : Nat) (z8 : (Int64 × Int32)), jw (X8_findsBest_s43 z4) nn z8 = some r8 → ∀ (H : Heap) (locs : List Loc), va_P D vwCl (wM cyI cyZ qa z4) H → va_D A (wM cyI cyZ qa z4) → va_S A s.heap H locs → ∀ (ls : Array Slot), lv_has ls 7 [(0, .ref (qa 0)), (1, .long z1.1), (3, .int z1.2.1), (4, .long z8.1), (6, .int z8.2)] → W p l e rm_X8_findsBest s m args below meth c H locs 0 0 (MQ below (jQl D A (fun u : Mo => wM cyI cyZ qa u) o) args s 0 0 A) (F0 m 43 ls []) := by
            refine jw_P (r := r8) (P := fun z8 : (Int64 × Int32) => ∀ (H : Heap) (locs : List Loc), va_P D vwCl (wM cyI cyZ qa z4) H → va_D A (wM cyI cyZ qa z4) → va_S A s.heap H locs → ∀ (ls : Array Slot), lv_has ls 7 [(0, .ref (qa 0)), (1, .long z1.1), (3, .int z1.2.1), (4, .long z8.1), (6, .int z8.2)] → W p l e rm_X8_findsBest s m args below meth c H locs 0 0 (MQ below (jQl D A (fun u : Mo => wM cyI cyZ qa u) o) args s 0 0 A) (F0 m 43 ls [])) ?_
            intro z8 x8 h hin hout H locs hP hD hS ls hl
            unfold X8_findsBest_s43 at h
            refine lv_iload hx hb dX8_findsBest_43 (lv_at hl 4 rfl) ?_
            refine lv_aload_n hx hb dX8_findsBest_45 rfl (lv_at hl 0 rfl) ?_
            refine va_get (D := D) (ci := 8) (v := .ref (qa 5)) (C := RX8) (T := TX8) (N := 24) hx hb hts in_X8_findsBest_X8 hown hK.1 hP 0 rfl rfl 13 (by decide) (hts _ kw_X8_findsBest_2) (fun _ h9 => h9) rfl dX8_findsBest_46 ?_
            refine lv_iconst (v := (1 : Int32)) hx hb dX8_findsBest_49 (by decide) ?_
            refine jald hx hb hK hP 5 rfl 1 (by decide) (by decide) dX8_findsBest_50 ?_
            refine lv_icmp_ge (tgt := 82) hx hb dX8_findsBest_51 (by decide) (fun c9 => ?_) (fun c9 => ?_)
            · have h := jt c9 h
              exact hex8 _ (hout _ (Option.some.inj h).symm).symm H locs hP hD hS ls (lv_sub hl [0, 1, 2, 3] rfl)
            · have h := jf c9 h
              refine lv_lload hx hb dX8_findsBest_54 (lv_at hl 3 rfl) ?_
              refine lv_bipush (v := (10 : Int32)) hx hb dX8_findsBest_56 (by decide) ?_
              refine lv_aload_n hx hb dX8_findsBest_58 rfl (lv_at hl 0 rfl) ?_
              refine lv_iload hx hb dX8_findsBest_59 (lv_at hl 4 rfl) ?_
              refine lv_aload_n hx hb dX8_findsBest_61 rfl (lv_at hl 0 rfl) ?_
              refine va_get (D := D) (ci := 8) (v := .ref (qa 12)) (C := RX8) (T := TX8) (N := 24) hx hb hts in_X8_findsBest_X8 hown hK.1 hP 0 rfl rfl 22 (by decide) (hts _ kw_X8_findsBest_3) (fun _ h9 => h9) rfl dX8_findsBest_62 ?_
              refine lv_iload hx hb dX8_findsBest_65 (lv_at hl 4 rfl) ?_
              obtain ⟨g10, h⟩ := jn h
              refine jald hx hb hK hP 12 rfl _ rfl g10 dX8_findsBest_67 ?_
              obtain ⟨z11, hz11, h⟩ := jb h
              refine jki (jrV (As := [.int z8.2, .int (z4.1 11 z8.2.toNatClampNeg)]) (rest := [.int (10 : Int32), .long z8.1]) ⟨hx, hb, hml, hown, hts⟩ (c_X8_dangerTo l D cyI cyZ cyT qa  z8.2 (z4.1 11 z8.2.toNatClampNeg) z4 z11 hz11) (cwV 2 hts gX8_findsBest_X8_dangerTo rfl rfl rfl (by decide +kernel) ⟨Nat.le_of_ble_eq_true rfl, Nat.le_of_ble_eq_true rfl⟩) hK hP rfl 8 0 rfl rfl rfl hl.1 (Nat.le_of_ble_eq_true rfl) dX8_findsBest_68 ⟨Nat.le_of_ble_eq_true rfl, Nat.le_of_ble_eq_true rfl⟩) ?_
              clear hz11
              refine lv_isub hx hb dX8_findsBest_71 ?_
              refine lv_i2l (v := ((10 : Int32) - z11).toInt64) hx hb dX8_findsBest_72 rfl ?_
              refine lv_lmul hx hb dX8_findsBest_73 ?_
              refine lv_lstore (lv' := [(4, .long (z8.1 * (((10 : Int32) - z11).toInt64))), (0, .ref (qa 0)), (1, .long z1.1), (3, .int z1.2.1), (6, .int z8.2)]) hx hb dX8_findsBest_74 hl (by decide) rfl (fun ls hl => ?_)
              refine lv_iinc (v := z8.2 + (1 : Int32)) (lv' := [(6, .int (z8.2 + (1 : Int32))), (4, .long (z8.1 * (((10 : Int32) - z11).toInt64))), (0, .ref (qa 0)), (1, .long z1.1), (3, .int z1.2.1)]) hx hb dX8_findsBest_76 hl (k := 4) rfl rfl (by decide) rfl (fun ls hl => ?_)
              refine lv_goto (tgt := 43) hx hb dX8_findsBest_79 (by decide) ?_
              exact hin _ (Option.some.inj h).symm H locs hP hD hS ls (lv_sub hl [2, 3, 4, 1, 0] rfl)
          exact hlp8 _ _ hz8 H locs hP hD hS ls (lv_sub hl [2, 3, 4, 1, 0] rfl)
    exact hlp1 _ _ hz1 H locs hP hD hS ls (lv_sub hl [2, 1, 0] rfl)
  exact key s.heap [] hP hD hS
theorem kw_X8_best_1 : (.fieldLink RX8 50 "BellTheCatModel" "thrown" "I" : Cond) ∈ wsX8_best := List.mem_of_getElem? (i := 1) rfl
theorem kw_X8_best_2 : (.fieldLink RX8 22 "BellTheCatModel" "many" "[I" : Cond) ∈ wsX8_best := List.mem_of_getElem? (i := 2) rfl
theorem kw_X8_best_3 : (.constantLong RX8 175 (10) : Cond) ∈ wsX8_best := List.mem_of_getElem? (i := 3) rfl
theorem in_X8_best_X8 : ∀ w ∈ wsX80, w ∈ wsX8_best := fun w h => List.mem_cons_of_mem _ (List.mem_append_right _ h)
abbrev rm_X8_best : Room := { frames := 3, cells := 0, slots := 0, locals := 72 }
set_option maxHeartbeats 4000000 in
set_option maxRecDepth 100000 in
theorem c_X8_best (l : Launch) (D : va_G) (cyI cyZ cyT : ClassId) (qa : Nat → Nat) (sz : Nat) (N : Nat) (a1 : Int32) (M : Mo) (o : (Int32 × Mo)) (hf : f_X8_best N a1 M = some o) : Met l yX8_best wsX8_best rm_X8_best (va_Pc [.ref (qa 0), .int a1] (jM D cyI cyZ cyT (wM cyI cyZ qa M) sz)) (jQi D (va_A (wM cyI cyZ qa M) sz) (fun u : Mo => wM cyI cyZ qa u) o) 0 0 (va_A (wM cyI cyZ qa M) sz) := by
  refine Met.ofW (cc := cX8_best) (maxL := 4) (ret := (some .int)) (by decide) rfl ?_
  intro p e s m args below meth c s₁ B hml hv
  obtain ⟨rfl, hsz, hP, hK, hD0⟩ := hv
  have hx := B.exec
  have hb := B.bytes
  have hr := B.returns
  have hts := atoms_spec (ws := wsX8_best) B.pre
  have hown : s.vm.findClass RX8 = some m.cls := findClass_of_methodNamed B.named
  have hlocks := B.notSynchronized
  subst hsz
  have hD := hD0.self (sz := s.heap.size)
  generalize hAe : va_A (wM cyI cyZ qa M) s.heap.size = A at hD ⊢
  have hA : ∀ q : Nat, s.heap.size ≤ q → A q := fun q h => by rw [← hAe]; exact Or.inr h
  have hS : va_S A s.heap s.heap [] := va_S.rf
  have hl := lv_entry ([.ref (qa 0), .int a1]) (n := 4) (Nat.le_of_ble_eq_true rfl)
  rw [lg_entry_eq]
  generalize (lg_sl ([.ref (qa 0), .int a1]) ++ List.replicate (4 - (lg_sl ([.ref (qa 0), .int a1])).length) Slot.unset).toArray = ls at hl ⊢
  have hl : lv_has ls 4 [(0, .ref (qa 0)), (1, .int a1)] := hl
  clear B
  generalize ([.ref (qa 0), .int a1] : List Value).toArray = args at hts ⊢
  have key : ∀ (H : Heap) (locs : List Loc), va_P D vwCl (wM cyI cyZ qa M) H → va_D A (wM cyI cyZ qa M) → va_S A s.heap H locs → W p l e rm_X8_best s m args below meth c H locs 0 0 (MQ below (jQi D A (fun u : Mo => wM cyI cyZ qa u) o) args s 0 0 A) (F0 m 0 ls []) := by
    intro H locs hP hD hS
    have h := hf
    unfold f_X8_best at h
    refine lv_aload_n hx hb dX8_best_0 rfl (lv_at hl 0 rfl) ?_
    refine lv_iconst (v := (0 : Int32)) hx hb dX8_best_1 (by decide) ?_
    refine va_put (D := D) (ci := 8) (v := .int (0 : Int32)) (ty := .int) (C := RX8) (T := TX8) (N := 24) hx hb hts in_X8_best_X8 tyX8 tyX8_ok nmX8 hown hK.1 hP hD hS 0 rfl rfl 0 (by decide) (hts _ kw_X8_best_1) (fun _ h9 => h9) rfl (tyX8_ok 0 (by decide)) rfl rfl (Nat.le_of_ble_eq_true rfl) dX8_best_2 (fun H locs hP hD hS => ?_)
    have hP : va_P D vwCl (wM cyI cyZ qa (M.1, va_up M.2 0 (0 : Int32))) H := hP
    have hD : va_D A (wM cyI cyZ qa (M.1, va_up M.2 0 (0 : Int32))) := hD
    refine lv_iload_n hx hb dX8_best_5 rfl (lv_at hl 1 rfl) ?_
    obtain ⟨z1, hz1, h⟩ := jb h
    refine jki (jrS (As := [.int a1]) (rest := []) ⟨hx, hb, hml, hown, hts⟩ (c_X8_isPart l D cyI cyZ cyT   a1 z1 hz1) (va_cwS 1 hts gX8_best_X8_isPart rfl rfl rfl (by decide +kernel) ⟨Nat.le_of_ble_eq_true rfl, Nat.le_of_ble_eq_true rfl⟩) hK jP0 rfl rfl hl.1 (Nat.le_of_ble_eq_true rfl) dX8_best_6 ⟨Nat.le_of_ble_eq_true rfl, Nat.le_of_ble_eq_true rfl⟩) ?_
    clear hz1
    refine lv_if_ne (tgt := 15) hx hb dX8_best_9 (by decide) (fun c2 => ?_) (fun c2 => ?_)
    · have h := jf c2 h
      refine lv_aload_n hx hb dX8_best_15 rfl (lv_at hl 0 rfl) ?_
      refine va_get (D := D) (ci := 8) (v := .ref (qa 5)) (C := RX8) (T := TX8) (N := 24) hx hb hts in_X8_best_X8 hown hK.1 hP 0 rfl rfl 13 (by decide) (hts _ kw_X8_best_2) (fun _ h9 => h9) rfl dX8_best_16 ?_
      refine lv_iconst (v := (1 : Int32)) hx hb dX8_best_19 (by decide) ?_
      refine jald hx hb hK hP 5 rfl 1 (by decide) (by decide) dX8_best_20 ?_
      refine lv_if_ne (tgt := 26) hx hb dX8_best_21 (by decide) (fun c3 => ?_) (fun c3 => ?_)
      · have h := jf c3 h
        refine lv_aload_n hx hb dX8_best_26 rfl (lv_at hl 0 rfl) ?_
        obtain ⟨z4, hz4, h⟩ := jb h
        refine jgl (w1 := fun u : Mo => wM cyI cyZ qa u) (wn := wM cyI cyZ qa z4.2) (jmV (As := []) (rest := []) ⟨hx, hb, hml, hown, hts⟩ (c_X8_findsBest l D cyI cyZ cyT qa H.size N (M.1, va_up M.2 0 (0 : Int32)) z4 hz4) (cwV 0 hts gX8_best_X8_findsBest rfl rfl rfl (by decide +kernel) ⟨Nat.le_of_ble_eq_true rfl, Nat.le_of_ble_eq_true rfl⟩) hK hP hD rfl 8 0 rfl rfl rfl hl.1 (Nat.le_of_ble_eq_true rfl) dX8_best_27 ⟨Nat.le_of_ble_eq_true rfl, Nat.le_of_ble_eq_true rfl⟩) hP hD hS hA [0, 1, 2, 3, 4, 5, 6, 7, 8, 9, 10, 11, 12, 13] [] [0, 1, 2, 3, 4, 5, 6, 7, 8, 9, 10, 11, 12, 13] rfl rfl (by decide) (by decide) rfl (by decide) (fun H locs hP hD hS => ?_)
        clear hz4
        refine lv_lstore_n (lv' := [(2, .long z4.1), (0, .ref (qa 0)), (1, .int a1)]) hx hb dX8_best_30 rfl hl (by decide) rfl (fun ls hl => ?_)
        refine lv_lload_n hx hb dX8_best_31 rfl (lv_at hl 0 rfl) ?_
        refine lv_lconst (v := (0 : Int64)) hx hb dX8_best_32 (by decide) ?_
        refine W.lcmp hx hb dX8_best_33 ?_
        refine lv_if_ge (tgt := 42) hx hb dX8_best_34 (by decide) (fun c5 => ?_) (fun c5 => ?_)
        · have h := jt ((lg_cmp_ge _ _).mp c5) h
          refine lv_lload_n hx hb dX8_best_42 rfl (lv_at hl 0 rfl) ?_
          refine lv_ldc2 (v := (10 : Int64)) hx hb hown (hts _ kw_X8_best_3) dX8_best_43 ?_
          refine lv_aload_n hx hb dX8_best_46 rfl (lv_at hl 1 rfl) ?_
          refine va_get (D := D) (ci := 8) (v := .ref (qa 5)) (C := RX8) (T := TX8) (N := 24) hx hb hts in_X8_best_X8 hown hK.1 hP 0 rfl rfl 13 (by decide) (hts _ kw_X8_best_2) (fun _ h9 => h9) rfl dX8_best_47 ?_
          refine lv_iconst (v := (1 : Int32)) hx hb dX8_best_50 (by decide) ?_
          refine jald hx hb hK hP 5 rfl 1 (by decide) (by decide) dX8_best_51 ?_
          obtain ⟨z6, hz6, h⟩ := jb h
          refine jkl (jrS (As := [.long (10 : Int64), .int (z4.2.1 4 1)]) (rest := [.long z4.1]) ⟨hx, hb, hml, hown, hts⟩ (c_X8_power l D cyI cyZ cyT   N (10 : Int64) (z4.2.1 4 1) z6 hz6) (va_cwS 2 hts gX8_best_X8_power rfl rfl rfl (by decide +kernel) ⟨Nat.le_of_ble_eq_true rfl, Nat.le_of_ble_eq_true rfl⟩) hK jP0 rfl rfl hl.1 (Nat.le_of_ble_eq_true rfl) dX8_best_52 ⟨Nat.le_of_ble_eq_true rfl, Nat.le_of_ble_eq_true rfl⟩) ?_
          clear hz6
          refine lv_iload_n hx hb dX8_best_55 rfl (lv_at hl 2 rfl) ?_
          obtain ⟨z7, hz7, h⟩ := jb h
          refine jkl (jrS (As := [.long z4.1, .long z6, .int a1]) (rest := []) ⟨hx, hb, hml, hown, hts⟩ (c_X8_part l D cyI cyZ cyT   N z4.1 z6 a1 z7 hz7) (va_cwS 3 hts gX8_best_X8_part rfl rfl rfl (by decide +kernel) ⟨Nat.le_of_ble_eq_true rfl, Nat.le_of_ble_eq_true rfl⟩) hK jP0 rfl rfl hl.1 (Nat.le_of_ble_eq_true rfl) dX8_best_56 ⟨Nat.le_of_ble_eq_true rfl, Nat.le_of_ble_eq_true rfl⟩) ?_
          clear hz7
          refine lv_l2i (v := z7.toInt32) hx hb dX8_best_59 rfl ?_
          exact W.iret hx hb hr (fun t ht _ => ⟨⟨_, _, rfl, Option.some.inj h, by rw [ht]; exact hP, hD⟩, hS.F ht⟩) hS.2.2 dX8_best_60 hlocks
        · have h := jf (fun e => c5 ((lg_cmp_ge _ _).mpr e)) h
          refine lv_bipush (v := (-4 : Int32)) hx hb dX8_best_37 (by decide) ?_
          refine lv_goto (tgt := 60) hx hb dX8_best_39 (by decide) ?_
          exact W.iret hx hb hr (fun t ht _ => ⟨⟨_, _, rfl, Option.some.inj h, by rw [ht]; exact hP, hD⟩, hS.F ht⟩) hS.2.2 dX8_best_60 hlocks
      · have h := jt c3 h
        refine lv_iconst (v := (1 : Int32)) hx hb dX8_best_24 (by decide) ?_
        exact W.iret hx hb hr (fun t ht _ => ⟨⟨_, _, rfl, Option.some.inj h, by rw [ht]; exact hP, hD⟩, hS.F ht⟩) hS.2.2 dX8_best_25 hlocks
    · have h := jt c2 h
      refine lv_bipush (v := (-3 : Int32)) hx hb dX8_best_12 (by decide) ?_
      exact W.iret hx hb hr (fun t ht _ => ⟨⟨_, _, rfl, Option.some.inj h, by rw [ht]; exact hP, hD⟩, hS.F ht⟩) hS.2.2 dX8_best_14 hlocks
  exact key s.heap [] hP hD hS
theorem kw_X8_isStep_1 : (.fieldLink RX8 22 "BellTheCatModel" "many" "[I" : Cond) ∈ wsX8_isStep := List.mem_of_getElem? (i := 1) rfl
theorem in_X8_isStep_X8 : ∀ w ∈ wsX80, w ∈ wsX8_isStep := fun w h => List.mem_cons_of_mem _ (List.mem_append_right _ h)
abbrev rm_X8_isStep : Room := { frames := 1, cells := 0, slots := 0, locals := 22 }
set_option maxHeartbeats 4000000 in
set_option maxRecDepth 100000 in
theorem c_X8_isStep (l : Launch) (D : va_G) (cyI cyZ cyT : ClassId) (qa : Nat → Nat) (a1 : Int32) (M : Mo) (o : Int32) (hf : f_X8_isStep a1 M = some o) : Met l yX8_isStep wsX8_isStep rm_X8_isStep (va_Pc [.ref (qa 0), .int a1] (jB D cyI cyZ cyT (wM cyI cyZ qa M))) (jSi o) 0 0 (fun _ => False) := by
  refine Met.ofW (cc := cX8_isStep) (maxL := 2) (ret := (some .boolean)) (by decide) rfl ?_
  intro p e s m args below meth c s₁ B hml hv
  obtain ⟨rfl, hP, hK⟩ := hv
  have hx := B.exec
  have hb := B.bytes
  have hr := B.returns
  have hts := atoms_spec (ws := wsX8_isStep) B.pre
  have hown : s.vm.findClass RX8 = some m.cls := findClass_of_methodNamed B.named
  have hlocks := B.notSynchronized
  have hl := lv_entry ([.ref (qa 0), .int a1]) (n := 2) (Nat.le_of_ble_eq_true rfl)
  rw [lg_entry_eq]
  generalize (lg_sl ([.ref (qa 0), .int a1]) ++ List.replicate (2 - (lg_sl ([.ref (qa 0), .int a1])).length) Slot.unset).toArray = ls at hl ⊢
  have hl : lv_has ls 2 [(0, .ref (qa 0)), (1, .int a1)] := hl
  clear B
  generalize ([.ref (qa 0), .int a1] : List Value).toArray = args at hts ⊢
  have key : ∀ (H : Heap), va_P D vwCl (wM cyI cyZ qa M) H → H = s.heap → W p l e rm_X8_isStep s m args below meth c H [] 0 0 (MQ below (jSi o) args s 0 0 (fun _ => False)) (F0 m 0 ls []) := by
    intro H hP hH
    have h := hf
    unfold f_X8_isStep at h
    refine lv_iload_n hx hb dX8_isStep_0 rfl (lv_at hl 1 rfl) ?_
    refine lv_iconst (v := (0 : Int32)) hx hb dX8_isStep_1 (by decide) ?_
    refine lv_aload_n hx hb dX8_isStep_2 rfl (lv_at hl 0 rfl) ?_
    refine va_get (D := D) (ci := 8) (v := .ref (qa 5)) (C := RX8) (T := TX8) (N := 24) hx hb hts in_X8_isStep_X8 hown hK.1 hP 0 rfl rfl 13 (by decide) (hts _ kw_X8_isStep_1) (fun _ h9 => h9) rfl dX8_isStep_3 ?_
    refine lv_iconst (v := (1 : Int32)) hx hb dX8_isStep_6 (by decide) ?_
    refine jald hx hb hK hP 5 rfl 1 (by decide) (by decide) dX8_isStep_7 ?_
    refine lv_iconst (v := (1 : Int32)) hx hb dX8_isStep_8 (by decide) ?_
    refine lv_isub hx hb dX8_isStep_9 ?_
    obtain ⟨z1, hz1, h⟩ := jb h
    refine jki (jrS (As := [.int a1, .int (0 : Int32), .int ((M.1 4 1) - (1 : Int32))]) (rest := []) ⟨hx, hb, hml, hown, hts⟩ (c_X8_in l D cyI cyZ cyT   a1 (0 : Int32) ((M.1 4 1) - (1 : Int32)) z1 hz1) (va_cwS 3 hts gX8_isStep_X8_in rfl rfl rfl (by decide +kernel) ⟨Nat.le_of_ble_eq_true rfl, Nat.le_of_ble_eq_true rfl⟩) hK jP0 rfl rfl hl.1 (Nat.le_of_ble_eq_true rfl) dX8_isStep_10 ⟨Nat.le_of_ble_eq_true rfl, Nat.le_of_ble_eq_true rfl⟩) ?_
    clear hz1
    obtain ⟨gz, h⟩ := jn h
    exact W.zret hx hb hr (jz_n gz) (fun t ht _ => ⟨_, rfl, Option.some.inj h, ht.trans hH⟩) (fun q h => by cases h) dX8_isStep_13 hlocks
  exact key s.heap hP rfl
theorem kw_X8_bestOf_1 : (.fieldLink RX8 50 "BellTheCatModel" "thrown" "I" : Cond) ∈ wsX8_bestOf := List.mem_of_getElem? (i := 1) rfl
theorem kw_X8_bestOf_2 : (.fieldLink RX8 47 "BellTheCatModel" "bestRow" "[I" : Cond) ∈ wsX8_bestOf := List.mem_of_getElem? (i := 2) rfl
theorem in_X8_bestOf_X8 : ∀ w ∈ wsX80, w ∈ wsX8_bestOf := fun w h => List.mem_cons_of_mem _ (List.mem_append_right _ h)
abbrev rm_X8_bestOf : Room := { frames := 3, cells := 0, slots := 0, locals := 72 }
set_option maxHeartbeats 4000000 in
set_option maxRecDepth 100000 in
theorem c_X8_bestOf (l : Launch) (D : va_G) (cyI cyZ cyT : ClassId) (qa : Nat → Nat) (sz : Nat) (N : Nat) (a1 : Int32) (M : Mo) (o : (Int32 × Mo)) (hf : f_X8_bestOf N a1 M = some o) : Met l yX8_bestOf wsX8_bestOf rm_X8_bestOf (va_Pc [.ref (qa 0), .int a1] (jM D cyI cyZ cyT (wM cyI cyZ qa M) sz)) (jQi D (va_A (wM cyI cyZ qa M) sz) (fun u : Mo => wM cyI cyZ qa u) o) 0 0 (va_A (wM cyI cyZ qa M) sz) := by
  refine Met.ofW (cc := cX8_bestOf) (maxL := 2) (ret := (some .int)) (by decide) rfl ?_
  intro p e s m args below meth c s₁ B hml hv
  obtain ⟨rfl, hsz, hP, hK, hD0⟩ := hv
  have hx := B.exec
  have hb := B.bytes
  have hr := B.returns
  have hts := atoms_spec (ws := wsX8_bestOf) B.pre
  have hown : s.vm.findClass RX8 = some m.cls := findClass_of_methodNamed B.named
  have hlocks := B.notSynchronized
  subst hsz
  have hD := hD0.self (sz := s.heap.size)
  generalize hAe : va_A (wM cyI cyZ qa M) s.heap.size = A at hD ⊢
  have hA : ∀ q : Nat, s.heap.size ≤ q → A q := fun q h => by rw [← hAe]; exact Or.inr h
  have hS : va_S A s.heap s.heap [] := va_S.rf
  have hl := lv_entry ([.ref (qa 0), .int a1]) (n := 2) (Nat.le_of_ble_eq_true rfl)
  rw [lg_entry_eq]
  generalize (lg_sl ([.ref (qa 0), .int a1]) ++ List.replicate (2 - (lg_sl ([.ref (qa 0), .int a1])).length) Slot.unset).toArray = ls at hl ⊢
  have hl : lv_has ls 2 [(0, .ref (qa 0)), (1, .int a1)] := hl
  clear B
  generalize ([.ref (qa 0), .int a1] : List Value).toArray = args at hts ⊢
  have key : ∀ (H : Heap) (locs : List Loc), va_P D vwCl (wM cyI cyZ qa M) H → va_D A (wM cyI cyZ qa M) → va_S A s.heap H locs → W p l e rm_X8_bestOf s m args below meth c H locs 0 0 (MQ below (jQi D A (fun u : Mo => wM cyI cyZ qa u) o) args s 0 0 A) (F0 m 0 ls []) := by
    intro H locs hP hD hS
    have h := hf
    unfold f_X8_bestOf at h
    refine lv_aload_n hx hb dX8_bestOf_0 rfl (lv_at hl 0 rfl) ?_
    refine lv_iconst (v := (0 : Int32)) hx hb dX8_bestOf_1 (by decide) ?_
    refine va_put (D := D) (ci := 8) (v := .int (0 : Int32)) (ty := .int) (C := RX8) (T := TX8) (N := 24) hx hb hts in_X8_bestOf_X8 tyX8 tyX8_ok nmX8 hown hK.1 hP hD hS 0 rfl rfl 0 (by decide) (hts _ kw_X8_bestOf_1) (fun _ h9 => h9) rfl (tyX8_ok 0 (by decide)) rfl rfl (Nat.le_of_ble_eq_true rfl) dX8_bestOf_2 (fun H locs hP hD hS => ?_)
    have hP : va_P D vwCl (wM cyI cyZ qa (M.1, va_up M.2 0 (0 : Int32))) H := hP
    have hD : va_D A (wM cyI cyZ qa (M.1, va_up M.2 0 (0 : Int32))) := hD
    refine lv_aload_n hx hb dX8_bestOf_5 rfl (lv_at hl 0 rfl) ?_
    refine lv_iload_n hx hb dX8_bestOf_6 rfl (lv_at hl 1 rfl) ?_
    obtain ⟨z1, hz1, h⟩ := jb h
    refine jki (jrV (As := [.int a1]) (rest := []) ⟨hx, hb, hml, hown, hts⟩ (c_X8_isStep l D cyI cyZ cyT qa  a1 (M.1, va_up M.2 0 (0 : Int32)) z1 hz1) (cwV 1 hts gX8_bestOf_X8_isStep rfl rfl rfl (by decide +kernel) ⟨Nat.le_of_ble_eq_true rfl, Nat.le_of_ble_eq_true rfl⟩) hK hP rfl 8 0 rfl rfl rfl hl.1 (Nat.le_of_ble_eq_true rfl) dX8_bestOf_7 ⟨Nat.le_of_ble_eq_true rfl, Nat.le_of_ble_eq_true rfl⟩) ?_
    clear hz1
    refine lv_if_ne (tgt := 16) hx hb dX8_bestOf_10 (by decide) (fun c2 => ?_) (fun c2 => ?_)
    · have h := jf c2 h
      refine lv_aload_n hx hb dX8_bestOf_16 rfl (lv_at hl 0 rfl) ?_
      obtain ⟨z3, hz3, h⟩ := jb h
      refine jgl (w1 := fun u : Mo => wM cyI cyZ qa u) (wn := wM cyI cyZ qa z3.2) (jmV (As := []) (rest := []) ⟨hx, hb, hml, hown, hts⟩ (c_X8_findsBest l D cyI cyZ cyT qa H.size N (M.1, va_up M.2 0 (0 : Int32)) z3 hz3) (cwV 0 hts gX8_bestOf_X8_findsBest rfl rfl rfl (by decide +kernel) ⟨Nat.le_of_ble_eq_true rfl, Nat.le_of_ble_eq_true rfl⟩) hK hP hD rfl 8 0 rfl rfl rfl hl.1 (Nat.le_of_ble_eq_true rfl) dX8_bestOf_17 ⟨Nat.le_of_ble_eq_true rfl, Nat.le_of_ble_eq_true rfl⟩) hP hD hS hA [0, 1, 2, 3, 4, 5, 6, 7, 8, 9, 10, 11, 12, 13] [] [0, 1, 2, 3, 4, 5, 6, 7, 8, 9, 10, 11, 12, 13] rfl rfl (by decide) (by decide) rfl (by decide) (fun H locs hP hD hS => ?_)
      clear hz3
      refine lv_lconst (v := (0 : Int64)) hx hb dX8_bestOf_20 (by decide) ?_
      refine W.lcmp hx hb dX8_bestOf_21 ?_
      refine lv_if_ge (tgt := 29) hx hb dX8_bestOf_22 (by decide) (fun c4 => ?_) (fun c4 => ?_)
      · have h := jt ((lg_cmp_ge _ _).mp c4) h
        refine lv_aload_n hx hb dX8_bestOf_29 rfl (lv_at hl 0 rfl) ?_
        refine va_get (D := D) (ci := 8) (v := .ref (qa 13)) (C := RX8) (T := TX8) (N := 24) hx hb hts in_X8_bestOf_X8 hown hK.1 hP 0 rfl rfl 23 (by decide) (hts _ kw_X8_bestOf_2) (fun _ h9 => h9) rfl dX8_bestOf_30 ?_
        refine lv_iload_n hx hb dX8_bestOf_33 rfl (lv_at hl 1 rfl) ?_
        obtain ⟨g5, h⟩ := jn h
        refine jald hx hb hK hP 13 rfl _ rfl g5 dX8_bestOf_34 ?_
        exact W.iret hx hb hr (fun t ht _ => ⟨⟨_, _, rfl, Option.some.inj h, by rw [ht]; exact hP, hD⟩, hS.F ht⟩) hS.2.2 dX8_bestOf_35 hlocks
      · have h := jf (fun e => c4 ((lg_cmp_ge _ _).mpr e)) h
        refine lv_iconst (v := (-1 : Int32)) hx hb dX8_bestOf_25 (by decide) ?_
        refine lv_goto (tgt := 35) hx hb dX8_bestOf_26 (by decide) ?_
        exact W.iret hx hb hr (fun t ht _ => ⟨⟨_, _, rfl, Option.some.inj h, by rw [ht]; exact hP, hD⟩, hS.F ht⟩) hS.2.2 dX8_bestOf_35 hlocks
    · have h := jt c2 h
      refine lv_bipush (v := (-2 : Int32)) hx hb dX8_bestOf_13 (by decide) ?_
      exact W.iret hx hb hr (fun t ht _ => ⟨⟨_, _, rfl, Option.some.inj h, by rw [ht]; exact hP, hD⟩, hS.F ht⟩) hS.2.2 dX8_bestOf_15 hlocks
  exact key s.heap [] hP hD hS
theorem kw_X8_callOff_1 : (.fieldLink RX8 50 "BellTheCatModel" "thrown" "I" : Cond) ∈ wsX8_callOff := List.mem_of_getElem? (i := 1) rfl
theorem kw_X8_callOff_2 : (.constantLong RX8 243 (-3) : Cond) ∈ wsX8_callOff := List.mem_of_getElem? (i := 2) rfl
theorem kw_X8_callOff_3 : (.constantLong RX8 175 (10) : Cond) ∈ wsX8_callOff := List.mem_of_getElem? (i := 3) rfl
theorem in_X8_callOff_X8 : ∀ w ∈ wsX80, w ∈ wsX8_callOff := fun w h => List.mem_cons_of_mem _ (List.mem_append_right _ h)
abbrev rm_X8_callOff : Room := { frames := 2, cells := 0, slots := 0, locals := 55 }
set_option maxHeartbeats 4000000 in
set_option maxRecDepth 100000 in
theorem c_X8_callOff (l : Launch) (D : va_G) (cyI cyZ cyT : ClassId) (qa : Nat → Nat) (sz : Nat) (N : Nat) (a1 : Int32) (a2 : Int32) (a3 : Int32) (a4 : Int32) (a5 : Int32) (M : Mo) (o : (Int64 × Mo)) (hf : f_X8_callOff N a1 a2 a3 a4 a5 M = some o) : Met l yX8_callOff wsX8_callOff rm_X8_callOff (va_Pc [.ref (qa 0), .int a1, .int a2, .int a3, .int a4, .int a5] (jM D cyI cyZ cyT (wM cyI cyZ qa M) sz)) (jQl D (va_A (wM cyI cyZ qa M) sz) (fun u : Mo => wM cyI cyZ qa u) o) 0 0 (va_A (wM cyI cyZ qa M) sz) := by
  refine Met.ofW (cc := cX8_callOff) (maxL := 13) (ret := (some .long)) (by decide) rfl ?_
  intro p e s m args below meth c s₁ B hml hv
  obtain ⟨rfl, hsz, hP, hK, hD0⟩ := hv
  have hx := B.exec
  have hb := B.bytes
  have hr := B.returns
  have hts := atoms_spec (ws := wsX8_callOff) B.pre
  have hown : s.vm.findClass RX8 = some m.cls := findClass_of_methodNamed B.named
  have hlocks := B.notSynchronized
  subst hsz
  have hD := hD0.self (sz := s.heap.size)
  generalize hAe : va_A (wM cyI cyZ qa M) s.heap.size = A at hD ⊢
  have hA : ∀ q : Nat, s.heap.size ≤ q → A q := fun q h => by rw [← hAe]; exact Or.inr h
  have hS : va_S A s.heap s.heap [] := va_S.rf
  have hl := lv_entry ([.ref (qa 0), .int a1, .int a2, .int a3, .int a4, .int a5]) (n := 13) (Nat.le_of_ble_eq_true rfl)
  rw [lg_entry_eq]
  generalize (lg_sl ([.ref (qa 0), .int a1, .int a2, .int a3, .int a4, .int a5]) ++ List.replicate (13 - (lg_sl ([.ref (qa 0), .int a1, .int a2, .int a3, .int a4, .int a5])).length) Slot.unset).toArray = ls at hl ⊢
  have hl : lv_has ls 13 [(0, .ref (qa 0)), (1, .int a1), (2, .int a2), (3, .int a3), (4, .int a4), (5, .int a5)] := hl
  clear B
  generalize ([.ref (qa 0), .int a1, .int a2, .int a3, .int a4, .int a5] : List Value).toArray = args at hts ⊢
  have key : ∀ (H : Heap) (locs : List Loc), va_P D vwCl (wM cyI cyZ qa M) H → va_D A (wM cyI cyZ qa M) → va_S A s.heap H locs → W p l e rm_X8_callOff s m args below meth c H locs 0 0 (MQ below (jQl D A (fun u : Mo => wM cyI cyZ qa u) o) args s 0 0 A) (F0 m 0 ls []) := by
    intro H locs hP hD hS
    have h := hf
    unfold f_X8_callOff at h
    refine lv_aload_n hx hb dX8_callOff_0 rfl (lv_at hl 0 rfl) ?_
    refine lv_iconst (v := (0 : Int32)) hx hb dX8_callOff_1 (by decide) ?_
    refine va_put (D := D) (ci := 8) (v := .int (0 : Int32)) (ty := .int) (C := RX8) (T := TX8) (N := 24) hx hb hts in_X8_callOff_X8 tyX8 tyX8_ok nmX8 hown hK.1 hP hD hS 0 rfl rfl 0 (by decide) (hts _ kw_X8_callOff_1) (fun _ h9 => h9) rfl (tyX8_ok 0 (by decide)) rfl rfl (Nat.le_of_ble_eq_true rfl) dX8_callOff_2 (fun H locs hP hD hS => ?_)
    have hP : va_P D vwCl (wM cyI cyZ qa (M.1, va_up M.2 0 (0 : Int32))) H := hP
    have hD : va_D A (wM cyI cyZ qa (M.1, va_up M.2 0 (0 : Int32))) := hD
    refine lv_iload_n hx hb dX8_callOff_5 rfl (lv_at hl 1 rfl) ?_
    refine lv_iconst (v := (1 : Int32)) hx hb dX8_callOff_6 (by decide) ?_
    refine lv_bipush (v := (6 : Int32)) hx hb dX8_callOff_7 (by decide) ?_
    obtain ⟨z1, hz1, h⟩ := jb h
    refine jki (jrS (As := [.int a1, .int (1 : Int32), .int (6 : Int32)]) (rest := []) ⟨hx, hb, hml, hown, hts⟩ (c_X8_in l D cyI cyZ cyT   a1 (1 : Int32) (6 : Int32) z1 hz1) (va_cwS 3 hts gX8_callOff_X8_in rfl rfl rfl (by decide +kernel) ⟨Nat.le_of_ble_eq_true rfl, Nat.le_of_ble_eq_true rfl⟩) hK jP0 rfl rfl hl.1 (Nat.le_of_ble_eq_true rfl) dX8_callOff_9 ⟨Nat.le_of_ble_eq_true rfl, Nat.le_of_ble_eq_true rfl⟩) ?_
    clear hz1
    refine lv_if_eq (tgt := 54) hx hb dX8_callOff_12 (by decide) (fun c2 => ?_) (fun c2 => ?_)
    · have h := jt c2 h
      refine lv_ldc2 (v := (-3 : Int64)) hx hb hown (hts _ kw_X8_callOff_2) dX8_callOff_54 ?_
      exact W.lret hx hb hr (fun t ht _ => ⟨⟨_, _, rfl, Option.some.inj h, by rw [ht]; exact hP, hD⟩, hS.F ht⟩) hS.2.2 dX8_callOff_57 hlocks
    · have h := jf c2 h
      refine lv_iload_n hx hb dX8_callOff_15 rfl (lv_at hl 2 rfl) ?_
      refine lv_iconst (v := (0 : Int32)) hx hb dX8_callOff_16 (by decide) ?_
      refine lv_bipush (v := (10 : Int32)) hx hb dX8_callOff_17 (by decide) ?_
      obtain ⟨z3, hz3, h⟩ := jb h
      refine jki (jrS (As := [.int a2, .int (0 : Int32), .int (10 : Int32)]) (rest := []) ⟨hx, hb, hml, hown, hts⟩ (c_X8_in l D cyI cyZ cyT   a2 (0 : Int32) (10 : Int32) z3 hz3) (va_cwS 3 hts gX8_callOff_X8_in rfl rfl rfl (by decide +kernel) ⟨Nat.le_of_ble_eq_true rfl, Nat.le_of_ble_eq_true rfl⟩) hK jP0 rfl rfl hl.1 (Nat.le_of_ble_eq_true rfl) dX8_callOff_19 ⟨Nat.le_of_ble_eq_true rfl, Nat.le_of_ble_eq_true rfl⟩) ?_
      clear hz3
      refine lv_if_eq (tgt := 54) hx hb dX8_callOff_22 (by decide) (fun c4 => ?_) (fun c4 => ?_)
      · have h := jt c4 h
        refine lv_ldc2 (v := (-3 : Int64)) hx hb hown (hts _ kw_X8_callOff_2) dX8_callOff_54 ?_
        exact W.lret hx hb hr (fun t ht _ => ⟨⟨_, _, rfl, Option.some.inj h, by rw [ht]; exact hP, hD⟩, hS.F ht⟩) hS.2.2 dX8_callOff_57 hlocks
      · have h := jf c4 h
        refine lv_iload_n hx hb dX8_callOff_25 rfl (lv_at hl 3 rfl) ?_
        refine lv_iconst (v := (0 : Int32)) hx hb dX8_callOff_26 (by decide) ?_
        refine lv_bipush (v := (99 : Int32)) hx hb dX8_callOff_27 (by decide) ?_
        obtain ⟨z5, hz5, h⟩ := jb h
        refine jki (jrS (As := [.int a3, .int (0 : Int32), .int (99 : Int32)]) (rest := []) ⟨hx, hb, hml, hown, hts⟩ (c_X8_in l D cyI cyZ cyT   a3 (0 : Int32) (99 : Int32) z5 hz5) (va_cwS 3 hts gX8_callOff_X8_in rfl rfl rfl (by decide +kernel) ⟨Nat.le_of_ble_eq_true rfl, Nat.le_of_ble_eq_true rfl⟩) hK jP0 rfl rfl hl.1 (Nat.le_of_ble_eq_true rfl) dX8_callOff_29 ⟨Nat.le_of_ble_eq_true rfl, Nat.le_of_ble_eq_true rfl⟩) ?_
        clear hz5
        refine lv_if_eq (tgt := 54) hx hb dX8_callOff_32 (by decide) (fun c6 => ?_) (fun c6 => ?_)
        · have h := jt c6 h
          refine lv_ldc2 (v := (-3 : Int64)) hx hb hown (hts _ kw_X8_callOff_2) dX8_callOff_54 ?_
          exact W.lret hx hb hr (fun t ht _ => ⟨⟨_, _, rfl, Option.some.inj h, by rw [ht]; exact hP, hD⟩, hS.F ht⟩) hS.2.2 dX8_callOff_57 hlocks
        · have h := jf c6 h
          refine lv_iload hx hb dX8_callOff_35 (lv_at hl 4 rfl) ?_
          refine lv_iconst (v := (0 : Int32)) hx hb dX8_callOff_37 (by decide) ?_
          refine lv_bipush (v := (99 : Int32)) hx hb dX8_callOff_38 (by decide) ?_
          obtain ⟨z7, hz7, h⟩ := jb h
          refine jki (jrS (As := [.int a4, .int (0 : Int32), .int (99 : Int32)]) (rest := []) ⟨hx, hb, hml, hown, hts⟩ (c_X8_in l D cyI cyZ cyT   a4 (0 : Int32) (99 : Int32) z7 hz7) (va_cwS 3 hts gX8_callOff_X8_in rfl rfl rfl (by decide +kernel) ⟨Nat.le_of_ble_eq_true rfl, Nat.le_of_ble_eq_true rfl⟩) hK jP0 rfl rfl hl.1 (Nat.le_of_ble_eq_true rfl) dX8_callOff_40 ⟨Nat.le_of_ble_eq_true rfl, Nat.le_of_ble_eq_true rfl⟩) ?_
          clear hz7
          refine lv_if_eq (tgt := 54) hx hb dX8_callOff_43 (by decide) (fun c8 => ?_) (fun c8 => ?_)
          · have h := jt c8 h
            refine lv_ldc2 (v := (-3 : Int64)) hx hb hown (hts _ kw_X8_callOff_2) dX8_callOff_54 ?_
            exact W.lret hx hb hr (fun t ht _ => ⟨⟨_, _, rfl, Option.some.inj h, by rw [ht]; exact hP, hD⟩, hS.F ht⟩) hS.2.2 dX8_callOff_57 hlocks
          · have h := jf c8 h
            refine lv_iload hx hb dX8_callOff_46 (lv_at hl 5 rfl) ?_
            obtain ⟨z9, hz9, h⟩ := jb h
            refine jki (jrS (As := [.int a5]) (rest := []) ⟨hx, hb, hml, hown, hts⟩ (c_X8_isPart l D cyI cyZ cyT   a5 z9 hz9) (va_cwS 1 hts gX8_callOff_X8_isPart rfl rfl rfl (by decide +kernel) ⟨Nat.le_of_ble_eq_true rfl, Nat.le_of_ble_eq_true rfl⟩) hK jP0 rfl rfl hl.1 (Nat.le_of_ble_eq_true rfl) dX8_callOff_48 ⟨Nat.le_of_ble_eq_true rfl, Nat.le_of_ble_eq_true rfl⟩) ?_
            clear hz9
            refine lv_if_ne (tgt := 58) hx hb dX8_callOff_51 (by decide) (fun c10 => ?_) (fun c10 => ?_)
            · have h := jf c10 h
              refine lv_lconst (v := (0 : Int64)) hx hb dX8_callOff_58 (by decide) ?_
              refine lv_lstore (lv' := [(6, .long (0 : Int64)), (0, .ref (qa 0)), (1, .int a1), (2, .int a2), (3, .int a3), (4, .int a4), (5, .int a5)]) hx hb dX8_callOff_59 hl (by decide) rfl (fun ls hl => ?_)
              refine lv_lconst (v := (1 : Int64)) hx hb dX8_callOff_61 (by decide) ?_
              refine lv_lstore (lv' := [(8, .long (1 : Int64)), (6, .long (0 : Int64)), (0, .ref (qa 0)), (1, .int a1), (2, .int a2), (3, .int a3), (4, .int a4), (5, .int a5)]) hx hb dX8_callOff_62 hl (by decide) rfl (fun ls hl => ?_)
              refine lv_iconst (v := (0 : Int32)) hx hb dX8_callOff_64 (by decide) ?_
              refine lv_istore (lv' := [(10, .int (0 : Int32)), (8, .long (1 : Int64)), (6, .long (0 : Int64)), (0, .ref (qa 0)), (1, .int a1), (2, .int a2), (3, .int a3), (4, .int a4), (5, .int a5)]) hx hb dX8_callOff_65 hl (by decide) rfl (fun ls hl => ?_)
              obtain ⟨r11, hz11, h11_⟩ := jb h
              have hex11 : ∀ e11 : (Int64 × Int64), r11 = e11 → ∀ (H : Heap) (locs : List Loc), va_P D vwCl (wM cyI cyZ qa (M.1, va_up M.2 0 (0 : Int32))) H → va_D A (wM cyI cyZ qa (M.1, va_up M.2 0 (0 : Int32))) → va_S A s.heap H locs → ∀ (ls : Array Slot), lv_has ls 13 [(5, .int a5), (6, .long e11.1), (8, .long e11.2)] → W p l e rm_X8_callOff s m args below meth c H locs 0 0 (MQ below (jQl D A (fun u : Mo => wM cyI cyZ qa u) o) args s 0 0 A) (F0 m 127 ls []) := by
                intro e11 he H locs hP hD hS ls hl
                rw [he] at h11_
                have h := h11_
                clear hz11
                refine lv_lload hx hb dX8_callOff_127 (lv_at hl 1 rfl) ?_
                refine lv_lload hx hb dX8_callOff_129 (lv_at hl 2 rfl) ?_
                refine lv_iload hx hb dX8_callOff_131 (lv_at hl 0 rfl) ?_
                obtain ⟨z15, hz15, h⟩ := jb h
                refine jkl (jrS (As := [.long e11.1, .long e11.2, .int a5]) (rest := []) ⟨hx, hb, hml, hown, hts⟩ (c_X8_part l D cyI cyZ cyT   N e11.1 e11.2 a5 z15 hz15) (va_cwS 3 hts gX8_callOff_X8_part rfl rfl rfl (by decide +kernel) ⟨Nat.le_of_ble_eq_true rfl, Nat.le_of_ble_eq_true rfl⟩) hK jP0 rfl rfl hl.1 (Nat.le_of_ble_eq_true rfl) dX8_callOff_133 ⟨Nat.le_of_ble_eq_true rfl, Nat.le_of_ble_eq_true rfl⟩) ?_
                clear hz15
                exact W.lret hx hb hr (fun t ht _ => ⟨⟨_, _, rfl, Option.some.inj h, by rw [ht]; exact hP, hD⟩, hS.F ht⟩) hS.2.2 dX8_callOff_136 hlocks
              have hlp11 : ∀ (nn : Nat) (z11 : (Int64 × Int64 × Int32)), jw (X8_callOff_s67 a1 a2 a3 a4) nn z11 = some r11 → ∀ (H : Heap) (locs : List Loc), va_P D vwCl (wM cyI cyZ qa (M.1, va_up M.2 0 (0 : Int32))) H → va_D A (wM cyI cyZ qa (M.1, va_up M.2 0 (0 : Int32))) → va_S A s.heap H locs → ∀ (ls : Array Slot), lv_has ls 13 [(1, .int a1), (2, .int a2), (3, .int a3), (4, .int a4), (5, .int a5), (6, .long z11.1), (8, .long z11.2.1), (10, .int z11.2.2)] → W p l e rm_X8_callOff s m args below meth c H locs 0 0 (MQ below (jQl D A (fun u : Mo => wM cyI cyZ qa u) o) args s 0 0 A) (F0 m 67 ls []) := by
                refine jw_P (r := r11) (P := fun z11 : (Int64 × Int64 × Int32) => ∀ (H : Heap) (locs : List Loc), va_P D vwCl (wM cyI cyZ qa (M.1, va_up M.2 0 (0 : Int32))) H → va_D A (wM cyI cyZ qa (M.1, va_up M.2 0 (0 : Int32))) → va_S A s.heap H locs → ∀ (ls : Array Slot), lv_has ls 13 [(1, .int a1), (2, .int a2), (3, .int a3), (4, .int a4), (5, .int a5), (6, .long z11.1), (8, .long z11.2.1), (10, .int z11.2.2)] → W p l e rm_X8_callOff s m args below meth c H locs 0 0 (MQ below (jQl D A (fun u : Mo => wM cyI cyZ qa u) o) args s 0 0 A) (F0 m 67 ls [])) ?_
                intro z11 x11 h hin hout H locs hP hD hS ls hl
                unfold X8_callOff_s67 at h
                refine lv_iload hx hb dX8_callOff_67 (lv_at hl 7 rfl) ?_
                refine lv_iload_n hx hb dX8_callOff_69 rfl (lv_at hl 0 rfl) ?_
                refine lv_icmp_ge (tgt := 127) hx hb dX8_callOff_70 (by decide) (fun c12 => ?_) (fun c12 => ?_)
                · have h := jt c12 h
                  exact hex11 _ (hout _ (Option.some.inj h).symm).symm H locs hP hD hS ls (lv_sub hl [4, 5, 6] rfl)
                · have h := jf c12 h
                  refine lv_iload_n hx hb dX8_callOff_73 rfl (lv_at hl 1 rfl) ?_
                  refine lv_iload_n hx hb dX8_callOff_74 rfl (lv_at hl 2 rfl) ?_
                  refine lv_imul hx hb dX8_callOff_75 ?_
                  refine lv_i2l (v := (a2 * a3).toInt64) hx hb dX8_callOff_76 rfl ?_
                  refine lv_lload hx hb dX8_callOff_77 (lv_at hl 6 rfl) ?_
                  refine lv_lmul hx hb dX8_callOff_79 ?_
                  refine lv_bipush (v := (10 : Int32)) hx hb dX8_callOff_80 (by decide) ?_
                  refine lv_iload_n hx hb dX8_callOff_82 rfl (lv_at hl 1 rfl) ?_
                  refine lv_isub hx hb dX8_callOff_83 ?_
                  refine lv_i2l (v := ((10 : Int32) - a2).toInt64) hx hb dX8_callOff_84 rfl ?_
                  refine lv_lload hx hb dX8_callOff_85 (lv_at hl 5 rfl) ?_
                  refine lv_iload hx hb dX8_callOff_87 (lv_at hl 3 rfl) ?_
                  refine lv_i2l (v := a4.toInt64) hx hb dX8_callOff_89 rfl ?_
                  refine lv_lload hx hb dX8_callOff_90 (lv_at hl 6 rfl) ?_
                  refine lv_lmul hx hb dX8_callOff_92 ?_
                  refine lv_lsub hx hb dX8_callOff_93 ?_
                  refine lv_lmul hx hb dX8_callOff_94 ?_
                  refine lv_ladd hx hb dX8_callOff_95 ?_
                  refine lv_lstore (lv' := [(11, .long ((((a2 * a3).toInt64) * z11.2.1) + ((((10 : Int32) - a2).toInt64) * (z11.1 - (a4.toInt64 * z11.2.1))))), (1, .int a1), (2, .int a2), (3, .int a3), (4, .int a4), (5, .int a5), (6, .long z11.1), (8, .long z11.2.1), (10, .int z11.2.2)]) hx hb dX8_callOff_96 hl (by decide) rfl (fun ls hl => ?_)
                  refine lv_lload hx hb dX8_callOff_98 (lv_at hl 0 rfl) ?_
                  refine lv_lconst (v := (0 : Int64)) hx hb dX8_callOff_100 (by decide) ?_
                  refine W.lcmp hx hb dX8_callOff_101 ?_
                  obtain ⟨z13, hz13, h⟩ := jb h
                  have hk13 : ∀ (H : Heap) (locs : List Loc), va_P D vwCl (wM cyI cyZ qa (M.1, va_up M.2 0 (0 : Int32))) H → va_D A (wM cyI cyZ qa (M.1, va_up M.2 0 (0 : Int32))) → va_S A s.heap H locs → ∀ (ls : Array Slot), lv_has ls 13 [(1, .int a1), (2, .int a2), (3, .int a3), (4, .int a4), (5, .int a5), (8, .long z11.2.1), (10, .int z11.2.2)] → W p l e rm_X8_callOff s m args below meth c H locs 0 0 (MQ below (jQl D A (fun u : Mo => wM cyI cyZ qa u) o) args s 0 0 A) (F0 m 111 ls [.long z13]) := by
                    intro H locs hP hD hS ls hl
                    refine lv_lstore (lv' := [(6, .long z13), (1, .int a1), (2, .int a2), (3, .int a3), (4, .int a4), (5, .int a5), (8, .long z11.2.1), (10, .int z11.2.2)]) hx hb dX8_callOff_111 hl (by decide) rfl (fun ls hl => ?_)
                    refine lv_lload hx hb dX8_callOff_113 (lv_at hl 6 rfl) ?_
                    refine lv_ldc2 (v := (10 : Int64)) hx hb hown (hts _ kw_X8_callOff_3) dX8_callOff_115 ?_
                    refine lv_lmul hx hb dX8_callOff_118 ?_
                    refine lv_lstore (lv' := [(8, .long (z11.2.1 * (10 : Int64))), (6, .long z13), (1, .int a1), (2, .int a2), (3, .int a3), (4, .int a4), (5, .int a5), (10, .int z11.2.2)]) hx hb dX8_callOff_119 hl (by decide) rfl (fun ls hl => ?_)
                    refine lv_iinc (v := z11.2.2 + (1 : Int32)) (lv' := [(10, .int (z11.2.2 + (1 : Int32))), (8, .long (z11.2.1 * (10 : Int64))), (6, .long z13), (1, .int a1), (2, .int a2), (3, .int a3), (4, .int a4), (5, .int a5)]) hx hb dX8_callOff_121 hl (k := 7) rfl rfl (by decide) rfl (fun ls hl => ?_)
                    refine lv_goto (tgt := 67) hx hb dX8_callOff_124 (by decide) ?_
                    exact hin _ (Option.some.inj h).symm H locs hP hD hS ls (lv_sub hl [3, 4, 5, 6, 7, 2, 1, 0] rfl)
                  clear h
                  have h := hz13
                  clear hz13
                  refine lv_if_le (tgt := 110) hx hb dX8_callOff_102 (by decide) (fun c14 => ?_) (fun c14 => ?_)
                  · have h := jt ((lg_cmp_le _ _).mp c14) h
                    refine lv_lconst (v := (0 : Int64)) hx hb dX8_callOff_110 (by decide) ?_
                    obtain rfl := Option.some.inj h
                    exact hk13 H locs hP hD hS ls (lv_sub hl [1, 2, 3, 4, 5, 7, 8] rfl)
                  · have h := jf (fun e => c14 ((lg_cmp_le _ _).mpr e)) h
                    refine lv_lload hx hb dX8_callOff_105 (lv_at hl 0 rfl) ?_
                    refine lv_goto (tgt := 111) hx hb dX8_callOff_107 (by decide) ?_
                    obtain rfl := Option.some.inj h
                    exact hk13 H locs hP hD hS ls (lv_sub hl [1, 2, 3, 4, 5, 7, 8] rfl)
              exact hlp11 _ _ hz11 H locs hP hD hS ls (lv_sub hl [4, 5, 6, 7, 8, 2, 1, 0] rfl)
            · have h := jt c10 h
              refine lv_ldc2 (v := (-3 : Int64)) hx hb hown (hts _ kw_X8_callOff_2) dX8_callOff_54 ?_
              exact W.lret hx hb hr (fun t ht _ => ⟨⟨_, _, rfl, Option.some.inj h, by rw [ht]; exact hP, hD⟩, hS.F ht⟩) hS.2.2 dX8_callOff_57 hlocks
  exact key s.heap [] hP hD hS
theorem kw_X8_canStand_1 : (.fieldLink RX8 22 "BellTheCatModel" "many" "[I" : Cond) ∈ wsX8_canStand := List.mem_of_getElem? (i := 1) rfl
theorem in_X8_canStand_X8 : ∀ w ∈ wsX80, w ∈ wsX8_canStand := fun w h => List.mem_cons_of_mem _ (List.mem_append_right _ h)
abbrev rm_X8_canStand : Room := { frames := 0, cells := 0, slots := 0, locals := 0 }
set_option maxHeartbeats 4000000 in
set_option maxRecDepth 100000 in
theorem c_X8_canStand (l : Launch) (D : va_G) (cyI cyZ cyT : ClassId) (qa : Nat → Nat) (a1 : Int32) (M : Mo) (o : Int32) (hf : f_X8_canStand a1 M = some o) : Met l yX8_canStand wsX8_canStand rm_X8_canStand (va_Pc [.ref (qa 0), .int a1] (jB D cyI cyZ cyT (wM cyI cyZ qa M))) (jSi o) 0 0 (fun _ => False) := by
  refine Met.ofW (cc := cX8_canStand) (maxL := 2) (ret := (some .boolean)) (by decide) rfl ?_
  intro p e s m args below meth c s₁ B hml hv
  obtain ⟨rfl, hP, hK⟩ := hv
  have hx := B.exec
  have hb := B.bytes
  have hr := B.returns
  have hts := atoms_spec (ws := wsX8_canStand) B.pre
  have hown : s.vm.findClass RX8 = some m.cls := findClass_of_methodNamed B.named
  have hlocks := B.notSynchronized
  have hl := lv_entry ([.ref (qa 0), .int a1]) (n := 2) (Nat.le_of_ble_eq_true rfl)
  rw [lg_entry_eq]
  generalize (lg_sl ([.ref (qa 0), .int a1]) ++ List.replicate (2 - (lg_sl ([.ref (qa 0), .int a1])).length) Slot.unset).toArray = ls at hl ⊢
  have hl : lv_has ls 2 [(0, .ref (qa 0)), (1, .int a1)] := hl
  clear B
  generalize ([.ref (qa 0), .int a1] : List Value).toArray = args at hts ⊢
  have key : ∀ (H : Heap), va_P D vwCl (wM cyI cyZ qa M) H → H = s.heap → W p l e rm_X8_canStand s m args below meth c H [] 0 0 (MQ below (jSi o) args s 0 0 (fun _ => False)) (F0 m 0 ls []) := by
    intro H hP hH
    have h := hf
    unfold f_X8_canStand at h
    refine lv_iload_n hx hb dX8_canStand_0 rfl (lv_at hl 1 rfl) ?_
    refine lv_iconst (v := (4 : Int32)) hx hb dX8_canStand_1 (by decide) ?_
    refine lv_icmp_ge (tgt := 24) hx hb dX8_canStand_2 (by decide) (fun c1 => ?_) (fun c1 => ?_)
    · have h := jt c1 h
      refine lv_iload_n hx hb dX8_canStand_24 rfl (lv_at hl 1 rfl) ?_
      refine lv_iconst (v := (4 : Int32)) hx hb dX8_canStand_25 (by decide) ?_
      refine lv_icmp_ne (tgt := 47) hx hb dX8_canStand_26 (by decide) (fun c2 => ?_) (fun c2 => ?_)
      · have h := jf c2 h
        refine lv_iload_n hx hb dX8_canStand_47 rfl (lv_at hl 1 rfl) ?_
        refine lv_iconst (v := (5 : Int32)) hx hb dX8_canStand_48 (by decide) ?_
        refine lv_icmp_ne (tgt := 71) hx hb dX8_canStand_49 (by decide) (fun c3 => ?_) (fun c3 => ?_)
        · have h := jf c3 h
          refine lv_iload_n hx hb dX8_canStand_71 rfl (lv_at hl 1 rfl) ?_
          refine lv_bipush (v := (9 : Int32)) hx hb dX8_canStand_72 (by decide) ?_
          refine lv_icmp_ge (tgt := 81) hx hb dX8_canStand_74 (by decide) (fun c4 => ?_) (fun c4 => ?_)
          · have h := jt c4 h
            refine lv_iconst (v := (0 : Int32)) hx hb dX8_canStand_81 (by decide) ?_
            exact W.zret hx hb hr rfl (fun t ht _ => ⟨_, rfl, Option.some.inj h, ht.trans hH⟩) (fun q h => by cases h) dX8_canStand_82 hlocks
          · have h := jf c4 h
            refine lv_iconst (v := (1 : Int32)) hx hb dX8_canStand_77 (by decide) ?_
            refine lv_goto (tgt := 82) hx hb dX8_canStand_78 (by decide) ?_
            exact W.zret hx hb hr rfl (fun t ht _ => ⟨_, rfl, Option.some.inj h, ht.trans hH⟩) (fun q h => by cases h) dX8_canStand_82 hlocks
        · have h := jt c3 h
          refine lv_aload_n hx hb dX8_canStand_52 rfl (lv_at hl 0 rfl) ?_
          refine va_get (D := D) (ci := 8) (v := .ref (qa 5)) (C := RX8) (T := TX8) (N := 24) hx hb hts in_X8_canStand_X8 hown hK.1 hP 0 rfl rfl 13 (by decide) (hts _ kw_X8_canStand_1) (fun _ h9 => h9) rfl dX8_canStand_53 ?_
          refine lv_bipush (v := (6 : Int32)) hx hb dX8_canStand_56 (by decide) ?_
          refine jald hx hb hK hP 5 rfl 6 (by decide) (by decide) dX8_canStand_58 ?_
          refine lv_iconst (v := (4 : Int32)) hx hb dX8_canStand_59 (by decide) ?_
          refine lv_icmp_ge (tgt := 67) hx hb dX8_canStand_60 (by decide) (fun c5 => ?_) (fun c5 => ?_)
          · have h := jt c5 h
            refine lv_iconst (v := (0 : Int32)) hx hb dX8_canStand_67 (by decide) ?_
            refine lv_goto (tgt := 82) hx hb dX8_canStand_68 (by decide) ?_
            exact W.zret hx hb hr rfl (fun t ht _ => ⟨_, rfl, Option.some.inj h, ht.trans hH⟩) (fun q h => by cases h) dX8_canStand_82 hlocks
          · have h := jf c5 h
            refine lv_iconst (v := (1 : Int32)) hx hb dX8_canStand_63 (by decide) ?_
            refine lv_goto (tgt := 82) hx hb dX8_canStand_64 (by decide) ?_
            exact W.zret hx hb hr rfl (fun t ht _ => ⟨_, rfl, Option.some.inj h, ht.trans hH⟩) (fun q h => by cases h) dX8_canStand_82 hlocks
      · have h := jt c2 h
        refine lv_aload_n hx hb dX8_canStand_29 rfl (lv_at hl 0 rfl) ?_
        refine va_get (D := D) (ci := 8) (v := .ref (qa 5)) (C := RX8) (T := TX8) (N := 24) hx hb hts in_X8_canStand_X8 hown hK.1 hP 0 rfl rfl 13 (by decide) (hts _ kw_X8_canStand_1) (fun _ h9 => h9) rfl dX8_canStand_30 ?_
        refine lv_iconst (v := (5 : Int32)) hx hb dX8_canStand_33 (by decide) ?_
        refine jald hx hb hK hP 5 rfl 5 (by decide) (by decide) dX8_canStand_34 ?_
        refine lv_iconst (v := (5 : Int32)) hx hb dX8_canStand_35 (by decide) ?_
        refine lv_icmp_ge (tgt := 43) hx hb dX8_canStand_36 (by decide) (fun c6 => ?_) (fun c6 => ?_)
        · have h := jt c6 h
          refine lv_iconst (v := (0 : Int32)) hx hb dX8_canStand_43 (by decide) ?_
          refine lv_goto (tgt := 82) hx hb dX8_canStand_44 (by decide) ?_
          exact W.zret hx hb hr rfl (fun t ht _ => ⟨_, rfl, Option.some.inj h, ht.trans hH⟩) (fun q h => by cases h) dX8_canStand_82 hlocks
        · have h := jf c6 h
          refine lv_iconst (v := (1 : Int32)) hx hb dX8_canStand_39 (by decide) ?_
          refine lv_goto (tgt := 82) hx hb dX8_canStand_40 (by decide) ?_
          exact W.zret hx hb hr rfl (fun t ht _ => ⟨_, rfl, Option.some.inj h, ht.trans hH⟩) (fun q h => by cases h) dX8_canStand_82 hlocks
    · have h := jf c1 h
      refine lv_aload_n hx hb dX8_canStand_5 rfl (lv_at hl 0 rfl) ?_
      refine va_get (D := D) (ci := 8) (v := .ref (qa 5)) (C := RX8) (T := TX8) (N := 24) hx hb hts in_X8_canStand_X8 hown hK.1 hP 0 rfl rfl 13 (by decide) (hts _ kw_X8_canStand_1) (fun _ h9 => h9) rfl dX8_canStand_6 ?_
      refine lv_iconst (v := (4 : Int32)) hx hb dX8_canStand_9 (by decide) ?_
      refine jald hx hb hK hP 5 rfl 4 (by decide) (by decide) dX8_canStand_10 ?_
      refine lv_bipush (v := (6 : Int32)) hx hb dX8_canStand_11 (by decide) ?_
      refine lv_icmp_ge (tgt := 20) hx hb dX8_canStand_13 (by decide) (fun c7 => ?_) (fun c7 => ?_)
      · have h := jt c7 h
        refine lv_iconst (v := (0 : Int32)) hx hb dX8_canStand_20 (by decide) ?_
        refine lv_goto (tgt := 82) hx hb dX8_canStand_21 (by decide) ?_
        exact W.zret hx hb hr rfl (fun t ht _ => ⟨_, rfl, Option.some.inj h, ht.trans hH⟩) (fun q h => by cases h) dX8_canStand_82 hlocks
      · have h := jf c7 h
        refine lv_iconst (v := (1 : Int32)) hx hb dX8_canStand_16 (by decide) ?_
        refine lv_goto (tgt := 82) hx hb dX8_canStand_17 (by decide) ?_
        exact W.zret hx hb hr rfl (fun t ht _ => ⟨_, rfl, Option.some.inj h, ht.trans hH⟩) (fun q h => by cases h) dX8_canStand_82 hlocks
  exact key s.heap hP rfl
abbrev rm_X8_choose : Room := { frames := 0, cells := 0, slots := 0, locals := 0 }
set_option maxHeartbeats 4000000 in
set_option maxRecDepth 100000 in
theorem c_X8_choose (l : Launch) (D : va_G) (cyI cyZ cyT : ClassId) (N : Nat) (a0 : Int32) (a1 : Int32) (o : Int64) (hf : f_X8_choose N a0 a1 = some o) : Met l yX8_choose wsX8_choose rm_X8_choose (va_Pc [.int a0, .int a1] (jB D cyI cyZ cyT ([]))) (jSl o) 0 0 (fun _ => False) := by
  refine Met.ofW (cc := cX8_choose) (maxL := 5) (ret := (some .long)) (by decide) rfl ?_
  intro p e s m args below meth c s₁ B hml hv
  obtain ⟨rfl, hP, hK⟩ := hv
  have hx := B.exec
  have hb := B.bytes
  have hr := B.returns
  have hts := atoms_spec (ws := wsX8_choose) B.pre
  have hown : s.vm.findClass RX8 = some m.cls := findClass_of_methodNamed B.named
  have hlocks := B.notSynchronized
  have hl := lv_entry ([.int a0, .int a1]) (n := 5) (Nat.le_of_ble_eq_true rfl)
  rw [lg_entry_eq]
  generalize (lg_sl ([.int a0, .int a1]) ++ List.replicate (5 - (lg_sl ([.int a0, .int a1])).length) Slot.unset).toArray = ls at hl ⊢
  have hl : lv_has ls 5 [(0, .int a0), (1, .int a1)] := hl
  clear B
  generalize ([.int a0, .int a1] : List Value).toArray = args at hts ⊢
  have key : ∀ (H : Heap), va_P D vwCl ([]) H → H = s.heap → W p l e rm_X8_choose s m args below meth c H [] 0 0 (MQ below (jSl o) args s 0 0 (fun _ => False)) (F0 m 0 ls []) := by
    intro H hP hH
    have h := hf
    unfold f_X8_choose at h
    refine lv_lconst (v := (1 : Int64)) hx hb dX8_choose_0 (by decide) ?_
    refine lv_lstore_n (lv' := [(2, .long (1 : Int64)), (0, .int a0), (1, .int a1)]) hx hb dX8_choose_1 rfl hl (by decide) rfl (fun ls hl => ?_)
    refine lv_iconst (v := (0 : Int32)) hx hb dX8_choose_2 (by decide) ?_
    refine lv_istore (lv' := [(4, .int (0 : Int32)), (2, .long (1 : Int64)), (0, .int a0), (1, .int a1)]) hx hb dX8_choose_3 hl (by decide) rfl (fun ls hl => ?_)
    obtain ⟨r1, hz1, h1_⟩ := jb h
    have hex1 : ∀ e1 : Int64, r1 = e1 → ∀ (ls : Array Slot), lv_has ls 5 [(2, .long e1)] → W p l e rm_X8_choose s m args below meth c H [] 0 0 (MQ below (jSl o) args s 0 0 (fun _ => False)) (F0 m 31 ls []) := by
      intro e1 he ls hl
      rw [he] at h1_
      have h := h1_
      clear hz1
      refine lv_lload_n hx hb dX8_choose_31 rfl (lv_at hl 0 rfl) ?_
      exact W.lret hx hb hr (fun t ht _ => ⟨_, rfl, Option.some.inj h, ht.trans hH⟩) (fun q h => by cases h) dX8_choose_32 hlocks
    have hlp1 : ∀ (nn : Nat) (z1 : (Int64 × Int32)), jw (X8_choose_s5 a0 a1) nn z1 = some r1 → ∀ (ls : Array Slot), lv_has ls 5 [(0, .int a0), (1, .int a1), (2, .long z1.1), (4, .int z1.2)] → W p l e rm_X8_choose s m args below meth c H [] 0 0 (MQ below (jSl o) args s 0 0 (fun _ => False)) (F0 m 5 ls []) := by
      refine jw_P (r := r1) (P := fun z1 : (Int64 × Int32) => ∀ (ls : Array Slot), lv_has ls 5 [(0, .int a0), (1, .int a1), (2, .long z1.1), (4, .int z1.2)] → W p l e rm_X8_choose s m args below meth c H [] 0 0 (MQ below (jSl o) args s 0 0 (fun _ => False)) (F0 m 5 ls [])) ?_
      intro z1 x1 h hin hout ls hl
      unfold X8_choose_s5 at h
      refine lv_iload hx hb dX8_choose_5 (lv_at hl 3 rfl) ?_
      refine lv_iload_n hx hb dX8_choose_7 rfl (lv_at hl 1 rfl) ?_
      refine lv_icmp_ge (tgt := 31) hx hb dX8_choose_8 (by decide) (fun c2 => ?_) (fun c2 => ?_)
      · have h := jt c2 h
        exact hex1 _ (hout _ (Option.some.inj h).symm).symm ls (lv_sub hl [2] rfl)
      · have h := jf c2 h
        refine lv_lload_n hx hb dX8_choose_11 rfl (lv_at hl 2 rfl) ?_
        refine lv_iload_n hx hb dX8_choose_12 rfl (lv_at hl 0 rfl) ?_
        refine lv_iload hx hb dX8_choose_13 (lv_at hl 3 rfl) ?_
        refine lv_isub hx hb dX8_choose_15 ?_
        refine lv_i2l (v := (a0 - z1.2).toInt64) hx hb dX8_choose_16 rfl ?_
        refine lv_lmul hx hb dX8_choose_17 ?_
        refine lv_iload hx hb dX8_choose_18 (lv_at hl 3 rfl) ?_
        refine lv_iconst (v := (1 : Int32)) hx hb dX8_choose_20 (by decide) ?_
        refine lv_iadd hx hb dX8_choose_21 ?_
        refine lv_i2l (v := (z1.2 + (1 : Int32)).toInt64) hx hb dX8_choose_22 rfl ?_
        obtain ⟨g3, h⟩ := jn h
        refine lv_ldiv hx hb dX8_choose_23 g3 ?_
        refine lv_lstore_n (lv' := [(2, .long ((z1.1 * ((a0 - z1.2).toInt64)) / ((z1.2 + (1 : Int32)).toInt64))), (0, .int a0), (1, .int a1), (4, .int z1.2)]) hx hb dX8_choose_24 rfl hl (by decide) rfl (fun ls hl => ?_)
        refine lv_iinc (v := z1.2 + (1 : Int32)) (lv' := [(4, .int (z1.2 + (1 : Int32))), (2, .long ((z1.1 * ((a0 - z1.2).toInt64)) / ((z1.2 + (1 : Int32)).toInt64))), (0, .int a0), (1, .int a1)]) hx hb dX8_choose_25 hl (k := 3) rfl rfl (by decide) rfl (fun ls hl => ?_)
        refine lv_goto (tgt := 5) hx hb dX8_choose_28 (by decide) ?_
        exact hin _ (Option.some.inj h).symm ls (lv_sub hl [2, 3, 1, 0] rfl)
    exact hlp1 _ _ hz1 ls (lv_sub hl [2, 3, 1, 0] rfl)
  exact key s.heap hP rfl
theorem kw_X8_fails_1 : (.fieldLink RX8 108 "BellTheCatModel" "faultAt" "I" : Cond) ∈ wsX8_fails := List.mem_of_getElem? (i := 1) rfl
theorem kw_X8_fails_2 : (.fieldLink RX8 64 "BellTheCatModel" "place" "I" : Cond) ∈ wsX8_fails := List.mem_of_getElem? (i := 2) rfl
theorem in_X8_fails_X8 : ∀ w ∈ wsX80, w ∈ wsX8_fails := fun w h => List.mem_cons_of_mem _ (List.mem_append_right _ h)
abbrev rm_X8_fails : Room := { frames := 0, cells := 0, slots := 0, locals := 0 }
set_option maxHeartbeats 4000000 in
set_option maxRecDepth 100000 in
theorem c_X8_fails (l : Launch) (D : va_G) (cyI cyZ cyT : ClassId) (qa : Nat → Nat) (sz : Nat) (M : Mo) (o : Mo) (hf : f_X8_fails M = some o) : Met l yX8_fails wsX8_fails rm_X8_fails (va_Pc [.ref (qa 0)] (jM D cyI cyZ cyT (wM cyI cyZ qa M) sz)) (jQv D (va_A (wM cyI cyZ qa M) sz) (fun u : Mo => wM cyI cyZ qa u) o) 0 0 (va_A (wM cyI cyZ qa M) sz) := by
  refine Met.ofW (cc := cX8_fails) (maxL := 1) (ret := none) (by decide) rfl ?_
  intro p e s m args below meth c s₁ B hml hv
  obtain ⟨rfl, hsz, hP, hK, hD0⟩ := hv
  have hx := B.exec
  have hb := B.bytes
  have hr := B.returns
  have hts := atoms_spec (ws := wsX8_fails) B.pre
  have hown : s.vm.findClass RX8 = some m.cls := findClass_of_methodNamed B.named
  have hlocks := B.notSynchronized
  subst hsz
  have hD := hD0.self (sz := s.heap.size)
  generalize hAe : va_A (wM cyI cyZ qa M) s.heap.size = A at hD ⊢
  have hA : ∀ q : Nat, s.heap.size ≤ q → A q := fun q h => by rw [← hAe]; exact Or.inr h
  have hS : va_S A s.heap s.heap [] := va_S.rf
  have hl := lv_entry ([.ref (qa 0)]) (n := 1) (Nat.le_of_ble_eq_true rfl)
  rw [lg_entry_eq]
  generalize (lg_sl ([.ref (qa 0)]) ++ List.replicate (1 - (lg_sl ([.ref (qa 0)])).length) Slot.unset).toArray = ls at hl ⊢
  have hl : lv_has ls 1 [(0, .ref (qa 0))] := hl
  clear B
  generalize ([.ref (qa 0)] : List Value).toArray = args at hts ⊢
  have key : ∀ (H : Heap) (locs : List Loc), va_P D vwCl (wM cyI cyZ qa M) H → va_D A (wM cyI cyZ qa M) → va_S A s.heap H locs → W p l e rm_X8_fails s m args below meth c H locs 0 0 (MQ below (jQv D A (fun u : Mo => wM cyI cyZ qa u) o) args s 0 0 A) (F0 m 0 ls []) := by
    intro H locs hP hD hS
    have h := hf
    unfold f_X8_fails at h
    refine lv_aload_n hx hb dX8_fails_0 rfl (lv_at hl 0 rfl) ?_
    refine lv_aload_n hx hb dX8_fails_1 rfl (lv_at hl 0 rfl) ?_
    refine va_get (D := D) (ci := 8) (v := .int (M.2 8)) (C := RX8) (T := TX8) (N := 24) hx hb hts in_X8_fails_X8 hown hK.1 hP 0 rfl rfl 9 (by decide) (hts _ kw_X8_fails_1) (fun _ h9 => h9) rfl dX8_fails_2 ?_
    refine lv_iconst (v := (-1 : Int32)) hx hb dX8_fails_5 (by decide) ?_
    obtain ⟨z1, hz1, h⟩ := jb h
    have hk1 : ∀ (H : Heap) (locs : List Loc), va_P D vwCl (wM cyI cyZ qa M) H → va_D A (wM cyI cyZ qa M) → va_S A s.heap H locs → ∀ (ls : Array Slot), lv_has ls 1 [] → W p l e rm_X8_fails s m args below meth c H locs 0 0 (MQ below (jQv D A (fun u : Mo => wM cyI cyZ qa u) o) args s 0 0 A) (F0 m 20 ls [.int z1, .ref (qa 0)]) := by
      intro H locs hP hD hS ls hl
      refine va_put (D := D) (ci := 8) (v := .int z1) (ty := .int) (C := RX8) (T := TX8) (N := 24) hx hb hts in_X8_fails_X8 tyX8 tyX8_ok nmX8 hown hK.1 hP hD hS 0 rfl rfl 9 (by decide) (hts _ kw_X8_fails_1) (fun _ h9 => h9) rfl (tyX8_ok 9 (by decide)) rfl rfl (Nat.le_of_ble_eq_true rfl) dX8_fails_20 (fun H locs hP hD hS => ?_)
      have hP : va_P D vwCl (wM cyI cyZ qa (M.1, va_up M.2 8 z1)) H := hP
      have hD : va_D A (wM cyI cyZ qa (M.1, va_up M.2 8 z1)) := hD
      exact W.vret hx hb hr (fun t ht _ => ⟨⟨_, rfl, Option.some.inj h, by rw [ht]; exact hP, hD⟩, hS.F ht⟩) hS.2.2 dX8_fails_23 hlocks
    clear h
    have h := hz1
    clear hz1
    refine lv_icmp_ne (tgt := 16) hx hb dX8_fails_6 (by decide) (fun c2 => ?_) (fun c2 => ?_)
    · have h := jf c2 h
      refine lv_aload_n hx hb dX8_fails_16 rfl (lv_at hl 0 rfl) ?_
      refine va_get (D := D) (ci := 8) (v := .int (M.2 8)) (C := RX8) (T := TX8) (N := 24) hx hb hts in_X8_fails_X8 hown hK.1 hP 0 rfl rfl 9 (by decide) (hts _ kw_X8_fails_1) (fun _ h9 => h9) rfl dX8_fails_17 ?_
      obtain rfl := Option.some.inj h
      exact hk1 H locs hP hD hS ls (lv_sub hl [] rfl)
    · have h := jt c2 h
      refine lv_aload_n hx hb dX8_fails_9 rfl (lv_at hl 0 rfl) ?_
      refine va_get (D := D) (ci := 8) (v := .int (M.2 4)) (C := RX8) (T := TX8) (N := 24) hx hb hts in_X8_fails_X8 hown hK.1 hP 0 rfl rfl 5 (by decide) (hts _ kw_X8_fails_2) (fun _ h9 => h9) rfl dX8_fails_10 ?_
      refine lv_goto (tgt := 20) hx hb dX8_fails_13 (by decide) ?_
      obtain rfl := Option.some.inj h
      exact hk1 H locs hP hD hS ls (lv_sub hl [] rfl)
  exact key s.heap [] hP hD hS
theorem kw_X8_number_1 : (.fieldLink RX8 95 "BellTheCatModel" "token" "I" : Cond) ∈ wsX8_number := List.mem_of_getElem? (i := 1) rfl
theorem kw_X8_number_2 : (.fieldLink RX8 105 "BellTheCatModel" "figures" "I" : Cond) ∈ wsX8_number := List.mem_of_getElem? (i := 2) rfl
theorem kw_X8_number_3 : (.fieldLink RX8 102 "BellTheCatModel" "value" "I" : Cond) ∈ wsX8_number := List.mem_of_getElem? (i := 3) rfl
theorem kw_X8_number_4 : (.fieldLink RX8 108 "BellTheCatModel" "faultAt" "I" : Cond) ∈ wsX8_number := List.mem_of_getElem? (i := 4) rfl
theorem in_X8_number_X8 : ∀ w ∈ wsX80, w ∈ wsX8_number := fun w h => List.mem_cons_of_mem _ (List.mem_append_right _ h)
abbrev rm_X8_number : Room := { frames := 4, cells := 0, slots := 0, locals := 87 }
set_option maxHeartbeats 4000000 in
set_option maxRecDepth 100000 in
theorem c_X8_number (l : Launch) (D : va_G) (cyI cyZ cyT : ClassId) (qa : Nat → Nat) (sz : Nat) (N : Nat) (a1 : Int32) (M : Mo) (o : (Int32 × Mo)) (hf : f_X8_number N a1 M = some o) : Met l yX8_number wsX8_number rm_X8_number (va_Pc [.ref (qa 0), .int a1] (jM D cyI cyZ cyT (wM cyI cyZ qa M) sz)) (jQi D (va_A (wM cyI cyZ qa M) sz) (fun u : Mo => wM cyI cyZ qa u) o) 0 0 (va_A (wM cyI cyZ qa M) sz) := by
  refine Met.ofW (cc := cX8_number) (maxL := 3) (ret := (some .int)) (by decide) rfl ?_
  intro p e s m args below meth c s₁ B hml hv
  obtain ⟨rfl, hsz, hP, hK, hD0⟩ := hv
  have hx := B.exec
  have hb := B.bytes
  have hr := B.returns
  have hts := atoms_spec (ws := wsX8_number) B.pre
  have hown : s.vm.findClass RX8 = some m.cls := findClass_of_methodNamed B.named
  have hlocks := B.notSynchronized
  subst hsz
  have hD := hD0.self (sz := s.heap.size)
  generalize hAe : va_A (wM cyI cyZ qa M) s.heap.size = A at hD ⊢
  have hA : ∀ q : Nat, s.heap.size ≤ q → A q := fun q h => by rw [← hAe]; exact Or.inr h
  have hS : va_S A s.heap s.heap [] := va_S.rf
  have hl := lv_entry ([.ref (qa 0), .int a1]) (n := 3) (Nat.le_of_ble_eq_true rfl)
  rw [lg_entry_eq]
  generalize (lg_sl ([.ref (qa 0), .int a1]) ++ List.replicate (3 - (lg_sl ([.ref (qa 0), .int a1])).length) Slot.unset).toArray = ls at hl ⊢
  have hl : lv_has ls 3 [(0, .ref (qa 0)), (1, .int a1)] := hl
  clear B
  generalize ([.ref (qa 0), .int a1] : List Value).toArray = args at hts ⊢
  have key : ∀ (H : Heap) (locs : List Loc), va_P D vwCl (wM cyI cyZ qa M) H → va_D A (wM cyI cyZ qa M) → va_S A s.heap H locs → W p l e rm_X8_number s m args below meth c H locs 0 0 (MQ below (jQi D A (fun u : Mo => wM cyI cyZ qa u) o) args s 0 0 A) (F0 m 0 ls []) := by
    intro H locs hP hD hS
    have h := hf
    unfold f_X8_number at h
    refine lv_aload_n hx hb dX8_number_0 rfl (lv_at hl 0 rfl) ?_
    refine va_get (D := D) (ci := 8) (v := .int (M.2 3)) (C := RX8) (T := TX8) (N := 24) hx hb hts in_X8_number_X8 hown hK.1 hP 0 rfl rfl 4 (by decide) (hts _ kw_X8_number_1) (fun _ h9 => h9) rfl dX8_number_1 ?_
    refine lv_iconst (v := (2 : Int32)) hx hb dX8_number_4 (by decide) ?_
    obtain ⟨z1, hz1, h⟩ := jb h
    have hk1 : ∀ (H : Heap) (locs : List Loc), va_P D vwCl (wM cyI cyZ qa z1) H → va_D A (wM cyI cyZ qa z1) → va_S A s.heap H locs → ∀ (ls : Array Slot), lv_has ls 3 [(0, .ref (qa 0))] → W p l e rm_X8_number s m args below meth c H locs 0 0 (MQ below (jQi D A (fun u : Mo => wM cyI cyZ qa u) o) args s 0 0 A) (F0 m 28 ls []) := by
      intro H locs hP hD hS ls hl
      refine lv_aload_n hx hb dX8_number_28 rfl (lv_at hl 0 rfl) ?_
      refine va_get (D := D) (ci := 8) (v := .int (z1.2 8)) (C := RX8) (T := TX8) (N := 24) hx hb hts in_X8_number_X8 hown hK.1 hP 0 rfl rfl 9 (by decide) (hts _ kw_X8_number_4) (fun _ h9 => h9) rfl dX8_number_29 ?_
      refine lv_iconst (v := (-1 : Int32)) hx hb dX8_number_32 (by decide) ?_
      obtain ⟨z8, hz8, h⟩ := jb h
      have hk8 : ∀ (H : Heap) (locs : List Loc), va_P D vwCl (wM cyI cyZ qa z1) H → va_D A (wM cyI cyZ qa z1) → va_S A s.heap H locs → ∀ (ls : Array Slot), lv_has ls 3 [(0, .ref (qa 0))] → W p l e rm_X8_number s m args below meth c H locs 0 0 (MQ below (jQi D A (fun u : Mo => wM cyI cyZ qa u) o) args s 0 0 A) (F0 m 44 ls [.int z8]) := by
        intro H locs hP hD hS ls hl
        refine lv_istore_n (lv' := [(2, .int z8), (0, .ref (qa 0))]) hx hb dX8_number_44 rfl hl (by decide) rfl (fun ls hl => ?_)
        refine lv_aload_n hx hb dX8_number_45 rfl (lv_at hl 1 rfl) ?_
        refine va_get (D := D) (ci := 8) (v := .int (z1.2 8)) (C := RX8) (T := TX8) (N := 24) hx hb hts in_X8_number_X8 hown hK.1 hP 0 rfl rfl 9 (by decide) (hts _ kw_X8_number_4) (fun _ h9 => h9) rfl dX8_number_46 ?_
        refine lv_iconst (v := (-1 : Int32)) hx hb dX8_number_49 (by decide) ?_
        refine lv_icmp_ne (tgt := 57) hx hb dX8_number_50 (by decide) (fun c10 => ?_) (fun c10 => ?_)
        · have h := jf c10 h
          refine lv_iload_n hx hb dX8_number_57 rfl (lv_at hl 0 rfl) ?_
          exact W.iret hx hb hr (fun t ht _ => ⟨⟨_, _, rfl, Option.some.inj h, by rw [ht]; exact hP, hD⟩, hS.F ht⟩) hS.2.2 dX8_number_58 hlocks
        · have h := jt c10 h
          refine lv_aload_n hx hb dX8_number_53 rfl (lv_at hl 1 rfl) ?_
          obtain ⟨z11, hz11, h⟩ := jb h
          refine jgv (w1 := fun u : Mo => wM cyI cyZ qa u) (wn := wM cyI cyZ qa z11) (jmV (As := []) (rest := []) ⟨hx, hb, hml, hown, hts⟩ (c_X8_advances l D cyI cyZ cyT qa H.size N z1 z11 hz11) (cwV 0 hts gX8_number_X8_advances rfl rfl rfl (by decide +kernel) ⟨Nat.le_of_ble_eq_true rfl, Nat.le_of_ble_eq_true rfl⟩) hK hP hD rfl 8 0 rfl rfl rfl hl.1 (Nat.le_of_ble_eq_true rfl) dX8_number_54 ⟨Nat.le_of_ble_eq_true rfl, Nat.le_of_ble_eq_true rfl⟩) hP hD hS hA [0, 1, 2, 3, 4, 5, 6, 7, 8, 9, 10, 11, 12, 13] [] [0, 1, 2, 3, 4, 5, 6, 7, 8, 9, 10, 11, 12, 13] rfl rfl (by decide) (by decide) rfl (by decide) (fun H locs hP hD hS => ?_)
          clear hz11
          refine lv_iload_n hx hb dX8_number_57 rfl (lv_at hl 0 rfl) ?_
          exact W.iret hx hb hr (fun t ht _ => ⟨⟨_, _, rfl, Option.some.inj h, by rw [ht]; exact hP, hD⟩, hS.F ht⟩) hS.2.2 dX8_number_58 hlocks
      clear h
      have h := hz8
      clear hz8
      refine lv_icmp_ne (tgt := 43) hx hb dX8_number_33 (by decide) (fun c9 => ?_) (fun c9 => ?_)
      · have h := jf c9 h
        refine lv_iconst (v := (0 : Int32)) hx hb dX8_number_43 (by decide) ?_
        obtain rfl := Option.some.inj h
        exact hk8 H locs hP hD hS ls (lv_sub hl [0] rfl)
      · have h := jt c9 h
        refine lv_aload_n hx hb dX8_number_36 rfl (lv_at hl 0 rfl) ?_
        refine va_get (D := D) (ci := 8) (v := .int (z1.2 5)) (C := RX8) (T := TX8) (N := 24) hx hb hts in_X8_number_X8 hown hK.1 hP 0 rfl rfl 6 (by decide) (hts _ kw_X8_number_3) (fun _ h9 => h9) rfl dX8_number_37 ?_
        refine lv_goto (tgt := 44) hx hb dX8_number_40 (by decide) ?_
        obtain rfl := Option.some.inj h
        exact hk8 H locs hP hD hS ls (lv_sub hl [0] rfl)
    clear h
    have h := hz1
    clear hz1
    refine lv_icmp_ne (tgt := 24) hx hb dX8_number_5 (by decide) (fun c2 => ?_) (fun c2 => ?_)
    · have h := jf c2 h
      refine lv_aload_n hx hb dX8_number_24 rfl (lv_at hl 0 rfl) ?_
      obtain ⟨z3, hz3, h⟩ := jb h
      refine jgv (w1 := fun u : Mo => wM cyI cyZ qa u) (wn := wM cyI cyZ qa z3) (jmV (As := []) (rest := []) ⟨hx, hb, hml, hown, hts⟩ (c_X8_fails l D cyI cyZ cyT qa H.size M z3 hz3) (cwV 0 hts gX8_number_X8_fails rfl rfl rfl (by decide +kernel) ⟨Nat.le_of_ble_eq_true rfl, Nat.le_of_ble_eq_true rfl⟩) hK hP hD rfl 8 0 rfl rfl rfl hl.1 (Nat.le_of_ble_eq_true rfl) dX8_number_25 ⟨Nat.le_of_ble_eq_true rfl, Nat.le_of_ble_eq_true rfl⟩) hP hD hS hA [0, 1, 2, 3, 4, 5, 6, 7, 8, 9, 10, 11, 12, 13] [] [0, 1, 2, 3, 4, 5, 6, 7, 8, 9, 10, 11, 12, 13] rfl rfl (by decide) (by decide) rfl (by decide) (fun H locs hP hD hS => ?_)
      clear hz3
      obtain rfl := Option.some.inj h
      exact hk1 H locs hP hD hS ls (lv_sub hl [0] rfl)
    · have h := jt c2 h
      refine lv_aload_n hx hb dX8_number_8 rfl (lv_at hl 0 rfl) ?_
      refine va_get (D := D) (ci := 8) (v := .int (M.2 6)) (C := RX8) (T := TX8) (N := 24) hx hb hts in_X8_number_X8 hown hK.1 hP 0 rfl rfl 7 (by decide) (hts _ kw_X8_number_2) (fun _ h9 => h9) rfl dX8_number_9 ?_
      refine lv_iconst (v := (2 : Int32)) hx hb dX8_number_12 (by decide) ?_
      refine lv_icmp_gt (tgt := 24) hx hb dX8_number_13 (by decide) (fun c4 => ?_) (fun c4 => ?_)
      · have h := jt c4 h
        refine lv_aload_n hx hb dX8_number_24 rfl (lv_at hl 0 rfl) ?_
        obtain ⟨z5, hz5, h⟩ := jb h
        refine jgv (w1 := fun u : Mo => wM cyI cyZ qa u) (wn := wM cyI cyZ qa z5) (jmV (As := []) (rest := []) ⟨hx, hb, hml, hown, hts⟩ (c_X8_fails l D cyI cyZ cyT qa H.size M z5 hz5) (cwV 0 hts gX8_number_X8_fails rfl rfl rfl (by decide +kernel) ⟨Nat.le_of_ble_eq_true rfl, Nat.le_of_ble_eq_true rfl⟩) hK hP hD rfl 8 0 rfl rfl rfl hl.1 (Nat.le_of_ble_eq_true rfl) dX8_number_25 ⟨Nat.le_of_ble_eq_true rfl, Nat.le_of_ble_eq_true rfl⟩) hP hD hS hA [0, 1, 2, 3, 4, 5, 6, 7, 8, 9, 10, 11, 12, 13] [] [0, 1, 2, 3, 4, 5, 6, 7, 8, 9, 10, 11, 12, 13] rfl rfl (by decide) (by decide) rfl (by decide) (fun H locs hP hD hS => ?_)
        clear hz5
        obtain rfl := Option.some.inj h
        exact hk1 H locs hP hD hS ls (lv_sub hl [0] rfl)
      · have h := jf c4 h
        refine lv_aload_n hx hb dX8_number_16 rfl (lv_at hl 0 rfl) ?_
        refine va_get (D := D) (ci := 8) (v := .int (M.2 5)) (C := RX8) (T := TX8) (N := 24) hx hb hts in_X8_number_X8 hown hK.1 hP 0 rfl rfl 6 (by decide) (hts _ kw_X8_number_3) (fun _ h9 => h9) rfl dX8_number_17 ?_
        refine lv_iload_n hx hb dX8_number_20 rfl (lv_at hl 1 rfl) ?_
        refine lv_icmp_le (tgt := 28) hx hb dX8_number_21 (by decide) (fun c6 => ?_) (fun c6 => ?_)
        · have h := jt c6 h
          obtain rfl := Option.some.inj h
          exact hk1 H locs hP hD hS ls (lv_sub hl [0] rfl)
        · have h := jf c6 h
          refine lv_aload_n hx hb dX8_number_24 rfl (lv_at hl 0 rfl) ?_
          obtain ⟨z7, hz7, h⟩ := jb h
          refine jgv (w1 := fun u : Mo => wM cyI cyZ qa u) (wn := wM cyI cyZ qa z7) (jmV (As := []) (rest := []) ⟨hx, hb, hml, hown, hts⟩ (c_X8_fails l D cyI cyZ cyT qa H.size M z7 hz7) (cwV 0 hts gX8_number_X8_fails rfl rfl rfl (by decide +kernel) ⟨Nat.le_of_ble_eq_true rfl, Nat.le_of_ble_eq_true rfl⟩) hK hP hD rfl 8 0 rfl rfl rfl hl.1 (Nat.le_of_ble_eq_true rfl) dX8_number_25 ⟨Nat.le_of_ble_eq_true rfl, Nat.le_of_ble_eq_true rfl⟩) hP hD hS hA [0, 1, 2, 3, 4, 5, 6, 7, 8, 9, 10, 11, 12, 13] [] [0, 1, 2, 3, 4, 5, 6, 7, 8, 9, 10, 11, 12, 13] rfl rfl (by decide) (by decide) rfl (by decide) (fun H locs hP hD hS => ?_)
          clear hz7
          obtain rfl := Option.some.inj h
          exact hk1 H locs hP hD hS ls (lv_sub hl [0] rfl)
  exact key s.heap [] hP hD hS
theorem kw_X8_clause_1 : (.fieldLink RX8 22 "BellTheCatModel" "many" "[I" : Cond) ∈ wsX8_clause := List.mem_of_getElem? (i := 1) rfl
theorem kw_X8_clause_2 : (.fieldLink RX8 13 "BellTheCatModel" "mice" "[I" : Cond) ∈ wsX8_clause := List.mem_of_getElem? (i := 2) rfl
theorem kw_X8_clause_3 : (.fieldLink RX8 16 "BellTheCatModel" "noise" "[I" : Cond) ∈ wsX8_clause := List.mem_of_getElem? (i := 3) rfl
theorem kw_X8_clause_4 : (.fieldLink RX8 19 "BellTheCatModel" "rats" "[I" : Cond) ∈ wsX8_clause := List.mem_of_getElem? (i := 4) rfl
theorem in_X8_clause_X8 : ∀ w ∈ wsX80, w ∈ wsX8_clause := fun w h => List.mem_cons_of_mem _ (List.mem_append_right _ h)
abbrev rm_X8_clause : Room := { frames := 5, cells := 0, slots := 0, locals := 109 }
set_option maxHeartbeats 4000000 in
set_option maxRecDepth 100000 in
theorem c_X8_clause (l : Launch) (D : va_G) (cyI cyZ cyT : ClassId) (qa : Nat → Nat) (sz : Nat) (N : Nat) (a1 : Int32) (M : Mo) (o : Mo) (hf : f_X8_clause N a1 M = some o) : Met l yX8_clause wsX8_clause rm_X8_clause (va_Pc [.ref (qa 0), .int a1] (jM D cyI cyZ cyT (wM cyI cyZ qa M) sz)) (jQv D (va_A (wM cyI cyZ qa M) sz) (fun u : Mo => wM cyI cyZ qa u) o) 0 0 (va_A (wM cyI cyZ qa M) sz) := by
  refine Met.ofW (cc := cX8_clause) (maxL := 3) (ret := none) (by decide) rfl ?_
  intro p e s m args below meth c s₁ B hml hv
  obtain ⟨rfl, hsz, hP, hK, hD0⟩ := hv
  have hx := B.exec
  have hb := B.bytes
  have hr := B.returns
  have hts := atoms_spec (ws := wsX8_clause) B.pre
  have hown : s.vm.findClass RX8 = some m.cls := findClass_of_methodNamed B.named
  have hlocks := B.notSynchronized
  subst hsz
  have hD := hD0.self (sz := s.heap.size)
  generalize hAe : va_A (wM cyI cyZ qa M) s.heap.size = A at hD ⊢
  have hA : ∀ q : Nat, s.heap.size ≤ q → A q := fun q h => by rw [← hAe]; exact Or.inr h
  have hS : va_S A s.heap s.heap [] := va_S.rf
  have hl := lv_entry ([.ref (qa 0), .int a1]) (n := 3) (Nat.le_of_ble_eq_true rfl)
  rw [lg_entry_eq]
  generalize (lg_sl ([.ref (qa 0), .int a1]) ++ List.replicate (3 - (lg_sl ([.ref (qa 0), .int a1])).length) Slot.unset).toArray = ls at hl ⊢
  have hl : lv_has ls 3 [(0, .ref (qa 0)), (1, .int a1)] := hl
  clear B
  generalize ([.ref (qa 0), .int a1] : List Value).toArray = args at hts ⊢
  have key : ∀ (H : Heap) (locs : List Loc), va_P D vwCl (wM cyI cyZ qa M) H → va_D A (wM cyI cyZ qa M) → va_S A s.heap H locs → W p l e rm_X8_clause s m args below meth c H locs 0 0 (MQ below (jQv D A (fun u : Mo => wM cyI cyZ qa u) o) args s 0 0 A) (F0 m 0 ls []) := by
    intro H locs hP hD hS
    have h := hf
    unfold f_X8_clause at h
    refine lv_iload_n hx hb dX8_clause_0 rfl (lv_at hl 1 rfl) ?_
    refine lv_iconst (v := (4 : Int32)) hx hb dX8_clause_1 (by decide) ?_
    refine lv_icmp_ge (tgt := 79) hx hb dX8_clause_2 (by decide) (fun c1 => ?_) (fun c1 => ?_)
    · have h := jt c1 h
      refine lv_iload_n hx hb dX8_clause_79 rfl (lv_at hl 1 rfl) ?_
      refine lv_iconst (v := (4 : Int32)) hx hb dX8_clause_80 (by decide) ?_
      refine lv_icmp_ne (tgt := 116) hx hb dX8_clause_81 (by decide) (fun c2 => ?_) (fun c2 => ?_)
      · have h := jf c2 h
        refine lv_iload_n hx hb dX8_clause_116 rfl (lv_at hl 1 rfl) ?_
        refine lv_iconst (v := (5 : Int32)) hx hb dX8_clause_117 (by decide) ?_
        refine lv_icmp_ne (tgt := 188) hx hb dX8_clause_118 (by decide) (fun c3 => ?_) (fun c3 => ?_)
        · have h := jf c3 h
          refine lv_iload_n hx hb dX8_clause_188 rfl (lv_at hl 1 rfl) ?_
          refine lv_bipush (v := (6 : Int32)) hx hb dX8_clause_189 (by decide) ?_
          refine lv_icmp_ne (tgt := 210) hx hb dX8_clause_191 (by decide) (fun c4 => ?_) (fun c4 => ?_)
          · have h := jf c4 h
            refine lv_aload_n hx hb dX8_clause_210 rfl (lv_at hl 0 rfl) ?_
            refine va_get (D := D) (ci := 8) (v := .ref (qa 5)) (C := RX8) (T := TX8) (N := 24) hx hb hts in_X8_clause_X8 hown hK.1 hP 0 rfl rfl 13 (by decide) (hts _ kw_X8_clause_1) (fun _ h9 => h9) rfl dX8_clause_211 ?_
            refine lv_iconst (v := (5 : Int32)) hx hb dX8_clause_214 (by decide) ?_
            refine lv_iconst (v := (0 : Int32)) hx hb dX8_clause_215 (by decide) ?_
            refine jast (w' := wM cyI cyZ qa (va_up M.1 4 (upd (M.1 4) 5 (0 : Int32)), M.2)) hx hb hK hP hD hS 5 rfl 5 (by decide) (by decide) rfl dX8_clause_216 (fun H locs hP hD hS => ?_)
            refine lv_aload_n hx hb dX8_clause_217 rfl (lv_at hl 0 rfl) ?_
            refine va_get (D := D) (ci := 8) (v := .ref (qa 5)) (C := RX8) (T := TX8) (N := 24) hx hb hts in_X8_clause_X8 hown hK.1 hP 0 rfl rfl 13 (by decide) (hts _ kw_X8_clause_1) (fun _ h9 => h9) rfl dX8_clause_218 ?_
            refine lv_iconst (v := (4 : Int32)) hx hb dX8_clause_221 (by decide) ?_
            refine lv_iload_n hx hb dX8_clause_222 rfl (lv_at hl 1 rfl) ?_
            refine lv_bipush (v := (7 : Int32)) hx hb dX8_clause_223 (by decide) ?_
            obtain ⟨z5, hz5, h⟩ := jb h
            have hk5 : ∀ (H : Heap) (locs : List Loc), va_P D vwCl (wM cyI cyZ qa (va_up M.1 4 (upd (M.1 4) 5 (0 : Int32)), M.2)) H → va_D A (wM cyI cyZ qa (va_up M.1 4 (upd (M.1 4) 5 (0 : Int32)), M.2)) → va_S A s.heap H locs → ∀ (ls : Array Slot), lv_has ls 3 [(0, .ref (qa 0)), (1, .int a1)] → W p l e rm_X8_clause s m args below meth c H locs 0 0 (MQ below (jQv D A (fun u : Mo => wM cyI cyZ qa u) o) args s 0 0 A) (F0 m 238 ls [.int z5, .int (4 : Int32), .ref (qa 5)]) := by
              intro H locs hP hD hS ls hl
              refine jast (w' := wM cyI cyZ qa (va_up M.1 4 (upd (upd (M.1 4) 5 (0 : Int32)) 4 z5), M.2)) hx hb hK hP hD hS 5 rfl 4 (by decide) (by decide) rfl dX8_clause_238 (fun H locs hP hD hS => ?_)
              refine lv_aload_n hx hb dX8_clause_239 rfl (lv_at hl 0 rfl) ?_
              refine va_get (D := D) (ci := 8) (v := .ref (qa 5)) (C := RX8) (T := TX8) (N := 24) hx hb hts in_X8_clause_X8 hown hK.1 hP 0 rfl rfl 13 (by decide) (hts _ kw_X8_clause_1) (fun _ h9 => h9) rfl dX8_clause_240 ?_
              refine lv_bipush (v := (6 : Int32)) hx hb dX8_clause_243 (by decide) ?_
              refine lv_iload_n hx hb dX8_clause_245 rfl (lv_at hl 1 rfl) ?_
              refine lv_bipush (v := (7 : Int32)) hx hb dX8_clause_246 (by decide) ?_
              obtain ⟨z7, hz7, h⟩ := jb h
              have hk7 : ∀ (H : Heap) (locs : List Loc), va_P D vwCl (wM cyI cyZ qa (va_up M.1 4 (upd (upd (M.1 4) 5 (0 : Int32)) 4 z5), M.2)) H → va_D A (wM cyI cyZ qa (va_up M.1 4 (upd (upd (M.1 4) 5 (0 : Int32)) 4 z5), M.2)) → va_S A s.heap H locs → ∀ (ls : Array Slot), lv_has ls 3 [(0, .ref (qa 0)), (1, .int a1)] → W p l e rm_X8_clause s m args below meth c H locs 0 0 (MQ below (jQv D A (fun u : Mo => wM cyI cyZ qa u) o) args s 0 0 A) (F0 m 262 ls [.int z7, .int (6 : Int32), .ref (qa 5)]) := by
                intro H locs hP hD hS ls hl
                refine jast (w' := wM cyI cyZ qa (va_up M.1 4 (upd (upd (upd (M.1 4) 5 (0 : Int32)) 4 z5) 6 z7), M.2)) hx hb hK hP hD hS 5 rfl 6 (by decide) (by decide) rfl dX8_clause_262 (fun H locs hP hD hS => ?_)
                refine lv_aload_n hx hb dX8_clause_263 rfl (lv_at hl 0 rfl) ?_
                refine va_get (D := D) (ci := 8) (v := .ref (qa 5)) (C := RX8) (T := TX8) (N := 24) hx hb hts in_X8_clause_X8 hown hK.1 hP 0 rfl rfl 13 (by decide) (hts _ kw_X8_clause_1) (fun _ h9 => h9) rfl dX8_clause_264 ?_
                refine lv_bipush (v := (7 : Int32)) hx hb dX8_clause_267 (by decide) ?_
                refine lv_iload_n hx hb dX8_clause_269 rfl (lv_at hl 1 rfl) ?_
                refine lv_bipush (v := (7 : Int32)) hx hb dX8_clause_270 (by decide) ?_
                obtain ⟨z9, hz9, h⟩ := jb h
                have hk9 : ∀ (H : Heap) (locs : List Loc), va_P D vwCl (wM cyI cyZ qa (va_up M.1 4 (upd (upd (upd (M.1 4) 5 (0 : Int32)) 4 z5) 6 z7), M.2)) H → va_D A (wM cyI cyZ qa (va_up M.1 4 (upd (upd (upd (M.1 4) 5 (0 : Int32)) 4 z5) 6 z7), M.2)) → va_S A s.heap H locs → ∀ (ls : Array Slot), lv_has ls 3 [] → W p l e rm_X8_clause s m args below meth c H locs 0 0 (MQ below (jQv D A (fun u : Mo => wM cyI cyZ qa u) o) args s 0 0 A) (F0 m 287 ls [.int z9, .int (7 : Int32), .ref (qa 5)]) := by
                  intro H locs hP hD hS ls hl
                  refine jast (w' := wM cyI cyZ qa (va_up M.1 4 (upd (upd (upd (upd (M.1 4) 5 (0 : Int32)) 4 z5) 6 z7) 7 z9), M.2)) hx hb hK hP hD hS 5 rfl 7 (by decide) (by decide) rfl dX8_clause_287 (fun H locs hP hD hS => ?_)
                  exact W.vret hx hb hr (fun t ht _ => ⟨⟨_, rfl, Option.some.inj h, by rw [ht]; exact hP, hD⟩, hS.F ht⟩) hS.2.2 dX8_clause_288 hlocks
                clear h
                have h := hz9
                clear hz9
                refine lv_icmp_ne (tgt := 280) hx hb dX8_clause_272 (by decide) (fun c10 => ?_) (fun c10 => ?_)
                · have h := jf c10 h
                  refine lv_aload_n hx hb dX8_clause_280 rfl (lv_at hl 0 rfl) ?_
                  refine va_get (D := D) (ci := 8) (v := .ref (qa 5)) (C := RX8) (T := TX8) (N := 24) hx hb hts in_X8_clause_X8 hown hK.1 hP 0 rfl rfl 13 (by decide) (hts _ kw_X8_clause_1) (fun _ h9 => h9) rfl dX8_clause_281 ?_
                  refine lv_bipush (v := (7 : Int32)) hx hb dX8_clause_284 (by decide) ?_
                  refine jald hx hb hK hP 5 rfl 7 (by decide) (by decide) dX8_clause_286 ?_
                  obtain rfl := Option.some.inj h
                  exact hk9 H locs hP hD hS ls (lv_sub hl [] rfl)
                · have h := jt c10 h
                  refine lv_bipush (v := (20 : Int32)) hx hb dX8_clause_275 (by decide) ?_
                  refine lv_goto (tgt := 287) hx hb dX8_clause_277 (by decide) ?_
                  obtain rfl := Option.some.inj h
                  exact hk9 H locs hP hD hS ls (lv_sub hl [] rfl)
              clear h
              have h := hz7
              clear hz7
              refine lv_icmp_ne (tgt := 255) hx hb dX8_clause_248 (by decide) (fun c8 => ?_) (fun c8 => ?_)
              · have h := jf c8 h
                refine lv_aload_n hx hb dX8_clause_255 rfl (lv_at hl 0 rfl) ?_
                refine va_get (D := D) (ci := 8) (v := .ref (qa 5)) (C := RX8) (T := TX8) (N := 24) hx hb hts in_X8_clause_X8 hown hK.1 hP 0 rfl rfl 13 (by decide) (hts _ kw_X8_clause_1) (fun _ h9 => h9) rfl dX8_clause_256 ?_
                refine lv_bipush (v := (6 : Int32)) hx hb dX8_clause_259 (by decide) ?_
                refine jald hx hb hK hP 5 rfl 6 (by decide) (by decide) dX8_clause_261 ?_
                obtain rfl := Option.some.inj h
                exact hk7 H locs hP hD hS ls (lv_sub hl [0, 1] rfl)
              · have h := jt c8 h
                refine lv_iconst (v := (0 : Int32)) hx hb dX8_clause_251 (by decide) ?_
                refine lv_goto (tgt := 262) hx hb dX8_clause_252 (by decide) ?_
                obtain rfl := Option.some.inj h
                exact hk7 H locs hP hD hS ls (lv_sub hl [0, 1] rfl)
            clear h
            have h := hz5
            clear hz5
            refine lv_icmp_ne (tgt := 232) hx hb dX8_clause_225 (by decide) (fun c6 => ?_) (fun c6 => ?_)
            · have h := jf c6 h
              refine lv_aload_n hx hb dX8_clause_232 rfl (lv_at hl 0 rfl) ?_
              refine va_get (D := D) (ci := 8) (v := .ref (qa 5)) (C := RX8) (T := TX8) (N := 24) hx hb hts in_X8_clause_X8 hown hK.1 hP 0 rfl rfl 13 (by decide) (hts _ kw_X8_clause_1) (fun _ h9 => h9) rfl dX8_clause_233 ?_
              refine lv_iconst (v := (4 : Int32)) hx hb dX8_clause_236 (by decide) ?_
              refine jald hx hb hK hP 5 rfl 4 (by decide) (by decide) dX8_clause_237 ?_
              obtain rfl := Option.some.inj h
              exact hk5 H locs hP hD hS ls (lv_sub hl [0, 1] rfl)
            · have h := jt c6 h
              refine lv_iconst (v := (0 : Int32)) hx hb dX8_clause_228 (by decide) ?_
              refine lv_goto (tgt := 238) hx hb dX8_clause_229 (by decide) ?_
              obtain rfl := Option.some.inj h
              exact hk5 H locs hP hD hS ls (lv_sub hl [0, 1] rfl)
          · have h := jt c4 h
            refine lv_aload_n hx hb dX8_clause_194 rfl (lv_at hl 0 rfl) ?_
            refine va_get (D := D) (ci := 8) (v := .ref (qa 5)) (C := RX8) (T := TX8) (N := 24) hx hb hts in_X8_clause_X8 hown hK.1 hP 0 rfl rfl 13 (by decide) (hts _ kw_X8_clause_1) (fun _ h9 => h9) rfl dX8_clause_195 ?_
            refine lv_bipush (v := (7 : Int32)) hx hb dX8_clause_198 (by decide) ?_
            refine lv_aload_n hx hb dX8_clause_200 rfl (lv_at hl 0 rfl) ?_
            refine lv_bipush (v := (99 : Int32)) hx hb dX8_clause_201 (by decide) ?_
            obtain ⟨z11, hz11, h⟩ := jb h
            refine jgi (w1 := fun u : Mo => wM cyI cyZ qa u) (wn := wM cyI cyZ qa z11.2) (jmV (As := [.int (99 : Int32)]) (rest := [.int (7 : Int32), .ref (qa 5)]) ⟨hx, hb, hml, hown, hts⟩ (c_X8_number l D cyI cyZ cyT qa H.size N (99 : Int32) M z11 hz11) (cwV 1 hts gX8_clause_X8_number rfl rfl rfl (by decide +kernel) ⟨Nat.le_of_ble_eq_true rfl, Nat.le_of_ble_eq_true rfl⟩) hK hP hD rfl 8 0 rfl rfl rfl hl.1 (Nat.le_of_ble_eq_true rfl) dX8_clause_203 ⟨Nat.le_of_ble_eq_true rfl, Nat.le_of_ble_eq_true rfl⟩) hP hD hS hA [0, 1, 2, 3, 4, 5, 6, 7, 8, 9, 10, 11, 12, 13] [] [0, 1, 2, 3, 4, 5, 6, 7, 8, 9, 10, 11, 12, 13] rfl rfl (by decide) (by decide) rfl (by decide) (fun H locs hP hD hS => ?_)
            clear hz11
            refine jast (w' := wM cyI cyZ qa (va_up z11.2.1 4 (upd (z11.2.1 4) 7 z11.1), z11.2.2)) hx hb hK hP hD hS 5 rfl 7 (by decide) (by decide) rfl dX8_clause_206 (fun H locs hP hD hS => ?_)
            refine lv_goto (tgt := 288) hx hb dX8_clause_207 (by decide) ?_
            exact W.vret hx hb hr (fun t ht _ => ⟨⟨_, rfl, Option.some.inj h, by rw [ht]; exact hP, hD⟩, hS.F ht⟩) hS.2.2 dX8_clause_288 hlocks
        · have h := jt c3 h
          refine lv_bipush (v := (12 : Int32)) hx hb dX8_clause_121 (by decide) ?_
          refine lv_iconst (v := (3 : Int32)) hx hb dX8_clause_123 (by decide) ?_
          refine lv_aload_n hx hb dX8_clause_124 rfl (lv_at hl 0 rfl) ?_
          refine va_get (D := D) (ci := 8) (v := .ref (qa 5)) (C := RX8) (T := TX8) (N := 24) hx hb hts in_X8_clause_X8 hown hK.1 hP 0 rfl rfl 13 (by decide) (hts _ kw_X8_clause_1) (fun _ h9 => h9) rfl dX8_clause_125 ?_
          refine lv_bipush (v := (6 : Int32)) hx hb dX8_clause_128 (by decide) ?_
          refine jald hx hb hK hP 5 rfl 6 (by decide) (by decide) dX8_clause_130 ?_
          refine lv_imul hx hb dX8_clause_131 ?_
          refine lv_iadd hx hb dX8_clause_132 ?_
          refine lv_istore_n (lv' := [(2, .int ((12 : Int32) + ((3 : Int32) * (M.1 4 6)))), (0, .ref (qa 0)), (1, .int a1)]) hx hb dX8_clause_133 rfl hl (by decide) rfl (fun ls hl => ?_)
          refine lv_aload_n hx hb dX8_clause_134 rfl (lv_at hl 1 rfl) ?_
          refine va_get (D := D) (ci := 8) (v := .ref (qa 4)) (C := RX8) (T := TX8) (N := 24) hx hb hts in_X8_clause_X8 hown hK.1 hP 0 rfl rfl 12 (by decide) (hts _ kw_X8_clause_4) (fun _ h9 => h9) rfl dX8_clause_135 ?_
          refine lv_iload_n hx hb dX8_clause_138 rfl (lv_at hl 0 rfl) ?_
          refine lv_aload_n hx hb dX8_clause_139 rfl (lv_at hl 1 rfl) ?_
          refine lv_bipush (v := (99 : Int32)) hx hb dX8_clause_140 (by decide) ?_
          obtain ⟨z12, hz12, h⟩ := jb h
          refine jgi (w1 := fun u : Mo => wM cyI cyZ qa u) (wn := wM cyI cyZ qa z12.2) (jmV (As := [.int (99 : Int32)]) (rest := [.int ((12 : Int32) + ((3 : Int32) * (M.1 4 6))), .ref (qa 4)]) ⟨hx, hb, hml, hown, hts⟩ (c_X8_number l D cyI cyZ cyT qa H.size N (99 : Int32) M z12 hz12) (cwV 1 hts gX8_clause_X8_number rfl rfl rfl (by decide +kernel) ⟨Nat.le_of_ble_eq_true rfl, Nat.le_of_ble_eq_true rfl⟩) hK hP hD rfl 8 0 rfl rfl rfl hl.1 (Nat.le_of_ble_eq_true rfl) dX8_clause_142 ⟨Nat.le_of_ble_eq_true rfl, Nat.le_of_ble_eq_true rfl⟩) hP hD hS hA [0, 1, 2, 3, 4, 5, 6, 7, 8, 9, 10, 11, 12, 13] [] [0, 1, 2, 3, 4, 5, 6, 7, 8, 9, 10, 11, 12, 13] rfl rfl (by decide) (by decide) rfl (by decide) (fun H locs hP hD hS => ?_)
          clear hz12
          obtain ⟨g13, h⟩ := jn h
          refine jast (w' := wM cyI cyZ qa (va_up z12.2.1 3 (upd (z12.2.1 3) ((12 : Int32) + ((3 : Int32) * (M.1 4 6))).toNatClampNeg z12.1), z12.2.2)) hx hb hK hP hD hS 4 rfl _ rfl g13 rfl dX8_clause_145 (fun H locs hP hD hS => ?_)
          refine lv_aload_n hx hb dX8_clause_146 rfl (lv_at hl 1 rfl) ?_
          refine va_get (D := D) (ci := 8) (v := .ref (qa 4)) (C := RX8) (T := TX8) (N := 24) hx hb hts in_X8_clause_X8 hown hK.1 hP 0 rfl rfl 12 (by decide) (hts _ kw_X8_clause_4) (fun _ h9 => h9) rfl dX8_clause_147 ?_
          refine lv_iload_n hx hb dX8_clause_150 rfl (lv_at hl 0 rfl) ?_
          refine lv_iconst (v := (1 : Int32)) hx hb dX8_clause_151 (by decide) ?_
          refine lv_iadd hx hb dX8_clause_152 ?_
          refine lv_aload_n hx hb dX8_clause_153 rfl (lv_at hl 1 rfl) ?_
          refine lv_bipush (v := (10 : Int32)) hx hb dX8_clause_154 (by decide) ?_
          obtain ⟨z14, hz14, h⟩ := jb h
          refine jgi (w1 := fun u : Mo => wM cyI cyZ qa u) (wn := wM cyI cyZ qa z14.2) (jmV (As := [.int (10 : Int32)]) (rest := [.int (((12 : Int32) + ((3 : Int32) * (M.1 4 6))) + (1 : Int32)), .ref (qa 4)]) ⟨hx, hb, hml, hown, hts⟩ (c_X8_number l D cyI cyZ cyT qa H.size N (10 : Int32) (va_up z12.2.1 3 (upd (z12.2.1 3) ((12 : Int32) + ((3 : Int32) * (M.1 4 6))).toNatClampNeg z12.1), z12.2.2) z14 hz14) (cwV 1 hts gX8_clause_X8_number rfl rfl rfl (by decide +kernel) ⟨Nat.le_of_ble_eq_true rfl, Nat.le_of_ble_eq_true rfl⟩) hK hP hD rfl 8 0 rfl rfl rfl hl.1 (Nat.le_of_ble_eq_true rfl) dX8_clause_156 ⟨Nat.le_of_ble_eq_true rfl, Nat.le_of_ble_eq_true rfl⟩) hP hD hS hA [0, 1, 2, 3, 4, 5, 6, 7, 8, 9, 10, 11, 12, 13] [] [0, 1, 2, 3, 4, 5, 6, 7, 8, 9, 10, 11, 12, 13] rfl rfl (by decide) (by decide) rfl (by decide) (fun H locs hP hD hS => ?_)
          clear hz14
          obtain ⟨g15, h⟩ := jn h
          refine jast (w' := wM cyI cyZ qa (va_up z14.2.1 3 (upd (z14.2.1 3) (((12 : Int32) + ((3 : Int32) * (M.1 4 6))) + (1 : Int32)).toNatClampNeg z14.1), z14.2.2)) hx hb hK hP hD hS 4 rfl _ rfl g15 rfl dX8_clause_159 (fun H locs hP hD hS => ?_)
          refine lv_aload_n hx hb dX8_clause_160 rfl (lv_at hl 1 rfl) ?_
          refine va_get (D := D) (ci := 8) (v := .ref (qa 4)) (C := RX8) (T := TX8) (N := 24) hx hb hts in_X8_clause_X8 hown hK.1 hP 0 rfl rfl 12 (by decide) (hts _ kw_X8_clause_4) (fun _ h9 => h9) rfl dX8_clause_161 ?_
          refine lv_iload_n hx hb dX8_clause_164 rfl (lv_at hl 0 rfl) ?_
          refine lv_iconst (v := (2 : Int32)) hx hb dX8_clause_165 (by decide) ?_
          refine lv_iadd hx hb dX8_clause_166 ?_
          refine lv_aload_n hx hb dX8_clause_167 rfl (lv_at hl 1 rfl) ?_
          refine lv_bipush (v := (10 : Int32)) hx hb dX8_clause_168 (by decide) ?_
          obtain ⟨z16, hz16, h⟩ := jb h
          refine jgi (w1 := fun u : Mo => wM cyI cyZ qa u) (wn := wM cyI cyZ qa z16.2) (jmV (As := [.int (10 : Int32)]) (rest := [.int (((12 : Int32) + ((3 : Int32) * (M.1 4 6))) + (2 : Int32)), .ref (qa 4)]) ⟨hx, hb, hml, hown, hts⟩ (c_X8_number l D cyI cyZ cyT qa H.size N (10 : Int32) (va_up z14.2.1 3 (upd (z14.2.1 3) (((12 : Int32) + ((3 : Int32) * (M.1 4 6))) + (1 : Int32)).toNatClampNeg z14.1), z14.2.2) z16 hz16) (cwV 1 hts gX8_clause_X8_number rfl rfl rfl (by decide +kernel) ⟨Nat.le_of_ble_eq_true rfl, Nat.le_of_ble_eq_true rfl⟩) hK hP hD rfl 8 0 rfl rfl rfl hl.1 (Nat.le_of_ble_eq_true rfl) dX8_clause_170 ⟨Nat.le_of_ble_eq_true rfl, Nat.le_of_ble_eq_true rfl⟩) hP hD hS hA [0, 1, 2, 3, 4, 5, 6, 7, 8, 9, 10, 11, 12, 13] [] [0, 1, 2, 3, 4, 5, 6, 7, 8, 9, 10, 11, 12, 13] rfl rfl (by decide) (by decide) rfl (by decide) (fun H locs hP hD hS => ?_)
          clear hz16
          obtain ⟨g17, h⟩ := jn h
          refine jast (w' := wM cyI cyZ qa (va_up z16.2.1 3 (upd (z16.2.1 3) (((12 : Int32) + ((3 : Int32) * (M.1 4 6))) + (2 : Int32)).toNatClampNeg z16.1), z16.2.2)) hx hb hK hP hD hS 4 rfl _ rfl g17 rfl dX8_clause_173 (fun H locs hP hD hS => ?_)
          refine lv_aload_n hx hb dX8_clause_174 rfl (lv_at hl 1 rfl) ?_
          refine va_get (D := D) (ci := 8) (v := .ref (qa 5)) (C := RX8) (T := TX8) (N := 24) hx hb hts in_X8_clause_X8 hown hK.1 hP 0 rfl rfl 13 (by decide) (hts _ kw_X8_clause_1) (fun _ h9 => h9) rfl dX8_clause_175 ?_
          refine lv_bipush (v := (6 : Int32)) hx hb dX8_clause_178 (by decide) ?_
          refine lv_dup2_11 hx hb dX8_clause_180 rfl rfl ?_
          refine jald hx hb hK hP 5 rfl 6 (by decide) (by decide) dX8_clause_181 ?_
          refine lv_iconst (v := (1 : Int32)) hx hb dX8_clause_182 (by decide) ?_
          refine lv_iadd hx hb dX8_clause_183 ?_
          refine jast (w' := wM cyI cyZ qa (va_up (va_up z16.2.1 3 (upd (z16.2.1 3) (((12 : Int32) + ((3 : Int32) * (M.1 4 6))) + (2 : Int32)).toNatClampNeg z16.1)) 4 (upd (z16.2.1 4) 6 ((z16.2.1 4 6) + (1 : Int32))), z16.2.2)) hx hb hK hP hD hS 5 rfl 6 (by decide) (by decide) rfl dX8_clause_184 (fun H locs hP hD hS => ?_)
          refine lv_goto (tgt := 288) hx hb dX8_clause_185 (by decide) ?_
          exact W.vret hx hb hr (fun t ht _ => ⟨⟨_, rfl, Option.some.inj h, by rw [ht]; exact hP, hD⟩, hS.F ht⟩) hS.2.2 dX8_clause_288 hlocks
      · have h := jt c2 h
        refine lv_aload_n hx hb dX8_clause_84 rfl (lv_at hl 0 rfl) ?_
        refine va_get (D := D) (ci := 8) (v := .ref (qa 3)) (C := RX8) (T := TX8) (N := 24) hx hb hts in_X8_clause_X8 hown hK.1 hP 0 rfl rfl 11 (by decide) (hts _ kw_X8_clause_3) (fun _ h9 => h9) rfl dX8_clause_85 ?_
        refine lv_iconst (v := (5 : Int32)) hx hb dX8_clause_88 (by decide) ?_
        refine lv_aload_n hx hb dX8_clause_89 rfl (lv_at hl 0 rfl) ?_
        refine va_get (D := D) (ci := 8) (v := .ref (qa 5)) (C := RX8) (T := TX8) (N := 24) hx hb hts in_X8_clause_X8 hown hK.1 hP 0 rfl rfl 13 (by decide) (hts _ kw_X8_clause_1) (fun _ h9 => h9) rfl dX8_clause_90 ?_
        refine lv_iconst (v := (5 : Int32)) hx hb dX8_clause_93 (by decide) ?_
        refine jald hx hb hK hP 5 rfl 5 (by decide) (by decide) dX8_clause_94 ?_
        refine lv_iadd hx hb dX8_clause_95 ?_
        refine lv_aload_n hx hb dX8_clause_96 rfl (lv_at hl 0 rfl) ?_
        refine lv_bipush (v := (15 : Int32)) hx hb dX8_clause_97 (by decide) ?_
        obtain ⟨z18, hz18, h⟩ := jb h
        refine jgi (w1 := fun u : Mo => wM cyI cyZ qa u) (wn := wM cyI cyZ qa z18.2) (jmV (As := [.int (15 : Int32)]) (rest := [.int ((5 : Int32) + (M.1 4 5)), .ref (qa 3)]) ⟨hx, hb, hml, hown, hts⟩ (c_X8_number l D cyI cyZ cyT qa H.size N (15 : Int32) M z18 hz18) (cwV 1 hts gX8_clause_X8_number rfl rfl rfl (by decide +kernel) ⟨Nat.le_of_ble_eq_true rfl, Nat.le_of_ble_eq_true rfl⟩) hK hP hD rfl 8 0 rfl rfl rfl hl.1 (Nat.le_of_ble_eq_true rfl) dX8_clause_99 ⟨Nat.le_of_ble_eq_true rfl, Nat.le_of_ble_eq_true rfl⟩) hP hD hS hA [0, 1, 2, 3, 4, 5, 6, 7, 8, 9, 10, 11, 12, 13] [] [0, 1, 2, 3, 4, 5, 6, 7, 8, 9, 10, 11, 12, 13] rfl rfl (by decide) (by decide) rfl (by decide) (fun H locs hP hD hS => ?_)
        clear hz18
        obtain ⟨g19, h⟩ := jn h
        refine jast (w' := wM cyI cyZ qa (va_up z18.2.1 2 (upd (z18.2.1 2) ((5 : Int32) + (M.1 4 5)).toNatClampNeg z18.1), z18.2.2)) hx hb hK hP hD hS 3 rfl _ rfl g19 rfl dX8_clause_102 (fun H locs hP hD hS => ?_)
        refine lv_aload_n hx hb dX8_clause_103 rfl (lv_at hl 0 rfl) ?_
        refine va_get (D := D) (ci := 8) (v := .ref (qa 5)) (C := RX8) (T := TX8) (N := 24) hx hb hts in_X8_clause_X8 hown hK.1 hP 0 rfl rfl 13 (by decide) (hts _ kw_X8_clause_1) (fun _ h9 => h9) rfl dX8_clause_104 ?_
        refine lv_iconst (v := (5 : Int32)) hx hb dX8_clause_107 (by decide) ?_
        refine lv_dup2_11 hx hb dX8_clause_108 rfl rfl ?_
        refine jald hx hb hK hP 5 rfl 5 (by decide) (by decide) dX8_clause_109 ?_
        refine lv_iconst (v := (1 : Int32)) hx hb dX8_clause_110 (by decide) ?_
        refine lv_iadd hx hb dX8_clause_111 ?_
        refine jast (w' := wM cyI cyZ qa (va_up (va_up z18.2.1 2 (upd (z18.2.1 2) ((5 : Int32) + (M.1 4 5)).toNatClampNeg z18.1)) 4 (upd (z18.2.1 4) 5 ((z18.2.1 4 5) + (1 : Int32))), z18.2.2)) hx hb hK hP hD hS 5 rfl 5 (by decide) (by decide) rfl dX8_clause_112 (fun H locs hP hD hS => ?_)
        refine lv_goto (tgt := 288) hx hb dX8_clause_113 (by decide) ?_
        exact W.vret hx hb hr (fun t ht _ => ⟨⟨_, rfl, Option.some.inj h, by rw [ht]; exact hP, hD⟩, hS.F ht⟩) hS.2.2 dX8_clause_288 hlocks
    · have h := jf c1 h
      refine lv_bipush (v := (24 : Int32)) hx hb dX8_clause_5 (by decide) ?_
      refine lv_iconst (v := (4 : Int32)) hx hb dX8_clause_7 (by decide) ?_
      refine lv_aload_n hx hb dX8_clause_8 rfl (lv_at hl 0 rfl) ?_
      refine va_get (D := D) (ci := 8) (v := .ref (qa 5)) (C := RX8) (T := TX8) (N := 24) hx hb hts in_X8_clause_X8 hown hK.1 hP 0 rfl rfl 13 (by decide) (hts _ kw_X8_clause_1) (fun _ h9 => h9) rfl dX8_clause_9 ?_
      refine lv_iconst (v := (4 : Int32)) hx hb dX8_clause_12 (by decide) ?_
      refine jald hx hb hK hP 5 rfl 4 (by decide) (by decide) dX8_clause_13 ?_
      refine lv_imul hx hb dX8_clause_14 ?_
      refine lv_iadd hx hb dX8_clause_15 ?_
      refine lv_istore_n (lv' := [(2, .int ((24 : Int32) + ((4 : Int32) * (M.1 4 4)))), (0, .ref (qa 0)), (1, .int a1)]) hx hb dX8_clause_16 rfl hl (by decide) rfl (fun ls hl => ?_)
      refine lv_aload_n hx hb dX8_clause_17 rfl (lv_at hl 1 rfl) ?_
      refine va_get (D := D) (ci := 8) (v := .ref (qa 2)) (C := RX8) (T := TX8) (N := 24) hx hb hts in_X8_clause_X8 hown hK.1 hP 0 rfl rfl 10 (by decide) (hts _ kw_X8_clause_2) (fun _ h9 => h9) rfl dX8_clause_18 ?_
      refine lv_iload_n hx hb dX8_clause_21 rfl (lv_at hl 0 rfl) ?_
      refine lv_iload_n hx hb dX8_clause_22 rfl (lv_at hl 2 rfl) ?_
      obtain ⟨g20, h⟩ := jn h
      refine jast (w' := wM cyI cyZ qa (va_up M.1 1 (upd (M.1 1) ((24 : Int32) + ((4 : Int32) * (M.1 4 4))).toNatClampNeg a1), M.2)) hx hb hK hP hD hS 2 rfl _ rfl g20 rfl dX8_clause_23 (fun H locs hP hD hS => ?_)
      refine lv_aload_n hx hb dX8_clause_24 rfl (lv_at hl 1 rfl) ?_
      refine va_get (D := D) (ci := 8) (v := .ref (qa 2)) (C := RX8) (T := TX8) (N := 24) hx hb hts in_X8_clause_X8 hown hK.1 hP 0 rfl rfl 10 (by decide) (hts _ kw_X8_clause_2) (fun _ h9 => h9) rfl dX8_clause_25 ?_
      refine lv_iload_n hx hb dX8_clause_28 rfl (lv_at hl 0 rfl) ?_
      refine lv_iconst (v := (1 : Int32)) hx hb dX8_clause_29 (by decide) ?_
      refine lv_iadd hx hb dX8_clause_30 ?_
      refine lv_aload_n hx hb dX8_clause_31 rfl (lv_at hl 1 rfl) ?_
      refine lv_bipush (v := (9 : Int32)) hx hb dX8_clause_32 (by decide) ?_
      obtain ⟨z21, hz21, h⟩ := jb h
      refine jgi (w1 := fun u : Mo => wM cyI cyZ qa u) (wn := wM cyI cyZ qa z21.2) (jmV (As := [.int (9 : Int32)]) (rest := [.int (((24 : Int32) + ((4 : Int32) * (M.1 4 4))) + (1 : Int32)), .ref (qa 2)]) ⟨hx, hb, hml, hown, hts⟩ (c_X8_number l D cyI cyZ cyT qa H.size N (9 : Int32) (va_up M.1 1 (upd (M.1 1) ((24 : Int32) + ((4 : Int32) * (M.1 4 4))).toNatClampNeg a1), M.2) z21 hz21) (cwV 1 hts gX8_clause_X8_number rfl rfl rfl (by decide +kernel) ⟨Nat.le_of_ble_eq_true rfl, Nat.le_of_ble_eq_true rfl⟩) hK hP hD rfl 8 0 rfl rfl rfl hl.1 (Nat.le_of_ble_eq_true rfl) dX8_clause_34 ⟨Nat.le_of_ble_eq_true rfl, Nat.le_of_ble_eq_true rfl⟩) hP hD hS hA [0, 1, 2, 3, 4, 5, 6, 7, 8, 9, 10, 11, 12, 13] [] [0, 1, 2, 3, 4, 5, 6, 7, 8, 9, 10, 11, 12, 13] rfl rfl (by decide) (by decide) rfl (by decide) (fun H locs hP hD hS => ?_)
      clear hz21
      obtain ⟨g22, h⟩ := jn h
      refine jast (w' := wM cyI cyZ qa (va_up z21.2.1 1 (upd (z21.2.1 1) (((24 : Int32) + ((4 : Int32) * (M.1 4 4))) + (1 : Int32)).toNatClampNeg z21.1), z21.2.2)) hx hb hK hP hD hS 2 rfl _ rfl g22 rfl dX8_clause_37 (fun H locs hP hD hS => ?_)
      refine lv_aload_n hx hb dX8_clause_38 rfl (lv_at hl 1 rfl) ?_
      refine va_get (D := D) (ci := 8) (v := .ref (qa 2)) (C := RX8) (T := TX8) (N := 24) hx hb hts in_X8_clause_X8 hown hK.1 hP 0 rfl rfl 10 (by decide) (hts _ kw_X8_clause_2) (fun _ h9 => h9) rfl dX8_clause_39 ?_
      refine lv_iload_n hx hb dX8_clause_42 rfl (lv_at hl 0 rfl) ?_
      refine lv_iconst (v := (2 : Int32)) hx hb dX8_clause_43 (by decide) ?_
      refine lv_iadd hx hb dX8_clause_44 ?_
      refine lv_aload_n hx hb dX8_clause_45 rfl (lv_at hl 1 rfl) ?_
      refine lv_bipush (v := (99 : Int32)) hx hb dX8_clause_46 (by decide) ?_
      obtain ⟨z23, hz23, h⟩ := jb h
      refine jgi (w1 := fun u : Mo => wM cyI cyZ qa u) (wn := wM cyI cyZ qa z23.2) (jmV (As := [.int (99 : Int32)]) (rest := [.int (((24 : Int32) + ((4 : Int32) * (M.1 4 4))) + (2 : Int32)), .ref (qa 2)]) ⟨hx, hb, hml, hown, hts⟩ (c_X8_number l D cyI cyZ cyT qa H.size N (99 : Int32) (va_up z21.2.1 1 (upd (z21.2.1 1) (((24 : Int32) + ((4 : Int32) * (M.1 4 4))) + (1 : Int32)).toNatClampNeg z21.1), z21.2.2) z23 hz23) (cwV 1 hts gX8_clause_X8_number rfl rfl rfl (by decide +kernel) ⟨Nat.le_of_ble_eq_true rfl, Nat.le_of_ble_eq_true rfl⟩) hK hP hD rfl 8 0 rfl rfl rfl hl.1 (Nat.le_of_ble_eq_true rfl) dX8_clause_48 ⟨Nat.le_of_ble_eq_true rfl, Nat.le_of_ble_eq_true rfl⟩) hP hD hS hA [0, 1, 2, 3, 4, 5, 6, 7, 8, 9, 10, 11, 12, 13] [] [0, 1, 2, 3, 4, 5, 6, 7, 8, 9, 10, 11, 12, 13] rfl rfl (by decide) (by decide) rfl (by decide) (fun H locs hP hD hS => ?_)
      clear hz23
      obtain ⟨g24, h⟩ := jn h
      refine jast (w' := wM cyI cyZ qa (va_up z23.2.1 1 (upd (z23.2.1 1) (((24 : Int32) + ((4 : Int32) * (M.1 4 4))) + (2 : Int32)).toNatClampNeg z23.1), z23.2.2)) hx hb hK hP hD hS 2 rfl _ rfl g24 rfl dX8_clause_51 (fun H locs hP hD hS => ?_)
      refine lv_aload_n hx hb dX8_clause_52 rfl (lv_at hl 1 rfl) ?_
      refine va_get (D := D) (ci := 8) (v := .ref (qa 2)) (C := RX8) (T := TX8) (N := 24) hx hb hts in_X8_clause_X8 hown hK.1 hP 0 rfl rfl 10 (by decide) (hts _ kw_X8_clause_2) (fun _ h9 => h9) rfl dX8_clause_53 ?_
      refine lv_iload_n hx hb dX8_clause_56 rfl (lv_at hl 0 rfl) ?_
      refine lv_iconst (v := (3 : Int32)) hx hb dX8_clause_57 (by decide) ?_
      refine lv_iadd hx hb dX8_clause_58 ?_
      refine lv_aload_n hx hb dX8_clause_59 rfl (lv_at hl 1 rfl) ?_
      refine lv_bipush (v := (9 : Int32)) hx hb dX8_clause_60 (by decide) ?_
      obtain ⟨z25, hz25, h⟩ := jb h
      refine jgi (w1 := fun u : Mo => wM cyI cyZ qa u) (wn := wM cyI cyZ qa z25.2) (jmV (As := [.int (9 : Int32)]) (rest := [.int (((24 : Int32) + ((4 : Int32) * (M.1 4 4))) + (3 : Int32)), .ref (qa 2)]) ⟨hx, hb, hml, hown, hts⟩ (c_X8_number l D cyI cyZ cyT qa H.size N (9 : Int32) (va_up z23.2.1 1 (upd (z23.2.1 1) (((24 : Int32) + ((4 : Int32) * (M.1 4 4))) + (2 : Int32)).toNatClampNeg z23.1), z23.2.2) z25 hz25) (cwV 1 hts gX8_clause_X8_number rfl rfl rfl (by decide +kernel) ⟨Nat.le_of_ble_eq_true rfl, Nat.le_of_ble_eq_true rfl⟩) hK hP hD rfl 8 0 rfl rfl rfl hl.1 (Nat.le_of_ble_eq_true rfl) dX8_clause_62 ⟨Nat.le_of_ble_eq_true rfl, Nat.le_of_ble_eq_true rfl⟩) hP hD hS hA [0, 1, 2, 3, 4, 5, 6, 7, 8, 9, 10, 11, 12, 13] [] [0, 1, 2, 3, 4, 5, 6, 7, 8, 9, 10, 11, 12, 13] rfl rfl (by decide) (by decide) rfl (by decide) (fun H locs hP hD hS => ?_)
      clear hz25
      obtain ⟨g26, h⟩ := jn h
      refine jast (w' := wM cyI cyZ qa (va_up z25.2.1 1 (upd (z25.2.1 1) (((24 : Int32) + ((4 : Int32) * (M.1 4 4))) + (3 : Int32)).toNatClampNeg z25.1), z25.2.2)) hx hb hK hP hD hS 2 rfl _ rfl g26 rfl dX8_clause_65 (fun H locs hP hD hS => ?_)
      refine lv_aload_n hx hb dX8_clause_66 rfl (lv_at hl 1 rfl) ?_
      refine va_get (D := D) (ci := 8) (v := .ref (qa 5)) (C := RX8) (T := TX8) (N := 24) hx hb hts in_X8_clause_X8 hown hK.1 hP 0 rfl rfl 13 (by decide) (hts _ kw_X8_clause_1) (fun _ h9 => h9) rfl dX8_clause_67 ?_
      refine lv_iconst (v := (4 : Int32)) hx hb dX8_clause_70 (by decide) ?_
      refine lv_dup2_11 hx hb dX8_clause_71 rfl rfl ?_
      refine jald hx hb hK hP 5 rfl 4 (by decide) (by decide) dX8_clause_72 ?_
      refine lv_iconst (v := (1 : Int32)) hx hb dX8_clause_73 (by decide) ?_
      refine lv_iadd hx hb dX8_clause_74 ?_
      refine jast (w' := wM cyI cyZ qa (va_up (va_up z25.2.1 1 (upd (z25.2.1 1) (((24 : Int32) + ((4 : Int32) * (M.1 4 4))) + (3 : Int32)).toNatClampNeg z25.1)) 4 (upd (z25.2.1 4) 4 ((z25.2.1 4 4) + (1 : Int32))), z25.2.2)) hx hb hK hP hD hS 5 rfl 4 (by decide) (by decide) rfl dX8_clause_75 (fun H locs hP hD hS => ?_)
      refine lv_goto (tgt := 288) hx hb dX8_clause_76 (by decide) ?_
      exact W.vret hx hb hr (fun t ht _ => ⟨⟨_, rfl, Option.some.inj h, by rw [ht]; exact hP, hD⟩, hS.F ht⟩) hS.2.2 dX8_clause_288 hlocks
  exact key s.heap [] hP hD hS
theorem kw_X8_done_1 : (.fieldLink RX8 22 "BellTheCatModel" "many" "[I" : Cond) ∈ wsX8_done := List.mem_of_getElem? (i := 1) rfl
theorem kw_X8_done_2 : (.fieldLink RX8 25 "BellTheCatModel" "s" "[I" : Cond) ∈ wsX8_done := List.mem_of_getElem? (i := 2) rfl
theorem in_X8_done_X8 : ∀ w ∈ wsX80, w ∈ wsX8_done := fun w h => List.mem_cons_of_mem _ (List.mem_append_right _ h)
abbrev rm_X8_done : Room := { frames := 0, cells := 0, slots := 0, locals := 0 }
set_option maxHeartbeats 4000000 in
set_option maxRecDepth 100000 in
theorem c_X8_done (l : Launch) (D : va_G) (cyI cyZ cyT : ClassId) (qa : Nat → Nat) (N : Nat) (M : Mo) (o : Int32) (hf : f_X8_done N M = some o) : Met l yX8_done wsX8_done rm_X8_done (va_Pc [.ref (qa 0)] (jB D cyI cyZ cyT (wM cyI cyZ qa M))) (jSi o) 0 0 (fun _ => False) := by
  refine Met.ofW (cc := cX8_done) (maxL := 3) (ret := (some .int)) (by decide) rfl ?_
  intro p e s m args below meth c s₁ B hml hv
  obtain ⟨rfl, hP, hK⟩ := hv
  have hx := B.exec
  have hb := B.bytes
  have hr := B.returns
  have hts := atoms_spec (ws := wsX8_done) B.pre
  have hown : s.vm.findClass RX8 = some m.cls := findClass_of_methodNamed B.named
  have hlocks := B.notSynchronized
  have hl := lv_entry ([.ref (qa 0)]) (n := 3) (Nat.le_of_ble_eq_true rfl)
  rw [lg_entry_eq]
  generalize (lg_sl ([.ref (qa 0)]) ++ List.replicate (3 - (lg_sl ([.ref (qa 0)])).length) Slot.unset).toArray = ls at hl ⊢
  have hl : lv_has ls 3 [(0, .ref (qa 0))] := hl
  clear B
  generalize ([.ref (qa 0)] : List Value).toArray = args at hts ⊢
  have key : ∀ (H : Heap), va_P D vwCl (wM cyI cyZ qa M) H → H = s.heap → W p l e rm_X8_done s m args below meth c H [] 0 0 (MQ below (jSi o) args s 0 0 (fun _ => False)) (F0 m 0 ls []) := by
    intro H hP hH
    have h := hf
    unfold f_X8_done at h
    refine lv_iconst (v := (0 : Int32)) hx hb dX8_done_0 (by decide) ?_
    refine lv_istore_n (lv' := [(1, .int (0 : Int32)), (0, .ref (qa 0))]) hx hb dX8_done_1 rfl hl (by decide) rfl (fun ls hl => ?_)
    refine lv_iconst (v := (0 : Int32)) hx hb dX8_done_2 (by decide) ?_
    refine lv_istore_n (lv' := [(2, .int (0 : Int32)), (1, .int (0 : Int32)), (0, .ref (qa 0))]) hx hb dX8_done_3 rfl hl (by decide) rfl (fun ls hl => ?_)
    obtain ⟨r1, hz1, h1_⟩ := jb h
    have hex1 : ∀ e1 : Int32, r1 = e1 → ∀ (ls : Array Slot), lv_has ls 3 [(1, .int e1)] → W p l e rm_X8_done s m args below meth c H [] 0 0 (MQ below (jSi o) args s 0 0 (fun _ => False)) (F0 m 39 ls []) := by
      intro e1 he ls hl
      rw [he] at h1_
      have h := h1_
      clear hz1
      refine lv_iload_n hx hb dX8_done_39 rfl (lv_at hl 0 rfl) ?_
      exact W.iret hx hb hr (fun t ht _ => ⟨_, rfl, Option.some.inj h, ht.trans hH⟩) (fun q h => by cases h) dX8_done_40 hlocks
    have hlp1 : ∀ (nn : Nat) (z1 : (Int32 × Int32)), jw (X8_done_s4 M) nn z1 = some r1 → ∀ (ls : Array Slot), lv_has ls 3 [(0, .ref (qa 0)), (1, .int z1.1), (2, .int z1.2)] → W p l e rm_X8_done s m args below meth c H [] 0 0 (MQ below (jSi o) args s 0 0 (fun _ => False)) (F0 m 4 ls []) := by
      refine jw_P (r := r1) (P := fun z1 : (Int32 × Int32) => ∀ (ls : Array Slot), lv_has ls 3 [(0, .ref (qa 0)), (1, .int z1.1), (2, .int z1.2)] → W p l e rm_X8_done s m args below meth c H [] 0 0 (MQ below (jSi o) args s 0 0 (fun _ => False)) (F0 m 4 ls [])) ?_
      intro z1 x1 h hin hout ls hl
      unfold X8_done_s4 at h
      refine lv_iload_n hx hb dX8_done_4 rfl (lv_at hl 2 rfl) ?_
      refine lv_aload_n hx hb dX8_done_5 rfl (lv_at hl 0 rfl) ?_
      refine va_get (D := D) (ci := 8) (v := .ref (qa 5)) (C := RX8) (T := TX8) (N := 24) hx hb hts in_X8_done_X8 hown hK.1 hP 0 rfl rfl 13 (by decide) (hts _ kw_X8_done_1) (fun _ h9 => h9) rfl dX8_done_6 ?_
      refine lv_iconst (v := (1 : Int32)) hx hb dX8_done_9 (by decide) ?_
      refine jald hx hb hK hP 5 rfl 1 (by decide) (by decide) dX8_done_10 ?_
      refine lv_icmp_ge (tgt := 39) hx hb dX8_done_11 (by decide) (fun c2 => ?_) (fun c2 => ?_)
      · have h := jt c2 h
        exact hex1 _ (hout _ (Option.some.inj h).symm).symm ls (lv_sub hl [1] rfl)
      · have h := jf c2 h
        refine lv_iload_n hx hb dX8_done_14 rfl (lv_at hl 1 rfl) ?_
        refine lv_aload_n hx hb dX8_done_15 rfl (lv_at hl 0 rfl) ?_
        refine va_get (D := D) (ci := 8) (v := .ref (qa 6)) (C := RX8) (T := TX8) (N := 24) hx hb hts in_X8_done_X8 hown hK.1 hP 0 rfl rfl 14 (by decide) (hts _ kw_X8_done_2) (fun _ h9 => h9) rfl dX8_done_16 ?_
        refine lv_iconst (v := (3 : Int32)) hx hb dX8_done_19 (by decide) ?_
        refine lv_iload_n hx hb dX8_done_20 rfl (lv_at hl 2 rfl) ?_
        refine lv_iadd hx hb dX8_done_21 ?_
        obtain ⟨g3, h⟩ := jn h
        refine jald hx hb hK hP 6 rfl _ rfl g3 dX8_done_22 ?_
        obtain ⟨z4, hz4, h⟩ := jb h
        have hk4 : ∀ (ls : Array Slot), lv_has ls 3 [(0, .ref (qa 0)), (2, .int z1.2)] → W p l e rm_X8_done s m args below meth c H [] 0 0 (MQ below (jSi o) args s 0 0 (fun _ => False)) (F0 m 31 ls [.int z4, .int z1.1]) := by
          intro ls hl
          refine lv_iadd hx hb dX8_done_31 ?_
          refine lv_istore_n (lv' := [(1, .int (z1.1 + z4)), (0, .ref (qa 0)), (2, .int z1.2)]) hx hb dX8_done_32 rfl hl (by decide) rfl (fun ls hl => ?_)
          refine lv_iinc (v := z1.2 + (1 : Int32)) (lv' := [(2, .int (z1.2 + (1 : Int32))), (1, .int (z1.1 + z4)), (0, .ref (qa 0))]) hx hb dX8_done_33 hl (k := 2) rfl rfl (by decide) rfl (fun ls hl => ?_)
          refine lv_goto (tgt := 4) hx hb dX8_done_36 (by decide) ?_
          exact hin _ (Option.some.inj h).symm ls (lv_sub hl [2, 1, 0] rfl)
        clear h
        have h := hz4
        clear hz4
        refine lv_if_le (tgt := 30) hx hb dX8_done_23 (by decide) (fun c5 => ?_) (fun c5 => ?_)
        · have h := jt c5 h
          refine lv_iconst (v := (0 : Int32)) hx hb dX8_done_30 (by decide) ?_
          obtain rfl := Option.some.inj h
          exact hk4 ls (lv_sub hl [0, 2] rfl)
        · have h := jf c5 h
          refine lv_iconst (v := (1 : Int32)) hx hb dX8_done_26 (by decide) ?_
          refine lv_goto (tgt := 31) hx hb dX8_done_27 (by decide) ?_
          obtain rfl := Option.some.inj h
          exact hk4 ls (lv_sub hl [0, 2] rfl)
    exact hlp1 _ _ hz1 ls (lv_sub hl [2, 1, 0] rfl)
  exact key s.heap hP rfl
theorem kw_X8_notes_1 : (.fieldLink RX8 137 "BellTheCatModel" "undos" "I" : Cond) ∈ wsX8_notes := List.mem_of_getElem? (i := 1) rfl
theorem kw_X8_notes_2 : (.fieldLink RX8 28 "BellTheCatModel" "before" "[I" : Cond) ∈ wsX8_notes := List.mem_of_getElem? (i := 2) rfl
theorem kw_X8_notes_3 : (.fieldLink RX8 25 "BellTheCatModel" "s" "[I" : Cond) ∈ wsX8_notes := List.mem_of_getElem? (i := 3) rfl
theorem in_X8_notes_X8 : ∀ w ∈ wsX80, w ∈ wsX8_notes := fun w h => List.mem_cons_of_mem _ (List.mem_append_right _ h)
abbrev rm_X8_notes : Room := { frames := 0, cells := 0, slots := 0, locals := 0 }
set_option maxHeartbeats 4000000 in
set_option maxRecDepth 100000 in
theorem c_X8_notes (l : Launch) (D : va_G) (cyI cyZ cyT : ClassId) (qa : Nat → Nat) (sz : Nat) (N : Nat) (M : Mo) (o : Mo) (hf : f_X8_notes N M = some o) : Met l yX8_notes wsX8_notes rm_X8_notes (va_Pc [.ref (qa 0)] (jM D cyI cyZ cyT (wM cyI cyZ qa M) sz)) (jQv D (va_A (wM cyI cyZ qa M) sz) (fun u : Mo => wM cyI cyZ qa u) o) 0 0 (va_A (wM cyI cyZ qa M) sz) := by
  refine Met.ofW (cc := cX8_notes) (maxL := 2) (ret := none) (by decide) rfl ?_
  intro p e s m args below meth c s₁ B hml hv
  obtain ⟨rfl, hsz, hP, hK, hD0⟩ := hv
  have hx := B.exec
  have hb := B.bytes
  have hr := B.returns
  have hts := atoms_spec (ws := wsX8_notes) B.pre
  have hown : s.vm.findClass RX8 = some m.cls := findClass_of_methodNamed B.named
  have hlocks := B.notSynchronized
  subst hsz
  have hD := hD0.self (sz := s.heap.size)
  generalize hAe : va_A (wM cyI cyZ qa M) s.heap.size = A at hD ⊢
  have hA : ∀ q : Nat, s.heap.size ≤ q → A q := fun q h => by rw [← hAe]; exact Or.inr h
  have hS : va_S A s.heap s.heap [] := va_S.rf
  have hl := lv_entry ([.ref (qa 0)]) (n := 2) (Nat.le_of_ble_eq_true rfl)
  rw [lg_entry_eq]
  generalize (lg_sl ([.ref (qa 0)]) ++ List.replicate (2 - (lg_sl ([.ref (qa 0)])).length) Slot.unset).toArray = ls at hl ⊢
  have hl : lv_has ls 2 [(0, .ref (qa 0))] := hl
  clear B
  generalize ([.ref (qa 0)] : List Value).toArray = args at hts ⊢
  have key : ∀ (H : Heap) (locs : List Loc), va_P D vwCl (wM cyI cyZ qa M) H → va_D A (wM cyI cyZ qa M) → va_S A s.heap H locs → W p l e rm_X8_notes s m args below meth c H locs 0 0 (MQ below (jQv D A (fun u : Mo => wM cyI cyZ qa u) o) args s 0 0 A) (F0 m 0 ls []) := by
    intro H locs hP hD hS
    have h := hf
    unfold f_X8_notes at h
    refine lv_aload_n hx hb dX8_notes_0 rfl (lv_at hl 0 rfl) ?_
    refine va_get (D := D) (ci := 8) (v := .int (M.2 9)) (C := RX8) (T := TX8) (N := 24) hx hb hts in_X8_notes_X8 hown hK.1 hP 0 rfl rfl 16 (by decide) (hts _ kw_X8_notes_1) (fun _ h9 => h9) rfl dX8_notes_1 ?_
    refine lv_bipush (v := (8 : Int32)) hx hb dX8_notes_4 (by decide) ?_
    obtain ⟨z1, hz1, h⟩ := jb h
    have hk1 : ∀ (H : Heap) (locs : List Loc), va_P D vwCl (wM cyI cyZ qa z1) H → va_D A (wM cyI cyZ qa z1) → va_S A s.heap H locs → ∀ (ls : Array Slot), lv_has ls 2 [(0, .ref (qa 0))] → W p l e rm_X8_notes s m args below meth c H locs 0 0 (MQ below (jQv D A (fun u : Mo => wM cyI cyZ qa u) o) args s 0 0 A) (F0 m 44 ls []) := by
      intro H locs hP hD hS ls hl
      refine lv_iconst (v := (0 : Int32)) hx hb dX8_notes_44 (by decide) ?_
      refine lv_istore_n (lv' := [(1, .int (0 : Int32)), (0, .ref (qa 0))]) hx hb dX8_notes_45 rfl hl (by decide) rfl (fun ls hl => ?_)
      obtain ⟨r7, hz7, h7_⟩ := jb h
      have hex7 : ∀ e7 : Mo, r7 = e7 → ∀ (H : Heap) (locs : List Loc), va_P D vwCl (wM cyI cyZ qa e7) H → va_D A (wM cyI cyZ qa e7) → va_S A s.heap H locs → ∀ (ls : Array Slot), lv_has ls 2 [(0, .ref (qa 0))] → W p l e rm_X8_notes s m args below meth c H locs 0 0 (MQ below (jQv D A (fun u : Mo => wM cyI cyZ qa u) o) args s 0 0 A) (F0 m 78 ls []) := by
        intro e7 he H locs hP hD hS ls hl
        rw [he] at h7_
        have h := h7_
        clear hz7
        refine lv_aload_n hx hb dX8_notes_78 rfl (lv_at hl 0 rfl) ?_
        refine lv_dup hx hb dX8_notes_79 rfl ?_
        refine va_get (D := D) (ci := 8) (v := .int (e7.2 9)) (C := RX8) (T := TX8) (N := 24) hx hb hts in_X8_notes_X8 hown hK.1 hP 0 rfl rfl 16 (by decide) (hts _ kw_X8_notes_1) (fun _ h9 => h9) rfl dX8_notes_80 ?_
        refine lv_iconst (v := (1 : Int32)) hx hb dX8_notes_83 (by decide) ?_
        refine lv_iadd hx hb dX8_notes_84 ?_
        refine va_put (D := D) (ci := 8) (v := .int ((e7.2 9) + (1 : Int32))) (ty := .int) (C := RX8) (T := TX8) (N := 24) hx hb hts in_X8_notes_X8 tyX8 tyX8_ok nmX8 hown hK.1 hP hD hS 0 rfl rfl 16 (by decide) (hts _ kw_X8_notes_1) (fun _ h9 => h9) rfl (tyX8_ok 16 (by decide)) rfl rfl (Nat.le_of_ble_eq_true rfl) dX8_notes_85 (fun H locs hP hD hS => ?_)
        have hP : va_P D vwCl (wM cyI cyZ qa (e7.1, va_up e7.2 9 ((e7.2 9) + (1 : Int32)))) H := hP
        have hD : va_D A (wM cyI cyZ qa (e7.1, va_up e7.2 9 ((e7.2 9) + (1 : Int32)))) := hD
        exact W.vret hx hb hr (fun t ht _ => ⟨⟨_, rfl, Option.some.inj h, by rw [ht]; exact hP, hD⟩, hS.F ht⟩) hS.2.2 dX8_notes_88 hlocks
      have hlp7 : ∀ (nn : Nat) (z7 : (Int32 × Mo)), jw (X8_notes_s46) nn z7 = some r7 → ∀ (H : Heap) (locs : List Loc), va_P D vwCl (wM cyI cyZ qa z7.2) H → va_D A (wM cyI cyZ qa z7.2) → va_S A s.heap H locs → ∀ (ls : Array Slot), lv_has ls 2 [(0, .ref (qa 0)), (1, .int z7.1)] → W p l e rm_X8_notes s m args below meth c H locs 0 0 (MQ below (jQv D A (fun u : Mo => wM cyI cyZ qa u) o) args s 0 0 A) (F0 m 46 ls []) := by
        refine jw_P (r := r7) (P := fun z7 : (Int32 × Mo) => ∀ (H : Heap) (locs : List Loc), va_P D vwCl (wM cyI cyZ qa z7.2) H → va_D A (wM cyI cyZ qa z7.2) → va_S A s.heap H locs → ∀ (ls : Array Slot), lv_has ls 2 [(0, .ref (qa 0)), (1, .int z7.1)] → W p l e rm_X8_notes s m args below meth c H locs 0 0 (MQ below (jQv D A (fun u : Mo => wM cyI cyZ qa u) o) args s 0 0 A) (F0 m 46 ls [])) ?_
        intro z7 x7 h hin hout H locs hP hD hS ls hl
        unfold X8_notes_s46 at h
        refine lv_iload_n hx hb dX8_notes_46 rfl (lv_at hl 1 rfl) ?_
        refine lv_bipush (v := (8 : Int32)) hx hb dX8_notes_47 (by decide) ?_
        refine lv_icmp_ge (tgt := 78) hx hb dX8_notes_49 (by decide) (fun c8 => ?_) (fun c8 => ?_)
        · have h := jt c8 h
          exact hex7 _ (hout _ (Option.some.inj h).symm).symm H locs hP hD hS ls (lv_sub hl [0] rfl)
        · have h := jf c8 h
          refine lv_aload_n hx hb dX8_notes_52 rfl (lv_at hl 0 rfl) ?_
          refine va_get (D := D) (ci := 8) (v := .ref (qa 7)) (C := RX8) (T := TX8) (N := 24) hx hb hts in_X8_notes_X8 hown hK.1 hP 0 rfl rfl 15 (by decide) (hts _ kw_X8_notes_2) (fun _ h9 => h9) rfl dX8_notes_53 ?_
          refine lv_bipush (v := (8 : Int32)) hx hb dX8_notes_56 (by decide) ?_
          refine lv_aload_n hx hb dX8_notes_58 rfl (lv_at hl 0 rfl) ?_
          refine va_get (D := D) (ci := 8) (v := .int (z7.2.2 9)) (C := RX8) (T := TX8) (N := 24) hx hb hts in_X8_notes_X8 hown hK.1 hP 0 rfl rfl 16 (by decide) (hts _ kw_X8_notes_1) (fun _ h9 => h9) rfl dX8_notes_59 ?_
          refine lv_imul hx hb dX8_notes_62 ?_
          refine lv_iload_n hx hb dX8_notes_63 rfl (lv_at hl 1 rfl) ?_
          refine lv_iadd hx hb dX8_notes_64 ?_
          refine lv_aload_n hx hb dX8_notes_65 rfl (lv_at hl 0 rfl) ?_
          refine va_get (D := D) (ci := 8) (v := .ref (qa 6)) (C := RX8) (T := TX8) (N := 24) hx hb hts in_X8_notes_X8 hown hK.1 hP 0 rfl rfl 14 (by decide) (hts _ kw_X8_notes_3) (fun _ h9 => h9) rfl dX8_notes_66 ?_
          refine lv_iload_n hx hb dX8_notes_69 rfl (lv_at hl 1 rfl) ?_
          obtain ⟨g9, h⟩ := jn h
          refine jald hx hb hK hP 6 rfl _ rfl g9 dX8_notes_70 ?_
          obtain ⟨g10, h⟩ := jn h
          refine jast (w' := wM cyI cyZ qa (va_up z7.2.1 6 (upd (z7.2.1 6) (((8 : Int32) * (z7.2.2 9)) + z7.1).toNatClampNeg (z7.2.1 5 z7.1.toNatClampNeg)), z7.2.2)) hx hb hK hP hD hS 7 rfl _ rfl g10 rfl dX8_notes_71 (fun H locs hP hD hS => ?_)
          refine lv_iinc (v := z7.1 + (1 : Int32)) (lv' := [(1, .int (z7.1 + (1 : Int32))), (0, .ref (qa 0))]) hx hb dX8_notes_72 hl (k := 1) rfl rfl (by decide) rfl (fun ls hl => ?_)
          refine lv_goto (tgt := 46) hx hb dX8_notes_75 (by decide) ?_
          exact hin _ (Option.some.inj h).symm H locs hP hD hS ls (lv_sub hl [1, 0] rfl)
      exact hlp7 _ _ hz7 H locs hP hD hS ls (lv_sub hl [1, 0] rfl)
    clear h
    have h := hz1
    clear hz1
    refine lv_icmp_ne (tgt := 44) hx hb dX8_notes_6 (by decide) (fun c2 => ?_) (fun c2 => ?_)
    · have h := jf c2 h
      obtain rfl := Option.some.inj h
      exact hk1 H locs hP hD hS ls (lv_sub hl [0] rfl)
    · have h := jt c2 h
      refine lv_iconst (v := (0 : Int32)) hx hb dX8_notes_9 (by decide) ?_
      refine lv_istore_n (lv' := [(1, .int (0 : Int32)), (0, .ref (qa 0))]) hx hb dX8_notes_10 rfl hl (by decide) rfl (fun ls hl => ?_)
      obtain ⟨r3, hz3, h3_⟩ := jb h
      have hex3 : ∀ e3 : Mo, r3 = e3 → ∀ (H : Heap) (locs : List Loc), va_P D vwCl (wM cyI cyZ qa e3) H → va_D A (wM cyI cyZ qa e3) → va_S A s.heap H locs → ∀ (ls : Array Slot), lv_has ls 2 [(0, .ref (qa 0))] → W p l e rm_X8_notes s m args below meth c H locs 0 0 (MQ below (jQv D A (fun u : Mo => wM cyI cyZ qa u) o) args s 0 0 A) (F0 m 38 ls []) := by
        intro e3 he H locs hP hD hS ls hl
        rw [he] at h3_
        have h := h3_
        clear hz3
        refine lv_aload_n hx hb dX8_notes_38 rfl (lv_at hl 0 rfl) ?_
        refine lv_bipush (v := (7 : Int32)) hx hb dX8_notes_39 (by decide) ?_
        refine va_put (D := D) (ci := 8) (v := .int (7 : Int32)) (ty := .int) (C := RX8) (T := TX8) (N := 24) hx hb hts in_X8_notes_X8 tyX8 tyX8_ok nmX8 hown hK.1 hP hD hS 0 rfl rfl 16 (by decide) (hts _ kw_X8_notes_1) (fun _ h9 => h9) rfl (tyX8_ok 16 (by decide)) rfl rfl (Nat.le_of_ble_eq_true rfl) dX8_notes_41 (fun H locs hP hD hS => ?_)
        have hP : va_P D vwCl (wM cyI cyZ qa (e3.1, va_up e3.2 9 (7 : Int32))) H := hP
        have hD : va_D A (wM cyI cyZ qa (e3.1, va_up e3.2 9 (7 : Int32))) := hD
        obtain rfl := Option.some.inj h
        exact hk1 H locs hP hD hS ls (lv_sub hl [0] rfl)
      have hlp3 : ∀ (nn : Nat) (z3 : (Int32 × Mo)), jw (X8_notes_s11) nn z3 = some r3 → ∀ (H : Heap) (locs : List Loc), va_P D vwCl (wM cyI cyZ qa z3.2) H → va_D A (wM cyI cyZ qa z3.2) → va_S A s.heap H locs → ∀ (ls : Array Slot), lv_has ls 2 [(0, .ref (qa 0)), (1, .int z3.1)] → W p l e rm_X8_notes s m args below meth c H locs 0 0 (MQ below (jQv D A (fun u : Mo => wM cyI cyZ qa u) o) args s 0 0 A) (F0 m 11 ls []) := by
        refine jw_P (r := r3) (P := fun z3 : (Int32 × Mo) => ∀ (H : Heap) (locs : List Loc), va_P D vwCl (wM cyI cyZ qa z3.2) H → va_D A (wM cyI cyZ qa z3.2) → va_S A s.heap H locs → ∀ (ls : Array Slot), lv_has ls 2 [(0, .ref (qa 0)), (1, .int z3.1)] → W p l e rm_X8_notes s m args below meth c H locs 0 0 (MQ below (jQv D A (fun u : Mo => wM cyI cyZ qa u) o) args s 0 0 A) (F0 m 11 ls [])) ?_
        intro z3 x3 h hin hout H locs hP hD hS ls hl
        unfold X8_notes_s11 at h
        refine lv_iload_n hx hb dX8_notes_11 rfl (lv_at hl 1 rfl) ?_
        refine lv_bipush (v := (56 : Int32)) hx hb dX8_notes_12 (by decide) ?_
        refine lv_icmp_ge (tgt := 38) hx hb dX8_notes_14 (by decide) (fun c4 => ?_) (fun c4 => ?_)
        · have h := jt c4 h
          exact hex3 _ (hout _ (Option.some.inj h).symm).symm H locs hP hD hS ls (lv_sub hl [0] rfl)
        · have h := jf c4 h
          refine lv_aload_n hx hb dX8_notes_17 rfl (lv_at hl 0 rfl) ?_
          refine va_get (D := D) (ci := 8) (v := .ref (qa 7)) (C := RX8) (T := TX8) (N := 24) hx hb hts in_X8_notes_X8 hown hK.1 hP 0 rfl rfl 15 (by decide) (hts _ kw_X8_notes_2) (fun _ h9 => h9) rfl dX8_notes_18 ?_
          refine lv_iload_n hx hb dX8_notes_21 rfl (lv_at hl 1 rfl) ?_
          refine lv_aload_n hx hb dX8_notes_22 rfl (lv_at hl 0 rfl) ?_
          refine va_get (D := D) (ci := 8) (v := .ref (qa 7)) (C := RX8) (T := TX8) (N := 24) hx hb hts in_X8_notes_X8 hown hK.1 hP 0 rfl rfl 15 (by decide) (hts _ kw_X8_notes_2) (fun _ h9 => h9) rfl dX8_notes_23 ?_
          refine lv_iload_n hx hb dX8_notes_26 rfl (lv_at hl 1 rfl) ?_
          refine lv_bipush (v := (8 : Int32)) hx hb dX8_notes_27 (by decide) ?_
          refine lv_iadd hx hb dX8_notes_29 ?_
          obtain ⟨g5, h⟩ := jn h
          refine jald hx hb hK hP 7 rfl _ rfl g5 dX8_notes_30 ?_
          obtain ⟨g6, h⟩ := jn h
          refine jast (w' := wM cyI cyZ qa (va_up z3.2.1 6 (upd (z3.2.1 6) z3.1.toNatClampNeg (z3.2.1 6 (z3.1 + (8 : Int32)).toNatClampNeg)), z3.2.2)) hx hb hK hP hD hS 7 rfl _ rfl g6 rfl dX8_notes_31 (fun H locs hP hD hS => ?_)
          refine lv_iinc (v := z3.1 + (1 : Int32)) (lv' := [(1, .int (z3.1 + (1 : Int32))), (0, .ref (qa 0))]) hx hb dX8_notes_32 hl (k := 1) rfl rfl (by decide) rfl (fun ls hl => ?_)
          refine lv_goto (tgt := 11) hx hb dX8_notes_35 (by decide) ?_
          exact hin _ (Option.some.inj h).symm H locs hP hD hS ls (lv_sub hl [1, 0] rfl)
      exact hlp3 _ _ hz3 H locs hP hD hS ls (lv_sub hl [1, 0] rfl)
  exact key s.heap [] hP hD hS
theorem kw_X8_clear_1 : (.fieldLink RX8 50 "BellTheCatModel" "thrown" "I" : Cond) ∈ wsX8_clear := List.mem_of_getElem? (i := 1) rfl
theorem kw_X8_clear_2 : (.fieldLink RX8 25 "BellTheCatModel" "s" "[I" : Cond) ∈ wsX8_clear := List.mem_of_getElem? (i := 2) rfl
theorem in_X8_clear_X8 : ∀ w ∈ wsX80, w ∈ wsX8_clear := fun w h => List.mem_cons_of_mem _ (List.mem_append_right _ h)
abbrev rm_X8_clear : Room := { frames := 1, cells := 0, slots := 0, locals := 22 }
set_option maxHeartbeats 4000000 in
set_option maxRecDepth 100000 in
theorem c_X8_clear (l : Launch) (D : va_G) (cyI cyZ cyT : ClassId) (qa : Nat → Nat) (sz : Nat) (N : Nat) (M : Mo) (o : (Int32 × Mo)) (hf : f_X8_clear N M = some o) : Met l yX8_clear wsX8_clear rm_X8_clear (va_Pc [.ref (qa 0)] (jM D cyI cyZ cyT (wM cyI cyZ qa M) sz)) (jQi D (va_A (wM cyI cyZ qa M) sz) (fun u : Mo => wM cyI cyZ qa u) o) 0 0 (va_A (wM cyI cyZ qa M) sz) := by
  refine Met.ofW (cc := cX8_clear) (maxL := 3) (ret := (some .int)) (by decide) rfl ?_
  intro p e s m args below meth c s₁ B hml hv
  obtain ⟨rfl, hsz, hP, hK, hD0⟩ := hv
  have hx := B.exec
  have hb := B.bytes
  have hr := B.returns
  have hts := atoms_spec (ws := wsX8_clear) B.pre
  have hown : s.vm.findClass RX8 = some m.cls := findClass_of_methodNamed B.named
  have hlocks := B.notSynchronized
  subst hsz
  have hD := hD0.self (sz := s.heap.size)
  generalize hAe : va_A (wM cyI cyZ qa M) s.heap.size = A at hD ⊢
  have hA : ∀ q : Nat, s.heap.size ≤ q → A q := fun q h => by rw [← hAe]; exact Or.inr h
  have hS : va_S A s.heap s.heap [] := va_S.rf
  have hl := lv_entry ([.ref (qa 0)]) (n := 3) (Nat.le_of_ble_eq_true rfl)
  rw [lg_entry_eq]
  generalize (lg_sl ([.ref (qa 0)]) ++ List.replicate (3 - (lg_sl ([.ref (qa 0)])).length) Slot.unset).toArray = ls at hl ⊢
  have hl : lv_has ls 3 [(0, .ref (qa 0))] := hl
  clear B
  generalize ([.ref (qa 0)] : List Value).toArray = args at hts ⊢
  have key : ∀ (H : Heap) (locs : List Loc), va_P D vwCl (wM cyI cyZ qa M) H → va_D A (wM cyI cyZ qa M) → va_S A s.heap H locs → W p l e rm_X8_clear s m args below meth c H locs 0 0 (MQ below (jQi D A (fun u : Mo => wM cyI cyZ qa u) o) args s 0 0 A) (F0 m 0 ls []) := by
    intro H locs hP hD hS
    have h := hf
    unfold f_X8_clear at h
    refine lv_aload_n hx hb dX8_clear_0 rfl (lv_at hl 0 rfl) ?_
    refine lv_iconst (v := (0 : Int32)) hx hb dX8_clear_1 (by decide) ?_
    refine va_put (D := D) (ci := 8) (v := .int (0 : Int32)) (ty := .int) (C := RX8) (T := TX8) (N := 24) hx hb hts in_X8_clear_X8 tyX8 tyX8_ok nmX8 hown hK.1 hP hD hS 0 rfl rfl 0 (by decide) (hts _ kw_X8_clear_1) (fun _ h9 => h9) rfl (tyX8_ok 0 (by decide)) rfl rfl (Nat.le_of_ble_eq_true rfl) dX8_clear_2 (fun H locs hP hD hS => ?_)
    have hP : va_P D vwCl (wM cyI cyZ qa (M.1, va_up M.2 0 (0 : Int32))) H := hP
    have hD : va_D A (wM cyI cyZ qa (M.1, va_up M.2 0 (0 : Int32))) := hD
    refine lv_aload_n hx hb dX8_clear_5 rfl (lv_at hl 0 rfl) ?_
    obtain ⟨z1, hz1, h⟩ := jb h
    refine jki (jrV (As := []) (rest := []) ⟨hx, hb, hml, hown, hts⟩ (c_X8_done l D cyI cyZ cyT qa  N (M.1, va_up M.2 0 (0 : Int32)) z1 hz1) (cwV 0 hts gX8_clear_X8_done rfl rfl rfl (by decide +kernel) ⟨Nat.le_of_ble_eq_true rfl, Nat.le_of_ble_eq_true rfl⟩) hK hP rfl 8 0 rfl rfl rfl hl.1 (Nat.le_of_ble_eq_true rfl) dX8_clear_6 ⟨Nat.le_of_ble_eq_true rfl, Nat.le_of_ble_eq_true rfl⟩) ?_
    clear hz1
    refine lv_istore_n (lv' := [(1, .int z1), (0, .ref (qa 0))]) hx hb dX8_clear_9 rfl hl (by decide) rfl (fun ls hl => ?_)
    refine lv_aload_n hx hb dX8_clear_10 rfl (lv_at hl 1 rfl) ?_
    obtain ⟨z2, hz2, h⟩ := jb h
    refine jgv (w1 := fun u : Mo => wM cyI cyZ qa u) (wn := wM cyI cyZ qa z2) (jmV (As := []) (rest := []) ⟨hx, hb, hml, hown, hts⟩ (c_X8_notes l D cyI cyZ cyT qa H.size N (M.1, va_up M.2 0 (0 : Int32)) z2 hz2) (cwV 0 hts gX8_clear_X8_notes rfl rfl rfl (by decide +kernel) ⟨Nat.le_of_ble_eq_true rfl, Nat.le_of_ble_eq_true rfl⟩) hK hP hD rfl 8 0 rfl rfl rfl hl.1 (Nat.le_of_ble_eq_true rfl) dX8_clear_11 ⟨Nat.le_of_ble_eq_true rfl, Nat.le_of_ble_eq_true rfl⟩) hP hD hS hA [0, 1, 2, 3, 4, 5, 6, 7, 8, 9, 10, 11, 12, 13] [] [0, 1, 2, 3, 4, 5, 6, 7, 8, 9, 10, 11, 12, 13] rfl rfl (by decide) (by decide) rfl (by decide) (fun H locs hP hD hS => ?_)
    clear hz2
    refine lv_iconst (v := (0 : Int32)) hx hb dX8_clear_14 (by decide) ?_
    refine lv_istore_n (lv' := [(2, .int (0 : Int32)), (1, .int z1), (0, .ref (qa 0))]) hx hb dX8_clear_15 rfl hl (by decide) rfl (fun ls hl => ?_)
    obtain ⟨r3, hz3, h3_⟩ := jb h
    have hex3 : ∀ e3 : Mo, r3 = e3 → ∀ (H : Heap) (locs : List Loc), va_P D vwCl (wM cyI cyZ qa e3) H → va_D A (wM cyI cyZ qa e3) → va_S A s.heap H locs → ∀ (ls : Array Slot), lv_has ls 3 [(1, .int z1)] → W p l e rm_X8_clear s m args below meth c H locs 0 0 (MQ below (jQi D A (fun u : Mo => wM cyI cyZ qa u) o) args s 0 0 A) (F0 m 36 ls []) := by
      intro e3 he H locs hP hD hS ls hl
      rw [he] at h3_
      have h := h3_
      clear hz3
      refine lv_iload_n hx hb dX8_clear_36 rfl (lv_at hl 0 rfl) ?_
      exact W.iret hx hb hr (fun t ht _ => ⟨⟨_, _, rfl, Option.some.inj h, by rw [ht]; exact hP, hD⟩, hS.F ht⟩) hS.2.2 dX8_clear_37 hlocks
    have hlp3 : ∀ (nn : Nat) (z3 : (Int32 × Mo)), jw (X8_clear_s16) nn z3 = some r3 → ∀ (H : Heap) (locs : List Loc), va_P D vwCl (wM cyI cyZ qa z3.2) H → va_D A (wM cyI cyZ qa z3.2) → va_S A s.heap H locs → ∀ (ls : Array Slot), lv_has ls 3 [(0, .ref (qa 0)), (1, .int z1), (2, .int z3.1)] → W p l e rm_X8_clear s m args below meth c H locs 0 0 (MQ below (jQi D A (fun u : Mo => wM cyI cyZ qa u) o) args s 0 0 A) (F0 m 16 ls []) := by
      refine jw_P (r := r3) (P := fun z3 : (Int32 × Mo) => ∀ (H : Heap) (locs : List Loc), va_P D vwCl (wM cyI cyZ qa z3.2) H → va_D A (wM cyI cyZ qa z3.2) → va_S A s.heap H locs → ∀ (ls : Array Slot), lv_has ls 3 [(0, .ref (qa 0)), (1, .int z1), (2, .int z3.1)] → W p l e rm_X8_clear s m args below meth c H locs 0 0 (MQ below (jQi D A (fun u : Mo => wM cyI cyZ qa u) o) args s 0 0 A) (F0 m 16 ls [])) ?_
      intro z3 x3 h hin hout H locs hP hD hS ls hl
      unfold X8_clear_s16 at h
      refine lv_iload_n hx hb dX8_clear_16 rfl (lv_at hl 2 rfl) ?_
      refine lv_iconst (v := (5 : Int32)) hx hb dX8_clear_17 (by decide) ?_
      refine lv_icmp_ge (tgt := 36) hx hb dX8_clear_18 (by decide) (fun c4 => ?_) (fun c4 => ?_)
      · have h := jt c4 h
        exact hex3 _ (hout _ (Option.some.inj h).symm).symm H locs hP hD hS ls (lv_sub hl [1] rfl)
      · have h := jf c4 h
        refine lv_aload_n hx hb dX8_clear_21 rfl (lv_at hl 0 rfl) ?_
        refine va_get (D := D) (ci := 8) (v := .ref (qa 6)) (C := RX8) (T := TX8) (N := 24) hx hb hts in_X8_clear_X8 hown hK.1 hP 0 rfl rfl 14 (by decide) (hts _ kw_X8_clear_2) (fun _ h9 => h9) rfl dX8_clear_22 ?_
        refine lv_iconst (v := (3 : Int32)) hx hb dX8_clear_25 (by decide) ?_
        refine lv_iload_n hx hb dX8_clear_26 rfl (lv_at hl 2 rfl) ?_
        refine lv_iadd hx hb dX8_clear_27 ?_
        refine lv_iconst (v := (0 : Int32)) hx hb dX8_clear_28 (by decide) ?_
        obtain ⟨g5, h⟩ := jn h
        refine jast (w' := wM cyI cyZ qa (va_up z3.2.1 5 (upd (z3.2.1 5) ((3 : Int32) + z3.1).toNatClampNeg (0 : Int32)), z3.2.2)) hx hb hK hP hD hS 6 rfl _ rfl g5 rfl dX8_clear_29 (fun H locs hP hD hS => ?_)
        refine lv_iinc (v := z3.1 + (1 : Int32)) (lv' := [(2, .int (z3.1 + (1 : Int32))), (0, .ref (qa 0)), (1, .int z1)]) hx hb dX8_clear_30 hl (k := 2) rfl rfl (by decide) rfl (fun ls hl => ?_)
        refine lv_goto (tgt := 16) hx hb dX8_clear_33 (by decide) ?_
        exact hin _ (Option.some.inj h).symm H locs hP hD hS ls (lv_sub hl [1, 2, 0] rfl)
    exact hlp3 _ _ hz3 H locs hP hD hS ls (lv_sub hl [2, 1, 0] rfl)
  exact key s.heap [] hP hD hS
theorem kw_X8_couldBe_1 : (.fieldLink RX8 140 "BellTheCatModel" "seenMany" "I" : Cond) ∈ wsX8_couldBe := List.mem_of_getElem? (i := 1) rfl
theorem kw_X8_couldBe_2 : (.fieldLink RX8 44 "BellTheCatModel" "row" "[I" : Cond) ∈ wsX8_couldBe := List.mem_of_getElem? (i := 2) rfl
theorem kw_X8_couldBe_3 : (.fieldLink RX8 38 "BellTheCatModel" "seenStep" "[I" : Cond) ∈ wsX8_couldBe := List.mem_of_getElem? (i := 3) rfl
theorem kw_X8_couldBe_4 : (.fieldLink RX8 41 "BellTheCatModel" "seenMouse" "[I" : Cond) ∈ wsX8_couldBe := List.mem_of_getElem? (i := 4) rfl
theorem in_X8_couldBe_X8 : ∀ w ∈ wsX80, w ∈ wsX8_couldBe := fun w h => List.mem_cons_of_mem _ (List.mem_append_right _ h)
abbrev rm_X8_couldBe : Room := { frames := 2, cells := 0, slots := 0, locals := 45 }
set_option maxHeartbeats 4000000 in
set_option maxRecDepth 100000 in
theorem c_X8_couldBe (l : Launch) (D : va_G) (cyI cyZ cyT : ClassId) (qa : Nat → Nat) (N : Nat) (M : Mo) (o : Int32) (hf : f_X8_couldBe N M = some o) : Met l yX8_couldBe wsX8_couldBe rm_X8_couldBe (va_Pc [.ref (qa 0)] (jB D cyI cyZ cyT (wM cyI cyZ qa M))) (jSi o) 0 0 (fun _ => False) := by
  refine Met.ofW (cc := cX8_couldBe) (maxL := 4) (ret := (some .boolean)) (by decide) rfl ?_
  intro p e s m args below meth c s₁ B hml hv
  obtain ⟨rfl, hP, hK⟩ := hv
  have hx := B.exec
  have hb := B.bytes
  have hr := B.returns
  have hts := atoms_spec (ws := wsX8_couldBe) B.pre
  have hown : s.vm.findClass RX8 = some m.cls := findClass_of_methodNamed B.named
  have hlocks := B.notSynchronized
  have hl := lv_entry ([.ref (qa 0)]) (n := 4) (Nat.le_of_ble_eq_true rfl)
  rw [lg_entry_eq]
  generalize (lg_sl ([.ref (qa 0)]) ++ List.replicate (4 - (lg_sl ([.ref (qa 0)])).length) Slot.unset).toArray = ls at hl ⊢
  have hl : lv_has ls 4 [(0, .ref (qa 0))] := hl
  clear B
  generalize ([.ref (qa 0)] : List Value).toArray = args at hts ⊢
  have key : ∀ (H : Heap), va_P D vwCl (wM cyI cyZ qa M) H → H = s.heap → W p l e rm_X8_couldBe s m args below meth c H [] 0 0 (MQ below (jSi o) args s 0 0 (fun _ => False)) (F0 m 0 ls []) := by
    intro H hP hH
    have h := hf
    unfold f_X8_couldBe at h
    refine lv_iconst (v := (1 : Int32)) hx hb dX8_couldBe_0 (by decide) ?_
    refine lv_istore_n (lv' := [(1, .int (1 : Int32)), (0, .ref (qa 0))]) hx hb dX8_couldBe_1 rfl hl (by decide) rfl (fun ls hl => ?_)
    refine lv_iconst (v := (0 : Int32)) hx hb dX8_couldBe_2 (by decide) ?_
    refine lv_istore_n (lv' := [(2, .int (0 : Int32)), (1, .int (1 : Int32)), (0, .ref (qa 0))]) hx hb dX8_couldBe_3 rfl hl (by decide) rfl (fun ls hl => ?_)
    obtain ⟨r1, hz1, h1_⟩ := jb h
    have hex1 : ∀ e1 : Int32, r1 = e1 → ∀ (ls : Array Slot), lv_has ls 4 [(1, .int e1)] → W p l e rm_X8_couldBe s m args below meth c H [] 0 0 (MQ below (jSi o) args s 0 0 (fun _ => False)) (F0 m 111 ls []) := by
      intro e1 he ls hl
      rw [he] at h1_
      have h := h1_
      clear hz1
      refine lv_iload_n hx hb dX8_couldBe_111 rfl (lv_at hl 0 rfl) ?_
      obtain ⟨gz, h⟩ := jn h
      exact W.zret hx hb hr (jz_n gz) (fun t ht _ => ⟨_, rfl, Option.some.inj h, ht.trans hH⟩) (fun q h => by cases h) dX8_couldBe_112 hlocks
    have hlp1 : ∀ (nn : Nat) (z1 : (Int32 × Int32)), jw (X8_couldBe_s4 N M) nn z1 = some r1 → ∀ (ls : Array Slot), lv_has ls 4 [(0, .ref (qa 0)), (1, .int z1.1), (2, .int z1.2)] → W p l e rm_X8_couldBe s m args below meth c H [] 0 0 (MQ below (jSi o) args s 0 0 (fun _ => False)) (F0 m 4 ls []) := by
      refine jw_P (r := r1) (P := fun z1 : (Int32 × Int32) => ∀ (ls : Array Slot), lv_has ls 4 [(0, .ref (qa 0)), (1, .int z1.1), (2, .int z1.2)] → W p l e rm_X8_couldBe s m args below meth c H [] 0 0 (MQ below (jSi o) args s 0 0 (fun _ => False)) (F0 m 4 ls [])) ?_
      intro z1 x1 h hin hout ls hl
      unfold X8_couldBe_s4 at h
      refine lv_iload_n hx hb dX8_couldBe_4 rfl (lv_at hl 2 rfl) ?_
      refine lv_aload_n hx hb dX8_couldBe_5 rfl (lv_at hl 0 rfl) ?_
      refine va_get (D := D) (ci := 8) (v := .int (M.2 10)) (C := RX8) (T := TX8) (N := 24) hx hb hts in_X8_couldBe_X8 hown hK.1 hP 0 rfl rfl 21 (by decide) (hts _ kw_X8_couldBe_1) (fun _ h9 => h9) rfl dX8_couldBe_6 ?_
      refine lv_icmp_ge (tgt := 111) hx hb dX8_couldBe_9 (by decide) (fun c2 => ?_) (fun c2 => ?_)
      · have h := jt c2 h
        exact hex1 _ (hout _ (Option.some.inj h).symm).symm ls (lv_sub hl [1] rfl)
      · have h := jf c2 h
        refine lv_iload_n hx hb dX8_couldBe_12 rfl (lv_at hl 1 rfl) ?_
        obtain ⟨z3, hz3, h⟩ := jb h
        have hk3 : ∀ (ls : Array Slot), lv_has ls 4 [(0, .ref (qa 0)), (2, .int z1.2)] → W p l e rm_X8_couldBe s m args below meth c H [] 0 0 (MQ below (jSi o) args s 0 0 (fun _ => False)) (F0 m 60 ls [.int z3]) := by
          intro ls hl
          refine lv_istore_n (lv' := [(1, .int z3), (0, .ref (qa 0)), (2, .int z1.2)]) hx hb dX8_couldBe_60 rfl hl (by decide) rfl (fun ls hl => ?_)
          refine lv_iconst (v := (0 : Int32)) hx hb dX8_couldBe_61 (by decide) ?_
          refine lv_istore_n (lv' := [(3, .int (0 : Int32)), (1, .int z3), (0, .ref (qa 0)), (2, .int z1.2)]) hx hb dX8_couldBe_62 rfl hl (by decide) rfl (fun ls hl => ?_)
          obtain ⟨r13, hz13, h13_⟩ := jb h
          have hex13 : ∀ e13 : Int32, r13 = e13 → ∀ (ls : Array Slot), lv_has ls 4 [(0, .ref (qa 0)), (1, .int e13), (2, .int z1.2)] → W p l e rm_X8_couldBe s m args below meth c H [] 0 0 (MQ below (jSi o) args s 0 0 (fun _ => False)) (F0 m 105 ls []) := by
            intro e13 he ls hl
            rw [he] at h13_
            have h := h13_
            clear hz13
            refine lv_iinc (v := z1.2 + (1 : Int32)) (lv' := [(2, .int (z1.2 + (1 : Int32))), (0, .ref (qa 0)), (1, .int e13)]) hx hb dX8_couldBe_105 hl (k := 2) rfl rfl (by decide) rfl (fun ls hl => ?_)
            refine lv_goto (tgt := 4) hx hb dX8_couldBe_108 (by decide) ?_
            exact hin _ (Option.some.inj h).symm ls (lv_sub hl [1, 2, 0] rfl)
          have hlp13 : ∀ (nn : Nat) (z13 : (Int32 × Int32)), jw (X8_couldBe_s63 M z1) nn z13 = some r13 → ∀ (ls : Array Slot), lv_has ls 4 [(0, .ref (qa 0)), (1, .int z13.1), (2, .int z1.2), (3, .int z13.2)] → W p l e rm_X8_couldBe s m args below meth c H [] 0 0 (MQ below (jSi o) args s 0 0 (fun _ => False)) (F0 m 63 ls []) := by
            refine jw_P (r := r13) (P := fun z13 : (Int32 × Int32) => ∀ (ls : Array Slot), lv_has ls 4 [(0, .ref (qa 0)), (1, .int z13.1), (2, .int z1.2), (3, .int z13.2)] → W p l e rm_X8_couldBe s m args below meth c H [] 0 0 (MQ below (jSi o) args s 0 0 (fun _ => False)) (F0 m 63 ls [])) ?_
            intro z13 x13 h hin hout ls hl
            unfold X8_couldBe_s63 at h
            refine lv_iload_n hx hb dX8_couldBe_63 rfl (lv_at hl 3 rfl) ?_
            refine lv_aload_n hx hb dX8_couldBe_64 rfl (lv_at hl 0 rfl) ?_
            refine va_get (D := D) (ci := 8) (v := .ref (qa 10)) (C := RX8) (T := TX8) (N := 24) hx hb hts in_X8_couldBe_X8 hown hK.1 hP 0 rfl rfl 19 (by decide) (hts _ kw_X8_couldBe_3) (fun _ h9 => h9) rfl dX8_couldBe_65 ?_
            refine lv_iload_n hx hb dX8_couldBe_68 rfl (lv_at hl 2 rfl) ?_
            obtain ⟨g14, h⟩ := jn h
            refine jald hx hb hK hP 10 rfl _ rfl g14 dX8_couldBe_69 ?_
            refine lv_icmp_ge (tgt := 105) hx hb dX8_couldBe_70 (by decide) (fun c15 => ?_) (fun c15 => ?_)
            · have h := jt c15 h
              exact hex13 _ (hout _ (Option.some.inj h).symm).symm ls (lv_sub hl [0, 1, 2] rfl)
            · have h := jf c15 h
              refine lv_iload_n hx hb dX8_couldBe_73 rfl (lv_at hl 1 rfl) ?_
              obtain ⟨z16, hz16, h⟩ := jb h
              have hk16 : ∀ (ls : Array Slot), lv_has ls 4 [(0, .ref (qa 0)), (2, .int z1.2), (3, .int z13.2)] → W p l e rm_X8_couldBe s m args below meth c H [] 0 0 (MQ below (jSi o) args s 0 0 (fun _ => False)) (F0 m 98 ls [.int z16]) := by
                intro ls hl
                refine lv_istore_n (lv' := [(1, .int z16), (0, .ref (qa 0)), (2, .int z1.2), (3, .int z13.2)]) hx hb dX8_couldBe_98 rfl hl (by decide) rfl (fun ls hl => ?_)
                refine lv_iinc (v := z13.2 + (1 : Int32)) (lv' := [(3, .int (z13.2 + (1 : Int32))), (1, .int z16), (0, .ref (qa 0)), (2, .int z1.2)]) hx hb dX8_couldBe_99 hl (k := 3) rfl rfl (by decide) rfl (fun ls hl => ?_)
                refine lv_goto (tgt := 63) hx hb dX8_couldBe_102 (by decide) ?_
                exact hin _ (Option.some.inj h).symm ls (lv_sub hl [2, 1, 3, 0] rfl)
              clear h
              have h := hz16
              clear hz16
              refine lv_if_eq (tgt := 97) hx hb dX8_couldBe_74 (by decide) (fun c17 => ?_) (fun c17 => ?_)
              · have h := jt c17 h
                refine lv_iconst (v := (0 : Int32)) hx hb dX8_couldBe_97 (by decide) ?_
                obtain rfl := Option.some.inj h
                exact hk16 ls (lv_sub hl [0, 2, 3] rfl)
              · have h := jf c17 h
                refine lv_aload_n hx hb dX8_couldBe_77 rfl (lv_at hl 0 rfl) ?_
                refine lv_iload_n hx hb dX8_couldBe_78 rfl (lv_at hl 3 rfl) ?_
                refine lv_aload_n hx hb dX8_couldBe_79 rfl (lv_at hl 0 rfl) ?_
                refine va_get (D := D) (ci := 8) (v := .ref (qa 12)) (C := RX8) (T := TX8) (N := 24) hx hb hts in_X8_couldBe_X8 hown hK.1 hP 0 rfl rfl 22 (by decide) (hts _ kw_X8_couldBe_2) (fun _ h9 => h9) rfl dX8_couldBe_80 ?_
                refine lv_iload_n hx hb dX8_couldBe_83 rfl (lv_at hl 3 rfl) ?_
                obtain ⟨g18, h⟩ := jn h
                refine jald hx hb hK hP 12 rfl _ rfl g18 dX8_couldBe_84 ?_
                obtain ⟨z19, hz19, h⟩ := jb h
                refine jki (jrV (As := [.int z13.2, .int (M.1 11 z13.2.toNatClampNeg)]) (rest := []) ⟨hx, hb, hml, hown, hts⟩ (c_X8_dangerTo l D cyI cyZ cyT qa  z13.2 (M.1 11 z13.2.toNatClampNeg) M z19 hz19) (cwV 2 hts gX8_couldBe_X8_dangerTo rfl rfl rfl (by decide +kernel) ⟨Nat.le_of_ble_eq_true rfl, Nat.le_of_ble_eq_true rfl⟩) hK hP rfl 8 0 rfl rfl rfl hl.1 (Nat.le_of_ble_eq_true rfl) dX8_couldBe_85 ⟨Nat.le_of_ble_eq_true rfl, Nat.le_of_ble_eq_true rfl⟩) ?_
                clear hz19
                refine lv_bipush (v := (10 : Int32)) hx hb dX8_couldBe_88 (by decide) ?_
                refine lv_icmp_ge (tgt := 97) hx hb dX8_couldBe_90 (by decide) (fun c20 => ?_) (fun c20 => ?_)
                · have h := jt c20 h
                  refine lv_iconst (v := (0 : Int32)) hx hb dX8_couldBe_97 (by decide) ?_
                  obtain rfl := Option.some.inj h
                  exact hk16 ls (lv_sub hl [0, 2, 3] rfl)
                · have h := jf c20 h
                  refine lv_iconst (v := (1 : Int32)) hx hb dX8_couldBe_93 (by decide) ?_
                  refine lv_goto (tgt := 98) hx hb dX8_couldBe_94 (by decide) ?_
                  obtain rfl := Option.some.inj h
                  exact hk16 ls (lv_sub hl [0, 2, 3] rfl)
          exact hlp13 _ _ hz13 ls (lv_sub hl [2, 1, 3, 0] rfl)
        clear h
        have h := hz3
        clear hz3
        refine lv_if_eq (tgt := 59) hx hb dX8_couldBe_13 (by decide) (fun c4 => ?_) (fun c4 => ?_)
        · have h := jt c4 h
          refine lv_iconst (v := (0 : Int32)) hx hb dX8_couldBe_59 (by decide) ?_
          obtain rfl := Option.some.inj h
          exact hk3 ls (lv_sub hl [0, 2] rfl)
        · have h := jf c4 h
          refine lv_aload_n hx hb dX8_couldBe_16 rfl (lv_at hl 0 rfl) ?_
          refine va_get (D := D) (ci := 8) (v := .ref (qa 12)) (C := RX8) (T := TX8) (N := 24) hx hb hts in_X8_couldBe_X8 hown hK.1 hP 0 rfl rfl 22 (by decide) (hts _ kw_X8_couldBe_2) (fun _ h9 => h9) rfl dX8_couldBe_17 ?_
          refine lv_aload_n hx hb dX8_couldBe_20 rfl (lv_at hl 0 rfl) ?_
          refine va_get (D := D) (ci := 8) (v := .ref (qa 10)) (C := RX8) (T := TX8) (N := 24) hx hb hts in_X8_couldBe_X8 hown hK.1 hP 0 rfl rfl 19 (by decide) (hts _ kw_X8_couldBe_3) (fun _ h9 => h9) rfl dX8_couldBe_21 ?_
          refine lv_iload_n hx hb dX8_couldBe_24 rfl (lv_at hl 2 rfl) ?_
          obtain ⟨g5, h⟩ := jn h
          refine jald hx hb hK hP 10 rfl _ rfl g5 dX8_couldBe_25 ?_
          obtain ⟨g6, h⟩ := jn h
          refine jald hx hb hK hP 12 rfl _ rfl g6 dX8_couldBe_26 ?_
          refine lv_aload_n hx hb dX8_couldBe_27 rfl (lv_at hl 0 rfl) ?_
          refine va_get (D := D) (ci := 8) (v := .ref (qa 11)) (C := RX8) (T := TX8) (N := 24) hx hb hts in_X8_couldBe_X8 hown hK.1 hP 0 rfl rfl 20 (by decide) (hts _ kw_X8_couldBe_4) (fun _ h9 => h9) rfl dX8_couldBe_28 ?_
          refine lv_iload_n hx hb dX8_couldBe_31 rfl (lv_at hl 2 rfl) ?_
          obtain ⟨g7, h⟩ := jn h
          refine jald hx hb hK hP 11 rfl _ rfl g7 dX8_couldBe_32 ?_
          refine lv_icmp_ne (tgt := 59) hx hb dX8_couldBe_33 (by decide) (fun c8 => ?_) (fun c8 => ?_)
          · have h := jf c8 h
            refine lv_iconst (v := (0 : Int32)) hx hb dX8_couldBe_59 (by decide) ?_
            obtain rfl := Option.some.inj h
            exact hk3 ls (lv_sub hl [0, 2] rfl)
          · have h := jt c8 h
            refine lv_aload_n hx hb dX8_couldBe_36 rfl (lv_at hl 0 rfl) ?_
            refine lv_aload_n hx hb dX8_couldBe_37 rfl (lv_at hl 0 rfl) ?_
            refine va_get (D := D) (ci := 8) (v := .ref (qa 10)) (C := RX8) (T := TX8) (N := 24) hx hb hts in_X8_couldBe_X8 hown hK.1 hP 0 rfl rfl 19 (by decide) (hts _ kw_X8_couldBe_3) (fun _ h9 => h9) rfl dX8_couldBe_38 ?_
            refine lv_iload_n hx hb dX8_couldBe_41 rfl (lv_at hl 2 rfl) ?_
            obtain ⟨g9, h⟩ := jn h
            refine jald hx hb hK hP 10 rfl _ rfl g9 dX8_couldBe_42 ?_
            refine lv_aload_n hx hb dX8_couldBe_43 rfl (lv_at hl 0 rfl) ?_
            refine va_get (D := D) (ci := 8) (v := .ref (qa 11)) (C := RX8) (T := TX8) (N := 24) hx hb hts in_X8_couldBe_X8 hown hK.1 hP 0 rfl rfl 20 (by decide) (hts _ kw_X8_couldBe_4) (fun _ h9 => h9) rfl dX8_couldBe_44 ?_
            refine lv_iload_n hx hb dX8_couldBe_47 rfl (lv_at hl 2 rfl) ?_
            obtain ⟨g10, h⟩ := jn h
            refine jald hx hb hK hP 11 rfl _ rfl g10 dX8_couldBe_48 ?_
            obtain ⟨z11, hz11, h⟩ := jb h
            refine jki (jrV (As := [.int (M.1 9 z1.2.toNatClampNeg), .int (M.1 10 z1.2.toNatClampNeg)]) (rest := []) ⟨hx, hb, hml, hown, hts⟩ (c_X8_dangerTo l D cyI cyZ cyT qa  (M.1 9 z1.2.toNatClampNeg) (M.1 10 z1.2.toNatClampNeg) M z11 hz11) (cwV 2 hts gX8_couldBe_X8_dangerTo rfl rfl rfl (by decide +kernel) ⟨Nat.le_of_ble_eq_true rfl, Nat.le_of_ble_eq_true rfl⟩) hK hP rfl 8 0 rfl rfl rfl hl.1 (Nat.le_of_ble_eq_true rfl) dX8_couldBe_49 ⟨Nat.le_of_ble_eq_true rfl, Nat.le_of_ble_eq_true rfl⟩) ?_
            clear hz11
            refine lv_if_le (tgt := 59) hx hb dX8_couldBe_52 (by decide) (fun c12 => ?_) (fun c12 => ?_)
            · have h := jt c12 h
              refine lv_iconst (v := (0 : Int32)) hx hb dX8_couldBe_59 (by decide) ?_
              obtain rfl := Option.some.inj h
              exact hk3 ls (lv_sub hl [0, 2] rfl)
            · have h := jf c12 h
              refine lv_iconst (v := (1 : Int32)) hx hb dX8_couldBe_55 (by decide) ?_
              refine lv_goto (tgt := 60) hx hb dX8_couldBe_56 (by decide) ?_
              obtain rfl := Option.some.inj h
              exact hk3 ls (lv_sub hl [0, 2] rfl)
    exact hlp1 _ _ hz1 ls (lv_sub hl [2, 1, 0] rfl)
  exact key s.heap hP rfl
theorem kw_X8_count_1 : (.fieldLink RX8 50 "BellTheCatModel" "thrown" "I" : Cond) ∈ wsX8_count := List.mem_of_getElem? (i := 1) rfl
theorem kw_X8_count_2 : (.fieldLink RX8 22 "BellTheCatModel" "many" "[I" : Cond) ∈ wsX8_count := List.mem_of_getElem? (i := 2) rfl
theorem kw_X8_count_3 : (.fieldLink RX8 25 "BellTheCatModel" "s" "[I" : Cond) ∈ wsX8_count := List.mem_of_getElem? (i := 3) rfl
theorem kw_X8_count_4 : (.fieldLink RX8 140 "BellTheCatModel" "seenMany" "I" : Cond) ∈ wsX8_count := List.mem_of_getElem? (i := 4) rfl
theorem kw_X8_count_5 : (.fieldLink RX8 137 "BellTheCatModel" "undos" "I" : Cond) ∈ wsX8_count := List.mem_of_getElem? (i := 5) rfl
theorem kw_X8_count_6 : (.fieldLink RX8 58 "BellTheCatModel" "typed" "I" : Cond) ∈ wsX8_count := List.mem_of_getElem? (i := 6) rfl
theorem in_X8_count_X8 : ∀ w ∈ wsX80, w ∈ wsX8_count := fun w h => List.mem_cons_of_mem _ (List.mem_append_right _ h)
abbrev rm_X8_count : Room := { frames := 1, cells := 0, slots := 0, locals := 22 }
set_option maxHeartbeats 4000000 in
set_option maxRecDepth 100000 in
theorem c_X8_count (l : Launch) (D : va_G) (cyI cyZ cyT : ClassId) (qa : Nat → Nat) (sz : Nat) (N : Nat) (a1 : Int32) (M : Mo) (o : (Int32 × Mo)) (hf : f_X8_count N a1 M = some o) : Met l yX8_count wsX8_count rm_X8_count (va_Pc [.ref (qa 0), .int a1] (jM D cyI cyZ cyT (wM cyI cyZ qa M) sz)) (jQi D (va_A (wM cyI cyZ qa M) sz) (fun u : Mo => wM cyI cyZ qa u) o) 0 0 (va_A (wM cyI cyZ qa M) sz) := by
  refine Met.ofW (cc := cX8_count) (maxL := 2) (ret := (some .int)) (by decide) rfl ?_
  intro p e s m args below meth c s₁ B hml hv
  obtain ⟨rfl, hsz, hP, hK, hD0⟩ := hv
  have hx := B.exec
  have hb := B.bytes
  have hr := B.returns
  have hts := atoms_spec (ws := wsX8_count) B.pre
  have hown : s.vm.findClass RX8 = some m.cls := findClass_of_methodNamed B.named
  have hlocks := B.notSynchronized
  subst hsz
  have hD := hD0.self (sz := s.heap.size)
  generalize hAe : va_A (wM cyI cyZ qa M) s.heap.size = A at hD ⊢
  have hA : ∀ q : Nat, s.heap.size ≤ q → A q := fun q h => by rw [← hAe]; exact Or.inr h
  have hS : va_S A s.heap s.heap [] := va_S.rf
  have hl := lv_entry ([.ref (qa 0), .int a1]) (n := 2) (Nat.le_of_ble_eq_true rfl)
  rw [lg_entry_eq]
  generalize (lg_sl ([.ref (qa 0), .int a1]) ++ List.replicate (2 - (lg_sl ([.ref (qa 0), .int a1])).length) Slot.unset).toArray = ls at hl ⊢
  have hl : lv_has ls 2 [(0, .ref (qa 0)), (1, .int a1)] := hl
  clear B
  generalize ([.ref (qa 0), .int a1] : List Value).toArray = args at hts ⊢
  have key : ∀ (H : Heap) (locs : List Loc), va_P D vwCl (wM cyI cyZ qa M) H → va_D A (wM cyI cyZ qa M) → va_S A s.heap H locs → W p l e rm_X8_count s m args below meth c H locs 0 0 (MQ below (jQi D A (fun u : Mo => wM cyI cyZ qa u) o) args s 0 0 A) (F0 m 0 ls []) := by
    intro H locs hP hD hS
    have h := hf
    unfold f_X8_count at h
    refine lv_aload_n hx hb dX8_count_0 rfl (lv_at hl 0 rfl) ?_
    refine lv_iconst (v := (0 : Int32)) hx hb dX8_count_1 (by decide) ?_
    refine va_put (D := D) (ci := 8) (v := .int (0 : Int32)) (ty := .int) (C := RX8) (T := TX8) (N := 24) hx hb hts in_X8_count_X8 tyX8 tyX8_ok nmX8 hown hK.1 hP hD hS 0 rfl rfl 0 (by decide) (hts _ kw_X8_count_1) (fun _ h9 => h9) rfl (tyX8_ok 0 (by decide)) rfl rfl (Nat.le_of_ble_eq_true rfl) dX8_count_2 (fun H locs hP hD hS => ?_)
    have hP : va_P D vwCl (wM cyI cyZ qa (M.1, va_up M.2 0 (0 : Int32))) H := hP
    have hD : va_D A (wM cyI cyZ qa (M.1, va_up M.2 0 (0 : Int32))) := hD
    refine lv_iload_n hx hb dX8_count_5 rfl (lv_at hl 1 rfl) ?_
    refine lv_iconst (v := (0 : Int32)) hx hb dX8_count_6 (by decide) ?_
    refine lv_bipush (v := (10 : Int32)) hx hb dX8_count_7 (by decide) ?_
    obtain ⟨z1, hz1, h⟩ := jb h
    refine jki (jrS (As := [.int a1, .int (0 : Int32), .int (10 : Int32)]) (rest := []) ⟨hx, hb, hml, hown, hts⟩ (c_X8_in l D cyI cyZ cyT   a1 (0 : Int32) (10 : Int32) z1 hz1) (va_cwS 3 hts gX8_count_X8_in rfl rfl rfl (by decide +kernel) ⟨Nat.le_of_ble_eq_true rfl, Nat.le_of_ble_eq_true rfl⟩) hK jP0 rfl rfl hl.1 (Nat.le_of_ble_eq_true rfl) dX8_count_9 ⟨Nat.le_of_ble_eq_true rfl, Nat.le_of_ble_eq_true rfl⟩) ?_
    clear hz1
    refine lv_if_ne (tgt := 18) hx hb dX8_count_12 (by decide) (fun c2 => ?_) (fun c2 => ?_)
    · have h := jf c2 h
      refine lv_iload_n hx hb dX8_count_18 rfl (lv_at hl 1 rfl) ?_
      refine lv_iconst (v := (4 : Int32)) hx hb dX8_count_19 (by decide) ?_
      refine lv_icmp_ge (tgt := 30) hx hb dX8_count_20 (by decide) (fun c3 => ?_) (fun c3 => ?_)
      · have h := jt c3 h
        refine lv_iload_n hx hb dX8_count_30 rfl (lv_at hl 1 rfl) ?_
        refine lv_bipush (v := (7 : Int32)) hx hb dX8_count_31 (by decide) ?_
        refine lv_icmp_ge (tgt := 45) hx hb dX8_count_33 (by decide) (fun c4 => ?_) (fun c4 => ?_)
        · have h := jt c4 h
          refine lv_iload_n hx hb dX8_count_45 rfl (lv_at hl 1 rfl) ?_
          refine lv_bipush (v := (7 : Int32)) hx hb dX8_count_46 (by decide) ?_
          refine lv_icmp_ne (tgt := 58) hx hb dX8_count_48 (by decide) (fun c5 => ?_) (fun c5 => ?_)
          · have h := jf c5 h
            refine lv_iload_n hx hb dX8_count_58 rfl (lv_at hl 1 rfl) ?_
            refine lv_bipush (v := (8 : Int32)) hx hb dX8_count_59 (by decide) ?_
            refine lv_icmp_ne (tgt := 71) hx hb dX8_count_61 (by decide) (fun c6 => ?_) (fun c6 => ?_)
            · have h := jf c6 h
              refine lv_iload_n hx hb dX8_count_71 rfl (lv_at hl 1 rfl) ?_
              refine lv_bipush (v := (9 : Int32)) hx hb dX8_count_72 (by decide) ?_
              refine lv_icmp_ne (tgt := 84) hx hb dX8_count_74 (by decide) (fun c7 => ?_) (fun c7 => ?_)
              · have h := jf c7 h
                refine lv_aload_n hx hb dX8_count_84 rfl (lv_at hl 0 rfl) ?_
                refine va_get (D := D) (ci := 8) (v := .int (M.2 1)) (C := RX8) (T := TX8) (N := 24) hx hb hts in_X8_count_X8 hown hK.1 hP 0 rfl rfl 2 (by decide) (hts _ kw_X8_count_6) (fun _ h9 => h9) rfl dX8_count_85 ?_
                exact W.iret hx hb hr (fun t ht _ => ⟨⟨_, _, rfl, Option.some.inj h, by rw [ht]; exact hP, hD⟩, hS.F ht⟩) hS.2.2 dX8_count_88 hlocks
              · have h := jt c7 h
                refine lv_aload_n hx hb dX8_count_77 rfl (lv_at hl 0 rfl) ?_
                refine va_get (D := D) (ci := 8) (v := .int (M.2 9)) (C := RX8) (T := TX8) (N := 24) hx hb hts in_X8_count_X8 hown hK.1 hP 0 rfl rfl 16 (by decide) (hts _ kw_X8_count_5) (fun _ h9 => h9) rfl dX8_count_78 ?_
                refine lv_goto (tgt := 88) hx hb dX8_count_81 (by decide) ?_
                exact W.iret hx hb hr (fun t ht _ => ⟨⟨_, _, rfl, Option.some.inj h, by rw [ht]; exact hP, hD⟩, hS.F ht⟩) hS.2.2 dX8_count_88 hlocks
            · have h := jt c6 h
              refine lv_aload_n hx hb dX8_count_64 rfl (lv_at hl 0 rfl) ?_
              refine va_get (D := D) (ci := 8) (v := .int (M.2 10)) (C := RX8) (T := TX8) (N := 24) hx hb hts in_X8_count_X8 hown hK.1 hP 0 rfl rfl 21 (by decide) (hts _ kw_X8_count_4) (fun _ h9 => h9) rfl dX8_count_65 ?_
              refine lv_goto (tgt := 88) hx hb dX8_count_68 (by decide) ?_
              exact W.iret hx hb hr (fun t ht _ => ⟨⟨_, _, rfl, Option.some.inj h, by rw [ht]; exact hP, hD⟩, hS.F ht⟩) hS.2.2 dX8_count_88 hlocks
          · have h := jt c5 h
            refine lv_aload_n hx hb dX8_count_51 rfl (lv_at hl 0 rfl) ?_
            obtain ⟨z8, hz8, h⟩ := jb h
            refine jki (jrV (As := []) (rest := []) ⟨hx, hb, hml, hown, hts⟩ (c_X8_done l D cyI cyZ cyT qa  N (M.1, va_up M.2 0 (0 : Int32)) z8 hz8) (cwV 0 hts gX8_count_X8_done rfl rfl rfl (by decide +kernel) ⟨Nat.le_of_ble_eq_true rfl, Nat.le_of_ble_eq_true rfl⟩) hK hP rfl 8 0 rfl rfl rfl hl.1 (Nat.le_of_ble_eq_true rfl) dX8_count_52 ⟨Nat.le_of_ble_eq_true rfl, Nat.le_of_ble_eq_true rfl⟩) ?_
            clear hz8
            refine lv_goto (tgt := 88) hx hb dX8_count_55 (by decide) ?_
            exact W.iret hx hb hr (fun t ht _ => ⟨⟨_, _, rfl, Option.some.inj h, by rw [ht]; exact hP, hD⟩, hS.F ht⟩) hS.2.2 dX8_count_88 hlocks
        · have h := jf c4 h
          refine lv_aload_n hx hb dX8_count_36 rfl (lv_at hl 0 rfl) ?_
          refine va_get (D := D) (ci := 8) (v := .ref (qa 6)) (C := RX8) (T := TX8) (N := 24) hx hb hts in_X8_count_X8 hown hK.1 hP 0 rfl rfl 14 (by decide) (hts _ kw_X8_count_3) (fun _ h9 => h9) rfl dX8_count_37 ?_
          refine lv_iload_n hx hb dX8_count_40 rfl (lv_at hl 1 rfl) ?_
          refine lv_iconst (v := (4 : Int32)) hx hb dX8_count_41 (by decide) ?_
          refine lv_isub hx hb dX8_count_42 ?_
          obtain ⟨g9, h⟩ := jn h
          refine jald hx hb hK hP 6 rfl _ rfl g9 dX8_count_43 ?_
          exact W.iret hx hb hr (fun t ht _ => ⟨⟨_, _, rfl, Option.some.inj h, by rw [ht]; exact hP, hD⟩, hS.F ht⟩) hS.2.2 dX8_count_44 hlocks
      · have h := jf c3 h
        refine lv_aload_n hx hb dX8_count_23 rfl (lv_at hl 0 rfl) ?_
        refine va_get (D := D) (ci := 8) (v := .ref (qa 5)) (C := RX8) (T := TX8) (N := 24) hx hb hts in_X8_count_X8 hown hK.1 hP 0 rfl rfl 13 (by decide) (hts _ kw_X8_count_2) (fun _ h9 => h9) rfl dX8_count_24 ?_
        refine lv_iload_n hx hb dX8_count_27 rfl (lv_at hl 1 rfl) ?_
        obtain ⟨g10, h⟩ := jn h
        refine jald hx hb hK hP 5 rfl _ rfl g10 dX8_count_28 ?_
        exact W.iret hx hb hr (fun t ht _ => ⟨⟨_, _, rfl, Option.some.inj h, by rw [ht]; exact hP, hD⟩, hS.F ht⟩) hS.2.2 dX8_count_29 hlocks
    · have h := jt c2 h
      refine lv_bipush (v := (-3 : Int32)) hx hb dX8_count_15 (by decide) ?_
      exact W.iret hx hb hr (fun t ht _ => ⟨⟨_, _, rfl, Option.some.inj h, by rw [ht]; exact hP, hD⟩, hS.F ht⟩) hS.2.2 dX8_count_17 hlocks
  exact key s.heap [] hP hD hS
theorem kw_X8_danger_1 : (.fieldLink RX8 50 "BellTheCatModel" "thrown" "I" : Cond) ∈ wsX8_danger := List.mem_of_getElem? (i := 1) rfl
theorem in_X8_danger_X8 : ∀ w ∈ wsX80, w ∈ wsX8_danger := fun w h => List.mem_cons_of_mem _ (List.mem_append_right _ h)
abbrev rm_X8_danger : Room := { frames := 2, cells := 0, slots := 0, locals := 45 }
set_option maxHeartbeats 4000000 in
set_option maxRecDepth 100000 in
theorem c_X8_danger (l : Launch) (D : va_G) (cyI cyZ cyT : ClassId) (qa : Nat → Nat) (sz : Nat) (a1 : Int32) (a2 : Int32) (M : Mo) (o : (Int32 × Mo)) (hf : f_X8_danger a1 a2 M = some o) : Met l yX8_danger wsX8_danger rm_X8_danger (va_Pc [.ref (qa 0), .int a1, .int a2] (jM D cyI cyZ cyT (wM cyI cyZ qa M) sz)) (jQi D (va_A (wM cyI cyZ qa M) sz) (fun u : Mo => wM cyI cyZ qa u) o) 0 0 (va_A (wM cyI cyZ qa M) sz) := by
  refine Met.ofW (cc := cX8_danger) (maxL := 3) (ret := (some .int)) (by decide) rfl ?_
  intro p e s m args below meth c s₁ B hml hv
  obtain ⟨rfl, hsz, hP, hK, hD0⟩ := hv
  have hx := B.exec
  have hb := B.bytes
  have hr := B.returns
  have hts := atoms_spec (ws := wsX8_danger) B.pre
  have hown : s.vm.findClass RX8 = some m.cls := findClass_of_methodNamed B.named
  have hlocks := B.notSynchronized
  subst hsz
  have hD := hD0.self (sz := s.heap.size)
  generalize hAe : va_A (wM cyI cyZ qa M) s.heap.size = A at hD ⊢
  have hA : ∀ q : Nat, s.heap.size ≤ q → A q := fun q h => by rw [← hAe]; exact Or.inr h
  have hS : va_S A s.heap s.heap [] := va_S.rf
  have hl := lv_entry ([.ref (qa 0), .int a1, .int a2]) (n := 3) (Nat.le_of_ble_eq_true rfl)
  rw [lg_entry_eq]
  generalize (lg_sl ([.ref (qa 0), .int a1, .int a2]) ++ List.replicate (3 - (lg_sl ([.ref (qa 0), .int a1, .int a2])).length) Slot.unset).toArray = ls at hl ⊢
  have hl : lv_has ls 3 [(0, .ref (qa 0)), (1, .int a1), (2, .int a2)] := hl
  clear B
  generalize ([.ref (qa 0), .int a1, .int a2] : List Value).toArray = args at hts ⊢
  have key : ∀ (H : Heap) (locs : List Loc), va_P D vwCl (wM cyI cyZ qa M) H → va_D A (wM cyI cyZ qa M) → va_S A s.heap H locs → W p l e rm_X8_danger s m args below meth c H locs 0 0 (MQ below (jQi D A (fun u : Mo => wM cyI cyZ qa u) o) args s 0 0 A) (F0 m 0 ls []) := by
    intro H locs hP hD hS
    have h := hf
    unfold f_X8_danger at h
    refine lv_aload_n hx hb dX8_danger_0 rfl (lv_at hl 0 rfl) ?_
    refine lv_iconst (v := (0 : Int32)) hx hb dX8_danger_1 (by decide) ?_
    refine va_put (D := D) (ci := 8) (v := .int (0 : Int32)) (ty := .int) (C := RX8) (T := TX8) (N := 24) hx hb hts in_X8_danger_X8 tyX8 tyX8_ok nmX8 hown hK.1 hP hD hS 0 rfl rfl 0 (by decide) (hts _ kw_X8_danger_1) (fun _ h9 => h9) rfl (tyX8_ok 0 (by decide)) rfl rfl (Nat.le_of_ble_eq_true rfl) dX8_danger_2 (fun H locs hP hD hS => ?_)
    have hP : va_P D vwCl (wM cyI cyZ qa (M.1, va_up M.2 0 (0 : Int32))) H := hP
    have hD : va_D A (wM cyI cyZ qa (M.1, va_up M.2 0 (0 : Int32))) := hD
    refine lv_aload_n hx hb dX8_danger_5 rfl (lv_at hl 0 rfl) ?_
    refine lv_iload_n hx hb dX8_danger_6 rfl (lv_at hl 1 rfl) ?_
    obtain ⟨z1, hz1, h⟩ := jb h
    refine jki (jrV (As := [.int a1]) (rest := []) ⟨hx, hb, hml, hown, hts⟩ (c_X8_isStep l D cyI cyZ cyT qa  a1 (M.1, va_up M.2 0 (0 : Int32)) z1 hz1) (cwV 1 hts gX8_danger_X8_isStep rfl rfl rfl (by decide +kernel) ⟨Nat.le_of_ble_eq_true rfl, Nat.le_of_ble_eq_true rfl⟩) hK hP rfl 8 0 rfl rfl rfl hl.1 (Nat.le_of_ble_eq_true rfl) dX8_danger_7 ⟨Nat.le_of_ble_eq_true rfl, Nat.le_of_ble_eq_true rfl⟩) ?_
    clear hz1
    refine lv_if_eq (tgt := 30) hx hb dX8_danger_10 (by decide) (fun c2 => ?_) (fun c2 => ?_)
    · have h := jt c2 h
      refine lv_bipush (v := (-2 : Int32)) hx hb dX8_danger_30 (by decide) ?_
      exact W.iret hx hb hr (fun t ht _ => ⟨⟨_, _, rfl, Option.some.inj h, by rw [ht]; exact hP, hD⟩, hS.F ht⟩) hS.2.2 dX8_danger_32 hlocks
    · have h := jf c2 h
      refine lv_aload_n hx hb dX8_danger_13 rfl (lv_at hl 0 rfl) ?_
      refine lv_iload_n hx hb dX8_danger_14 rfl (lv_at hl 2 rfl) ?_
      obtain ⟨z3, hz3, h⟩ := jb h
      refine jki (jrV (As := [.int a2]) (rest := []) ⟨hx, hb, hml, hown, hts⟩ (c_X8_isMouse l D cyI cyZ cyT qa  a2 (M.1, va_up M.2 0 (0 : Int32)) z3 hz3) (cwV 1 hts gX8_danger_X8_isMouse rfl rfl rfl (by decide +kernel) ⟨Nat.le_of_ble_eq_true rfl, Nat.le_of_ble_eq_true rfl⟩) hK hP rfl 8 0 rfl rfl rfl hl.1 (Nat.le_of_ble_eq_true rfl) dX8_danger_15 ⟨Nat.le_of_ble_eq_true rfl, Nat.le_of_ble_eq_true rfl⟩) ?_
      clear hz3
      refine lv_if_eq (tgt := 30) hx hb dX8_danger_18 (by decide) (fun c4 => ?_) (fun c4 => ?_)
      · have h := jt c4 h
        refine lv_bipush (v := (-2 : Int32)) hx hb dX8_danger_30 (by decide) ?_
        exact W.iret hx hb hr (fun t ht _ => ⟨⟨_, _, rfl, Option.some.inj h, by rw [ht]; exact hP, hD⟩, hS.F ht⟩) hS.2.2 dX8_danger_32 hlocks
      · have h := jf c4 h
        refine lv_aload_n hx hb dX8_danger_21 rfl (lv_at hl 0 rfl) ?_
        refine lv_iload_n hx hb dX8_danger_22 rfl (lv_at hl 1 rfl) ?_
        refine lv_iload_n hx hb dX8_danger_23 rfl (lv_at hl 2 rfl) ?_
        obtain ⟨z5, hz5, h⟩ := jb h
        refine jki (jrV (As := [.int a1, .int a2]) (rest := []) ⟨hx, hb, hml, hown, hts⟩ (c_X8_dangerTo l D cyI cyZ cyT qa  a1 a2 (M.1, va_up M.2 0 (0 : Int32)) z5 hz5) (cwV 2 hts gX8_danger_X8_dangerTo rfl rfl rfl (by decide +kernel) ⟨Nat.le_of_ble_eq_true rfl, Nat.le_of_ble_eq_true rfl⟩) hK hP rfl 8 0 rfl rfl rfl hl.1 (Nat.le_of_ble_eq_true rfl) dX8_danger_24 ⟨Nat.le_of_ble_eq_true rfl, Nat.le_of_ble_eq_true rfl⟩) ?_
        clear hz5
        refine lv_goto (tgt := 32) hx hb dX8_danger_27 (by decide) ?_
        exact W.iret hx hb hr (fun t ht _ => ⟨⟨_, _, rfl, Option.some.inj h, by rw [ht]; exact hP, hD⟩, hS.F ht⟩) hS.2.2 dX8_danger_32 hlocks
  exact key s.heap [] hP hD hS
theorem kw_X8_drafts_1 : (.fieldLink RX8 13 "BellTheCatModel" "mice" "[I" : Cond) ∈ wsX8_drafts := List.mem_of_getElem? (i := 1) rfl
theorem kw_X8_drafts_2 : (.fieldLink RX8 16 "BellTheCatModel" "noise" "[I" : Cond) ∈ wsX8_drafts := List.mem_of_getElem? (i := 2) rfl
theorem kw_X8_drafts_3 : (.fieldLink RX8 19 "BellTheCatModel" "rats" "[I" : Cond) ∈ wsX8_drafts := List.mem_of_getElem? (i := 3) rfl
theorem kw_X8_drafts_4 : (.fieldLink RX8 22 "BellTheCatModel" "many" "[I" : Cond) ∈ wsX8_drafts := List.mem_of_getElem? (i := 4) rfl
theorem in_X8_drafts_X8 : ∀ w ∈ wsX80, w ∈ wsX8_drafts := fun w h => List.mem_cons_of_mem _ (List.mem_append_right _ h)
abbrev rm_X8_drafts : Room := { frames := 0, cells := 0, slots := 0, locals := 0 }
set_option maxHeartbeats 4000000 in
set_option maxRecDepth 100000 in
theorem c_X8_drafts (l : Launch) (D : va_G) (cyI cyZ cyT : ClassId) (qa : Nat → Nat) (sz : Nat) (N : Nat) (M : Mo) (o : Mo) (hf : f_X8_drafts N M = some o) : Met l yX8_drafts wsX8_drafts rm_X8_drafts (va_Pc [.ref (qa 0)] (jM D cyI cyZ cyT (wM cyI cyZ qa M) sz)) (jQv D (va_A (wM cyI cyZ qa M) sz) (fun u : Mo => wM cyI cyZ qa u) o) 0 0 (va_A (wM cyI cyZ qa M) sz) := by
  refine Met.ofW (cc := cX8_drafts) (maxL := 2) (ret := none) (by decide) rfl ?_
  intro p e s m args below meth c s₁ B hml hv
  obtain ⟨rfl, hsz, hP, hK, hD0⟩ := hv
  have hx := B.exec
  have hb := B.bytes
  have hr := B.returns
  have hts := atoms_spec (ws := wsX8_drafts) B.pre
  have hown : s.vm.findClass RX8 = some m.cls := findClass_of_methodNamed B.named
  have hlocks := B.notSynchronized
  subst hsz
  have hD := hD0.self (sz := s.heap.size)
  generalize hAe : va_A (wM cyI cyZ qa M) s.heap.size = A at hD ⊢
  have hA : ∀ q : Nat, s.heap.size ≤ q → A q := fun q h => by rw [← hAe]; exact Or.inr h
  have hS : va_S A s.heap s.heap [] := va_S.rf
  have hl := lv_entry ([.ref (qa 0)]) (n := 2) (Nat.le_of_ble_eq_true rfl)
  rw [lg_entry_eq]
  generalize (lg_sl ([.ref (qa 0)]) ++ List.replicate (2 - (lg_sl ([.ref (qa 0)])).length) Slot.unset).toArray = ls at hl ⊢
  have hl : lv_has ls 2 [(0, .ref (qa 0))] := hl
  clear B
  generalize ([.ref (qa 0)] : List Value).toArray = args at hts ⊢
  have key : ∀ (H : Heap) (locs : List Loc), va_P D vwCl (wM cyI cyZ qa M) H → va_D A (wM cyI cyZ qa M) → va_S A s.heap H locs → W p l e rm_X8_drafts s m args below meth c H locs 0 0 (MQ below (jQv D A (fun u : Mo => wM cyI cyZ qa u) o) args s 0 0 A) (F0 m 0 ls []) := by
    intro H locs hP hD hS
    have h := hf
    unfold f_X8_drafts at h
    refine lv_iconst (v := (0 : Int32)) hx hb dX8_drafts_0 (by decide) ?_
    refine lv_istore_n (lv' := [(1, .int (0 : Int32)), (0, .ref (qa 0))]) hx hb dX8_drafts_1 rfl hl (by decide) rfl (fun ls hl => ?_)
    obtain ⟨r1, hz1, h1_⟩ := jb h
    have hex1 : ∀ e1 : Mo, r1 = e1 → ∀ (H : Heap) (locs : List Loc), va_P D vwCl (wM cyI cyZ qa e1) H → va_D A (wM cyI cyZ qa e1) → va_S A s.heap H locs → ∀ (ls : Array Slot), lv_has ls 2 [(0, .ref (qa 0))] → W p l e rm_X8_drafts s m args below meth c H locs 0 0 (MQ below (jQv D A (fun u : Mo => wM cyI cyZ qa u) o) args s 0 0 A) (F0 m 29 ls []) := by
      intro e1 he H locs hP hD hS ls hl
      rw [he] at h1_
      have h := h1_
      clear hz1
      refine lv_iconst (v := (0 : Int32)) hx hb dX8_drafts_29 (by decide) ?_
      refine lv_istore_n (lv' := [(1, .int (0 : Int32)), (0, .ref (qa 0))]) hx hb dX8_drafts_30 rfl hl (by decide) rfl (fun ls hl => ?_)
      obtain ⟨r5, hz5, h5_⟩ := jb h
      have hex5 : ∀ e5 : Mo, r5 = e5 → ∀ (H : Heap) (locs : List Loc), va_P D vwCl (wM cyI cyZ qa e5) H → va_D A (wM cyI cyZ qa e5) → va_S A s.heap H locs → ∀ (ls : Array Slot), lv_has ls 2 [(0, .ref (qa 0))] → W p l e rm_X8_drafts s m args below meth c H locs 0 0 (MQ below (jQv D A (fun u : Mo => wM cyI cyZ qa u) o) args s 0 0 A) (F0 m 56 ls []) := by
        intro e5 he H locs hP hD hS ls hl
        rw [he] at h5_
        have h := h5_
        clear hz5
        refine lv_iconst (v := (0 : Int32)) hx hb dX8_drafts_56 (by decide) ?_
        refine lv_istore_n (lv' := [(1, .int (0 : Int32)), (0, .ref (qa 0))]) hx hb dX8_drafts_57 rfl hl (by decide) rfl (fun ls hl => ?_)
        obtain ⟨r9, hz9, h9_⟩ := jb h
        have hex9 : ∀ e9 : Mo, r9 = e9 → ∀ (H : Heap) (locs : List Loc), va_P D vwCl (wM cyI cyZ qa e9) H → va_D A (wM cyI cyZ qa e9) → va_S A s.heap H locs → ∀ (ls : Array Slot), lv_has ls 2 [(0, .ref (qa 0))] → W p l e rm_X8_drafts s m args below meth c H locs 0 0 (MQ below (jQv D A (fun u : Mo => wM cyI cyZ qa u) o) args s 0 0 A) (F0 m 85 ls []) := by
          intro e9 he H locs hP hD hS ls hl
          rw [he] at h9_
          have h := h9_
          clear hz9
          refine lv_iconst (v := (0 : Int32)) hx hb dX8_drafts_85 (by decide) ?_
          refine lv_istore_n (lv' := [(1, .int (0 : Int32)), (0, .ref (qa 0))]) hx hb dX8_drafts_86 rfl hl (by decide) rfl (fun ls hl => ?_)
          obtain ⟨r13, hz13, h13_⟩ := jb h
          have hex13 : ∀ e13 : Mo, r13 = e13 → ∀ (H : Heap) (locs : List Loc), va_P D vwCl (wM cyI cyZ qa e13) H → va_D A (wM cyI cyZ qa e13) → va_S A s.heap H locs → ∀ (ls : Array Slot), lv_has ls 2 [] → W p l e rm_X8_drafts s m args below meth c H locs 0 0 (MQ below (jQv D A (fun u : Mo => wM cyI cyZ qa u) o) args s 0 0 A) (F0 m 112 ls []) := by
            intro e13 he H locs hP hD hS ls hl
            rw [he] at h13_
            have h := h13_
            clear hz13
            exact W.vret hx hb hr (fun t ht _ => ⟨⟨_, rfl, Option.some.inj h, by rw [ht]; exact hP, hD⟩, hS.F ht⟩) hS.2.2 dX8_drafts_112 hlocks
          have hlp13 : ∀ (nn : Nat) (z13 : (Int32 × Mo)), jw (X8_drafts_s87) nn z13 = some r13 → ∀ (H : Heap) (locs : List Loc), va_P D vwCl (wM cyI cyZ qa z13.2) H → va_D A (wM cyI cyZ qa z13.2) → va_S A s.heap H locs → ∀ (ls : Array Slot), lv_has ls 2 [(0, .ref (qa 0)), (1, .int z13.1)] → W p l e rm_X8_drafts s m args below meth c H locs 0 0 (MQ below (jQv D A (fun u : Mo => wM cyI cyZ qa u) o) args s 0 0 A) (F0 m 87 ls []) := by
            refine jw_P (r := r13) (P := fun z13 : (Int32 × Mo) => ∀ (H : Heap) (locs : List Loc), va_P D vwCl (wM cyI cyZ qa z13.2) H → va_D A (wM cyI cyZ qa z13.2) → va_S A s.heap H locs → ∀ (ls : Array Slot), lv_has ls 2 [(0, .ref (qa 0)), (1, .int z13.1)] → W p l e rm_X8_drafts s m args below meth c H locs 0 0 (MQ below (jQv D A (fun u : Mo => wM cyI cyZ qa u) o) args s 0 0 A) (F0 m 87 ls [])) ?_
            intro z13 x13 h hin hout H locs hP hD hS ls hl
            unfold X8_drafts_s87 at h
            refine lv_iload_n hx hb dX8_drafts_87 rfl (lv_at hl 1 rfl) ?_
            refine lv_iconst (v := (4 : Int32)) hx hb dX8_drafts_88 (by decide) ?_
            refine lv_icmp_ge (tgt := 112) hx hb dX8_drafts_89 (by decide) (fun c14 => ?_) (fun c14 => ?_)
            · have h := jt c14 h
              exact hex13 _ (hout _ (Option.some.inj h).symm).symm H locs hP hD hS ls (lv_sub hl [] rfl)
            · have h := jf c14 h
              refine lv_aload_n hx hb dX8_drafts_92 rfl (lv_at hl 0 rfl) ?_
              refine va_get (D := D) (ci := 8) (v := .ref (qa 5)) (C := RX8) (T := TX8) (N := 24) hx hb hts in_X8_drafts_X8 hown hK.1 hP 0 rfl rfl 13 (by decide) (hts _ kw_X8_drafts_4) (fun _ h9 => h9) rfl dX8_drafts_93 ?_
              refine lv_iconst (v := (4 : Int32)) hx hb dX8_drafts_96 (by decide) ?_
              refine lv_iload_n hx hb dX8_drafts_97 rfl (lv_at hl 1 rfl) ?_
              refine lv_iadd hx hb dX8_drafts_98 ?_
              refine lv_aload_n hx hb dX8_drafts_99 rfl (lv_at hl 0 rfl) ?_
              refine va_get (D := D) (ci := 8) (v := .ref (qa 5)) (C := RX8) (T := TX8) (N := 24) hx hb hts in_X8_drafts_X8 hown hK.1 hP 0 rfl rfl 13 (by decide) (hts _ kw_X8_drafts_4) (fun _ h9 => h9) rfl dX8_drafts_100 ?_
              refine lv_iload_n hx hb dX8_drafts_103 rfl (lv_at hl 1 rfl) ?_
              obtain ⟨g15, h⟩ := jn h
              refine jald hx hb hK hP 5 rfl _ rfl g15 dX8_drafts_104 ?_
              obtain ⟨g16, h⟩ := jn h
              refine jast (w' := wM cyI cyZ qa (va_up z13.2.1 4 (upd (z13.2.1 4) ((4 : Int32) + z13.1).toNatClampNeg (z13.2.1 4 z13.1.toNatClampNeg)), z13.2.2)) hx hb hK hP hD hS 5 rfl _ rfl g16 rfl dX8_drafts_105 (fun H locs hP hD hS => ?_)
              refine lv_iinc (v := z13.1 + (1 : Int32)) (lv' := [(1, .int (z13.1 + (1 : Int32))), (0, .ref (qa 0))]) hx hb dX8_drafts_106 hl (k := 1) rfl rfl (by decide) rfl (fun ls hl => ?_)
              refine lv_goto (tgt := 87) hx hb dX8_drafts_109 (by decide) ?_
              exact hin _ (Option.some.inj h).symm H locs hP hD hS ls (lv_sub hl [1, 0] rfl)
          exact hlp13 _ _ hz13 H locs hP hD hS ls (lv_sub hl [1, 0] rfl)
        have hlp9 : ∀ (nn : Nat) (z9 : (Int32 × Mo)), jw (X8_drafts_s58) nn z9 = some r9 → ∀ (H : Heap) (locs : List Loc), va_P D vwCl (wM cyI cyZ qa z9.2) H → va_D A (wM cyI cyZ qa z9.2) → va_S A s.heap H locs → ∀ (ls : Array Slot), lv_has ls 2 [(0, .ref (qa 0)), (1, .int z9.1)] → W p l e rm_X8_drafts s m args below meth c H locs 0 0 (MQ below (jQv D A (fun u : Mo => wM cyI cyZ qa u) o) args s 0 0 A) (F0 m 58 ls []) := by
          refine jw_P (r := r9) (P := fun z9 : (Int32 × Mo) => ∀ (H : Heap) (locs : List Loc), va_P D vwCl (wM cyI cyZ qa z9.2) H → va_D A (wM cyI cyZ qa z9.2) → va_S A s.heap H locs → ∀ (ls : Array Slot), lv_has ls 2 [(0, .ref (qa 0)), (1, .int z9.1)] → W p l e rm_X8_drafts s m args below meth c H locs 0 0 (MQ below (jQv D A (fun u : Mo => wM cyI cyZ qa u) o) args s 0 0 A) (F0 m 58 ls [])) ?_
          intro z9 x9 h hin hout H locs hP hD hS ls hl
          unfold X8_drafts_s58 at h
          refine lv_iload_n hx hb dX8_drafts_58 rfl (lv_at hl 1 rfl) ?_
          refine lv_bipush (v := (12 : Int32)) hx hb dX8_drafts_59 (by decide) ?_
          refine lv_icmp_ge (tgt := 85) hx hb dX8_drafts_61 (by decide) (fun c10 => ?_) (fun c10 => ?_)
          · have h := jt c10 h
            exact hex9 _ (hout _ (Option.some.inj h).symm).symm H locs hP hD hS ls (lv_sub hl [0] rfl)
          · have h := jf c10 h
            refine lv_aload_n hx hb dX8_drafts_64 rfl (lv_at hl 0 rfl) ?_
            refine va_get (D := D) (ci := 8) (v := .ref (qa 4)) (C := RX8) (T := TX8) (N := 24) hx hb hts in_X8_drafts_X8 hown hK.1 hP 0 rfl rfl 12 (by decide) (hts _ kw_X8_drafts_3) (fun _ h9 => h9) rfl dX8_drafts_65 ?_
            refine lv_bipush (v := (12 : Int32)) hx hb dX8_drafts_68 (by decide) ?_
            refine lv_iload_n hx hb dX8_drafts_70 rfl (lv_at hl 1 rfl) ?_
            refine lv_iadd hx hb dX8_drafts_71 ?_
            refine lv_aload_n hx hb dX8_drafts_72 rfl (lv_at hl 0 rfl) ?_
            refine va_get (D := D) (ci := 8) (v := .ref (qa 4)) (C := RX8) (T := TX8) (N := 24) hx hb hts in_X8_drafts_X8 hown hK.1 hP 0 rfl rfl 12 (by decide) (hts _ kw_X8_drafts_3) (fun _ h9 => h9) rfl dX8_drafts_73 ?_
            refine lv_iload_n hx hb dX8_drafts_76 rfl (lv_at hl 1 rfl) ?_
            obtain ⟨g11, h⟩ := jn h
            refine jald hx hb hK hP 4 rfl _ rfl g11 dX8_drafts_77 ?_
            obtain ⟨g12, h⟩ := jn h
            refine jast (w' := wM cyI cyZ qa (va_up z9.2.1 3 (upd (z9.2.1 3) ((12 : Int32) + z9.1).toNatClampNeg (z9.2.1 3 z9.1.toNatClampNeg)), z9.2.2)) hx hb hK hP hD hS 4 rfl _ rfl g12 rfl dX8_drafts_78 (fun H locs hP hD hS => ?_)
            refine lv_iinc (v := z9.1 + (1 : Int32)) (lv' := [(1, .int (z9.1 + (1 : Int32))), (0, .ref (qa 0))]) hx hb dX8_drafts_79 hl (k := 1) rfl rfl (by decide) rfl (fun ls hl => ?_)
            refine lv_goto (tgt := 58) hx hb dX8_drafts_82 (by decide) ?_
            exact hin _ (Option.some.inj h).symm H locs hP hD hS ls (lv_sub hl [1, 0] rfl)
        exact hlp9 _ _ hz9 H locs hP hD hS ls (lv_sub hl [1, 0] rfl)
      have hlp5 : ∀ (nn : Nat) (z5 : (Int32 × Mo)), jw (X8_drafts_s31) nn z5 = some r5 → ∀ (H : Heap) (locs : List Loc), va_P D vwCl (wM cyI cyZ qa z5.2) H → va_D A (wM cyI cyZ qa z5.2) → va_S A s.heap H locs → ∀ (ls : Array Slot), lv_has ls 2 [(0, .ref (qa 0)), (1, .int z5.1)] → W p l e rm_X8_drafts s m args below meth c H locs 0 0 (MQ below (jQv D A (fun u : Mo => wM cyI cyZ qa u) o) args s 0 0 A) (F0 m 31 ls []) := by
        refine jw_P (r := r5) (P := fun z5 : (Int32 × Mo) => ∀ (H : Heap) (locs : List Loc), va_P D vwCl (wM cyI cyZ qa z5.2) H → va_D A (wM cyI cyZ qa z5.2) → va_S A s.heap H locs → ∀ (ls : Array Slot), lv_has ls 2 [(0, .ref (qa 0)), (1, .int z5.1)] → W p l e rm_X8_drafts s m args below meth c H locs 0 0 (MQ below (jQv D A (fun u : Mo => wM cyI cyZ qa u) o) args s 0 0 A) (F0 m 31 ls [])) ?_
        intro z5 x5 h hin hout H locs hP hD hS ls hl
        unfold X8_drafts_s31 at h
        refine lv_iload_n hx hb dX8_drafts_31 rfl (lv_at hl 1 rfl) ?_
        refine lv_iconst (v := (5 : Int32)) hx hb dX8_drafts_32 (by decide) ?_
        refine lv_icmp_ge (tgt := 56) hx hb dX8_drafts_33 (by decide) (fun c6 => ?_) (fun c6 => ?_)
        · have h := jt c6 h
          exact hex5 _ (hout _ (Option.some.inj h).symm).symm H locs hP hD hS ls (lv_sub hl [0] rfl)
        · have h := jf c6 h
          refine lv_aload_n hx hb dX8_drafts_36 rfl (lv_at hl 0 rfl) ?_
          refine va_get (D := D) (ci := 8) (v := .ref (qa 3)) (C := RX8) (T := TX8) (N := 24) hx hb hts in_X8_drafts_X8 hown hK.1 hP 0 rfl rfl 11 (by decide) (hts _ kw_X8_drafts_2) (fun _ h9 => h9) rfl dX8_drafts_37 ?_
          refine lv_iconst (v := (5 : Int32)) hx hb dX8_drafts_40 (by decide) ?_
          refine lv_iload_n hx hb dX8_drafts_41 rfl (lv_at hl 1 rfl) ?_
          refine lv_iadd hx hb dX8_drafts_42 ?_
          refine lv_aload_n hx hb dX8_drafts_43 rfl (lv_at hl 0 rfl) ?_
          refine va_get (D := D) (ci := 8) (v := .ref (qa 3)) (C := RX8) (T := TX8) (N := 24) hx hb hts in_X8_drafts_X8 hown hK.1 hP 0 rfl rfl 11 (by decide) (hts _ kw_X8_drafts_2) (fun _ h9 => h9) rfl dX8_drafts_44 ?_
          refine lv_iload_n hx hb dX8_drafts_47 rfl (lv_at hl 1 rfl) ?_
          obtain ⟨g7, h⟩ := jn h
          refine jald hx hb hK hP 3 rfl _ rfl g7 dX8_drafts_48 ?_
          obtain ⟨g8, h⟩ := jn h
          refine jast (w' := wM cyI cyZ qa (va_up z5.2.1 2 (upd (z5.2.1 2) ((5 : Int32) + z5.1).toNatClampNeg (z5.2.1 2 z5.1.toNatClampNeg)), z5.2.2)) hx hb hK hP hD hS 3 rfl _ rfl g8 rfl dX8_drafts_49 (fun H locs hP hD hS => ?_)
          refine lv_iinc (v := z5.1 + (1 : Int32)) (lv' := [(1, .int (z5.1 + (1 : Int32))), (0, .ref (qa 0))]) hx hb dX8_drafts_50 hl (k := 1) rfl rfl (by decide) rfl (fun ls hl => ?_)
          refine lv_goto (tgt := 31) hx hb dX8_drafts_53 (by decide) ?_
          exact hin _ (Option.some.inj h).symm H locs hP hD hS ls (lv_sub hl [1, 0] rfl)
      exact hlp5 _ _ hz5 H locs hP hD hS ls (lv_sub hl [1, 0] rfl)
    have hlp1 : ∀ (nn : Nat) (z1 : (Int32 × Mo)), jw (X8_drafts_s2) nn z1 = some r1 → ∀ (H : Heap) (locs : List Loc), va_P D vwCl (wM cyI cyZ qa z1.2) H → va_D A (wM cyI cyZ qa z1.2) → va_S A s.heap H locs → ∀ (ls : Array Slot), lv_has ls 2 [(0, .ref (qa 0)), (1, .int z1.1)] → W p l e rm_X8_drafts s m args below meth c H locs 0 0 (MQ below (jQv D A (fun u : Mo => wM cyI cyZ qa u) o) args s 0 0 A) (F0 m 2 ls []) := by
      refine jw_P (r := r1) (P := fun z1 : (Int32 × Mo) => ∀ (H : Heap) (locs : List Loc), va_P D vwCl (wM cyI cyZ qa z1.2) H → va_D A (wM cyI cyZ qa z1.2) → va_S A s.heap H locs → ∀ (ls : Array Slot), lv_has ls 2 [(0, .ref (qa 0)), (1, .int z1.1)] → W p l e rm_X8_drafts s m args below meth c H locs 0 0 (MQ below (jQv D A (fun u : Mo => wM cyI cyZ qa u) o) args s 0 0 A) (F0 m 2 ls [])) ?_
      intro z1 x1 h hin hout H locs hP hD hS ls hl
      unfold X8_drafts_s2 at h
      refine lv_iload_n hx hb dX8_drafts_2 rfl (lv_at hl 1 rfl) ?_
      refine lv_bipush (v := (24 : Int32)) hx hb dX8_drafts_3 (by decide) ?_
      refine lv_icmp_ge (tgt := 29) hx hb dX8_drafts_5 (by decide) (fun c2 => ?_) (fun c2 => ?_)
      · have h := jt c2 h
        exact hex1 _ (hout _ (Option.some.inj h).symm).symm H locs hP hD hS ls (lv_sub hl [0] rfl)
      · have h := jf c2 h
        refine lv_aload_n hx hb dX8_drafts_8 rfl (lv_at hl 0 rfl) ?_
        refine va_get (D := D) (ci := 8) (v := .ref (qa 2)) (C := RX8) (T := TX8) (N := 24) hx hb hts in_X8_drafts_X8 hown hK.1 hP 0 rfl rfl 10 (by decide) (hts _ kw_X8_drafts_1) (fun _ h9 => h9) rfl dX8_drafts_9 ?_
        refine lv_bipush (v := (24 : Int32)) hx hb dX8_drafts_12 (by decide) ?_
        refine lv_iload_n hx hb dX8_drafts_14 rfl (lv_at hl 1 rfl) ?_
        refine lv_iadd hx hb dX8_drafts_15 ?_
        refine lv_aload_n hx hb dX8_drafts_16 rfl (lv_at hl 0 rfl) ?_
        refine va_get (D := D) (ci := 8) (v := .ref (qa 2)) (C := RX8) (T := TX8) (N := 24) hx hb hts in_X8_drafts_X8 hown hK.1 hP 0 rfl rfl 10 (by decide) (hts _ kw_X8_drafts_1) (fun _ h9 => h9) rfl dX8_drafts_17 ?_
        refine lv_iload_n hx hb dX8_drafts_20 rfl (lv_at hl 1 rfl) ?_
        obtain ⟨g3, h⟩ := jn h
        refine jald hx hb hK hP 2 rfl _ rfl g3 dX8_drafts_21 ?_
        obtain ⟨g4, h⟩ := jn h
        refine jast (w' := wM cyI cyZ qa (va_up z1.2.1 1 (upd (z1.2.1 1) ((24 : Int32) + z1.1).toNatClampNeg (z1.2.1 1 z1.1.toNatClampNeg)), z1.2.2)) hx hb hK hP hD hS 2 rfl _ rfl g4 rfl dX8_drafts_22 (fun H locs hP hD hS => ?_)
        refine lv_iinc (v := z1.1 + (1 : Int32)) (lv' := [(1, .int (z1.1 + (1 : Int32))), (0, .ref (qa 0))]) hx hb dX8_drafts_23 hl (k := 1) rfl rfl (by decide) rfl (fun ls hl => ?_)
        refine lv_goto (tgt := 2) hx hb dX8_drafts_26 (by decide) ?_
        exact hin _ (Option.some.inj h).symm H locs hP hD hS ls (lv_sub hl [1, 0] rfl)
    exact hlp1 _ _ hz1 H locs hP hD hS ls (lv_sub hl [1, 0] rfl)
  exact key s.heap [] hP hD hS
theorem kw_X8_drawOf_1 : (.constantLong RX8 169 (7919) : Cond) ∈ wsX8_drawOf := List.mem_of_getElem? (i := 1) rfl
theorem kw_X8_drawOf_2 : (.constantLong RX8 171 (6151) : Cond) ∈ wsX8_drawOf := List.mem_of_getElem? (i := 2) rfl
theorem kw_X8_drawOf_3 : (.constantLong RX8 173 (65521) : Cond) ∈ wsX8_drawOf := List.mem_of_getElem? (i := 3) rfl
theorem kw_X8_drawOf_4 : (.constantLong RX8 175 (10) : Cond) ∈ wsX8_drawOf := List.mem_of_getElem? (i := 4) rfl
abbrev rm_X8_drawOf : Room := { frames := 0, cells := 0, slots := 0, locals := 0 }
set_option maxHeartbeats 4000000 in
set_option maxRecDepth 100000 in
theorem c_X8_drawOf (l : Launch) (D : va_G) (cyI cyZ cyT : ClassId) (qa : Nat → Nat) (a1 : Int32) (a2 : Int32) (M : Mo) (o : Int32) (hf : f_X8_drawOf a1 a2 M = some o) : Met l yX8_drawOf wsX8_drawOf rm_X8_drawOf (va_Pc [.ref (qa 0), .int a1, .int a2] (jB D cyI cyZ cyT (wM cyI cyZ qa M))) (jSi o) 0 0 (fun _ => False) := by
  refine Met.ofW (cc := cX8_drawOf) (maxL := 5) (ret := (some .int)) (by decide) rfl ?_
  intro p e s m args below meth c s₁ B hml hv
  obtain ⟨rfl, hP, hK⟩ := hv
  have hx := B.exec
  have hb := B.bytes
  have hr := B.returns
  have hts := atoms_spec (ws := wsX8_drawOf) B.pre
  have hown : s.vm.findClass RX8 = some m.cls := findClass_of_methodNamed B.named
  have hlocks := B.notSynchronized
  have hl := lv_entry ([.ref (qa 0), .int a1, .int a2]) (n := 5) (Nat.le_of_ble_eq_true rfl)
  rw [lg_entry_eq]
  generalize (lg_sl ([.ref (qa 0), .int a1, .int a2]) ++ List.replicate (5 - (lg_sl ([.ref (qa 0), .int a1, .int a2])).length) Slot.unset).toArray = ls at hl ⊢
  have hl : lv_has ls 5 [(0, .ref (qa 0)), (1, .int a1), (2, .int a2)] := hl
  clear B
  generalize ([.ref (qa 0), .int a1, .int a2] : List Value).toArray = args at hts ⊢
  have key : ∀ (H : Heap), va_P D vwCl (wM cyI cyZ qa M) H → H = s.heap → W p l e rm_X8_drawOf s m args below meth c H [] 0 0 (MQ below (jSi o) args s 0 0 (fun _ => False)) (F0 m 0 ls []) := by
    intro H hP hH
    have h := hf
    unfold f_X8_drawOf at h
    refine lv_ldc2 (v := (7919 : Int64)) hx hb hown (hts _ kw_X8_drawOf_1) dX8_drawOf_0 ?_
    refine lv_iload_n hx hb dX8_drawOf_3 rfl (lv_at hl 1 rfl) ?_
    refine lv_i2l (v := a1.toInt64) hx hb dX8_drawOf_4 rfl ?_
    refine lv_lmul hx hb dX8_drawOf_5 ?_
    refine lv_ldc2 (v := (6151 : Int64)) hx hb hown (hts _ kw_X8_drawOf_2) dX8_drawOf_6 ?_
    refine lv_iload_n hx hb dX8_drawOf_9 rfl (lv_at hl 2 rfl) ?_
    refine lv_i2l (v := a2.toInt64) hx hb dX8_drawOf_10 rfl ?_
    refine lv_lmul hx hb dX8_drawOf_11 ?_
    refine lv_ladd hx hb dX8_drawOf_12 ?_
    refine lv_lconst (v := (1 : Int64)) hx hb dX8_drawOf_13 (by decide) ?_
    refine lv_ladd hx hb dX8_drawOf_14 ?_
    refine lv_lstore_n (lv' := [(3, .long ((((7919 : Int64) * a1.toInt64) + ((6151 : Int64) * a2.toInt64)) + (1 : Int64))), (0, .ref (qa 0)), (1, .int a1), (2, .int a2)]) hx hb dX8_drawOf_15 rfl hl (by decide) rfl (fun ls hl => ?_)
    refine lv_lload_n hx hb dX8_drawOf_16 rfl (lv_at hl 0 rfl) ?_
    refine lv_lload_n hx hb dX8_drawOf_17 rfl (lv_at hl 0 rfl) ?_
    refine lv_lmul hx hb dX8_drawOf_18 ?_
    refine lv_ldc2 (v := (65521 : Int64)) hx hb hown (hts _ kw_X8_drawOf_3) dX8_drawOf_19 ?_
    refine lv_lrem hx hb dX8_drawOf_22 (by decide) ?_
    refine lv_ldc2 (v := (10 : Int64)) hx hb hown (hts _ kw_X8_drawOf_4) dX8_drawOf_23 ?_
    refine lv_lrem hx hb dX8_drawOf_26 (by decide) ?_
    refine lv_l2i (v := (((((((7919 : Int64) * a1.toInt64) + ((6151 : Int64) * a2.toInt64)) + (1 : Int64)) * ((((7919 : Int64) * a1.toInt64) + ((6151 : Int64) * a2.toInt64)) + (1 : Int64))) - (((((7919 : Int64) * a1.toInt64) + ((6151 : Int64) * a2.toInt64)) + (1 : Int64)) * ((((7919 : Int64) * a1.toInt64) + ((6151 : Int64) * a2.toInt64)) + (1 : Int64))) / (65521 : Int64) * (65521 : Int64)) - ((((((7919 : Int64) * a1.toInt64) + ((6151 : Int64) * a2.toInt64)) + (1 : Int64)) * ((((7919 : Int64) * a1.toInt64) + ((6151 : Int64) * a2.toInt64)) + (1 : Int64))) - (((((7919 : Int64) * a1.toInt64) + ((6151 : Int64) * a2.toInt64)) + (1 : Int64)) * ((((7919 : Int64) * a1.toInt64) + ((6151 : Int64) * a2.toInt64)) + (1 : Int64))) / (65521 : Int64) * (65521 : Int64)) / (10 : Int64) * (10 : Int64)).toInt32) hx hb dX8_drawOf_27 rfl ?_
    exact W.iret hx hb hr (fun t ht _ => ⟨_, rfl, Option.some.inj h, ht.trans hH⟩) (fun q h => by cases h) dX8_drawOf_28 hlocks
  exact key s.heap hP rfl
theorem kw_X8_tickets_1 : (.fieldLink RX8 22 "BellTheCatModel" "many" "[I" : Cond) ∈ wsX8_tickets := List.mem_of_getElem? (i := 1) rfl
theorem kw_X8_tickets_2 : (.fieldLink RX8 13 "BellTheCatModel" "mice" "[I" : Cond) ∈ wsX8_tickets := List.mem_of_getElem? (i := 2) rfl
theorem in_X8_tickets_X8 : ∀ w ∈ wsX80, w ∈ wsX8_tickets := fun w h => List.mem_cons_of_mem _ (List.mem_append_right _ h)
abbrev rm_X8_tickets : Room := { frames := 1, cells := 0, slots := 0, locals := 21 }
set_option maxHeartbeats 4000000 in
set_option maxRecDepth 100000 in
theorem c_X8_tickets (l : Launch) (D : va_G) (cyI cyZ cyT : ClassId) (qa : Nat → Nat) (N : Nat) (M : Mo) (o : Int32) (hf : f_X8_tickets N M = some o) : Met l yX8_tickets wsX8_tickets rm_X8_tickets (va_Pc [.ref (qa 0)] (jB D cyI cyZ cyT (wM cyI cyZ qa M))) (jSi o) 0 0 (fun _ => False) := by
  refine Met.ofW (cc := cX8_tickets) (maxL := 3) (ret := (some .int)) (by decide) rfl ?_
  intro p e s m args below meth c s₁ B hml hv
  obtain ⟨rfl, hP, hK⟩ := hv
  have hx := B.exec
  have hb := B.bytes
  have hr := B.returns
  have hts := atoms_spec (ws := wsX8_tickets) B.pre
  have hown : s.vm.findClass RX8 = some m.cls := findClass_of_methodNamed B.named
  have hlocks := B.notSynchronized
  have hl := lv_entry ([.ref (qa 0)]) (n := 3) (Nat.le_of_ble_eq_true rfl)
  rw [lg_entry_eq]
  generalize (lg_sl ([.ref (qa 0)]) ++ List.replicate (3 - (lg_sl ([.ref (qa 0)])).length) Slot.unset).toArray = ls at hl ⊢
  have hl : lv_has ls 3 [(0, .ref (qa 0))] := hl
  clear B
  generalize ([.ref (qa 0)] : List Value).toArray = args at hts ⊢
  have key : ∀ (H : Heap), va_P D vwCl (wM cyI cyZ qa M) H → H = s.heap → W p l e rm_X8_tickets s m args below meth c H [] 0 0 (MQ below (jSi o) args s 0 0 (fun _ => False)) (F0 m 0 ls []) := by
    intro H hP hH
    have h := hf
    unfold f_X8_tickets at h
    refine lv_iconst (v := (0 : Int32)) hx hb dX8_tickets_0 (by decide) ?_
    refine lv_istore_n (lv' := [(1, .int (0 : Int32)), (0, .ref (qa 0))]) hx hb dX8_tickets_1 rfl hl (by decide) rfl (fun ls hl => ?_)
    refine lv_iconst (v := (0 : Int32)) hx hb dX8_tickets_2 (by decide) ?_
    refine lv_istore_n (lv' := [(2, .int (0 : Int32)), (1, .int (0 : Int32)), (0, .ref (qa 0))]) hx hb dX8_tickets_3 rfl hl (by decide) rfl (fun ls hl => ?_)
    obtain ⟨r1, hz1, h1_⟩ := jb h
    have hex1 : ∀ e1 : Int32, r1 = e1 → ∀ (ls : Array Slot), lv_has ls 3 [(1, .int e1)] → W p l e rm_X8_tickets s m args below meth c H [] 0 0 (MQ below (jSi o) args s 0 0 (fun _ => False)) (F0 m 45 ls []) := by
      intro e1 he ls hl
      rw [he] at h1_
      have h := h1_
      clear hz1
      refine lv_iload_n hx hb dX8_tickets_45 rfl (lv_at hl 0 rfl) ?_
      exact W.iret hx hb hr (fun t ht _ => ⟨_, rfl, Option.some.inj h, ht.trans hH⟩) (fun q h => by cases h) dX8_tickets_46 hlocks
    have hlp1 : ∀ (nn : Nat) (z1 : (Int32 × Int32)), jw (X8_tickets_s4 M) nn z1 = some r1 → ∀ (ls : Array Slot), lv_has ls 3 [(0, .ref (qa 0)), (1, .int z1.1), (2, .int z1.2)] → W p l e rm_X8_tickets s m args below meth c H [] 0 0 (MQ below (jSi o) args s 0 0 (fun _ => False)) (F0 m 4 ls []) := by
      refine jw_P (r := r1) (P := fun z1 : (Int32 × Int32) => ∀ (ls : Array Slot), lv_has ls 3 [(0, .ref (qa 0)), (1, .int z1.1), (2, .int z1.2)] → W p l e rm_X8_tickets s m args below meth c H [] 0 0 (MQ below (jSi o) args s 0 0 (fun _ => False)) (F0 m 4 ls [])) ?_
      intro z1 x1 h hin hout ls hl
      unfold X8_tickets_s4 at h
      refine lv_iload_n hx hb dX8_tickets_4 rfl (lv_at hl 2 rfl) ?_
      refine lv_aload_n hx hb dX8_tickets_5 rfl (lv_at hl 0 rfl) ?_
      refine va_get (D := D) (ci := 8) (v := .ref (qa 5)) (C := RX8) (T := TX8) (N := 24) hx hb hts in_X8_tickets_X8 hown hK.1 hP 0 rfl rfl 13 (by decide) (hts _ kw_X8_tickets_1) (fun _ h9 => h9) rfl dX8_tickets_6 ?_
      refine lv_iconst (v := (0 : Int32)) hx hb dX8_tickets_9 (by decide) ?_
      refine jald hx hb hK hP 5 rfl 0 (by decide) (by decide) dX8_tickets_10 ?_
      refine lv_icmp_ge (tgt := 45) hx hb dX8_tickets_11 (by decide) (fun c2 => ?_) (fun c2 => ?_)
      · have h := jt c2 h
        exact hex1 _ (hout _ (Option.some.inj h).symm).symm ls (lv_sub hl [1] rfl)
      · have h := jf c2 h
        refine lv_iload_n hx hb dX8_tickets_14 rfl (lv_at hl 1 rfl) ?_
        refine lv_aload_n hx hb dX8_tickets_15 rfl (lv_at hl 0 rfl) ?_
        refine lv_iload_n hx hb dX8_tickets_16 rfl (lv_at hl 2 rfl) ?_
        obtain ⟨z3, hz3, h⟩ := jb h
        refine jki (jrV (As := [.int z1.2]) (rest := [.int z1.1]) ⟨hx, hb, hml, hown, hts⟩ (c_X8_isLiving l D cyI cyZ cyT qa  z1.2 M z3 hz3) (cwV 1 hts gX8_tickets_X8_isLiving rfl rfl rfl (by decide +kernel) ⟨Nat.le_of_ble_eq_true rfl, Nat.le_of_ble_eq_true rfl⟩) hK hP rfl 8 0 rfl rfl rfl hl.1 (Nat.le_of_ble_eq_true rfl) dX8_tickets_17 ⟨Nat.le_of_ble_eq_true rfl, Nat.le_of_ble_eq_true rfl⟩) ?_
        clear hz3
        obtain ⟨z4, hz4, h⟩ := jb h
        have hk4 : ∀ (ls : Array Slot), lv_has ls 3 [(0, .ref (qa 0)), (2, .int z1.2)] → W p l e rm_X8_tickets s m args below meth c H [] 0 0 (MQ below (jSi o) args s 0 0 (fun _ => False)) (F0 m 37 ls [.int z4, .int z1.1]) := by
          intro ls hl
          refine lv_iadd hx hb dX8_tickets_37 ?_
          refine lv_istore_n (lv' := [(1, .int (z1.1 + z4)), (0, .ref (qa 0)), (2, .int z1.2)]) hx hb dX8_tickets_38 rfl hl (by decide) rfl (fun ls hl => ?_)
          refine lv_iinc (v := z1.2 + (1 : Int32)) (lv' := [(2, .int (z1.2 + (1 : Int32))), (1, .int (z1.1 + z4)), (0, .ref (qa 0))]) hx hb dX8_tickets_39 hl (k := 2) rfl rfl (by decide) rfl (fun ls hl => ?_)
          refine lv_goto (tgt := 4) hx hb dX8_tickets_42 (by decide) ?_
          exact hin _ (Option.some.inj h).symm ls (lv_sub hl [2, 1, 0] rfl)
        clear h
        have h := hz4
        clear hz4
        refine lv_if_eq (tgt := 36) hx hb dX8_tickets_20 (by decide) (fun c5 => ?_) (fun c5 => ?_)
        · have h := jt c5 h
          refine lv_iconst (v := (0 : Int32)) hx hb dX8_tickets_36 (by decide) ?_
          obtain rfl := Option.some.inj h
          exact hk4 ls (lv_sub hl [0, 2] rfl)
        · have h := jf c5 h
          refine lv_aload_n hx hb dX8_tickets_23 rfl (lv_at hl 0 rfl) ?_
          refine va_get (D := D) (ci := 8) (v := .ref (qa 2)) (C := RX8) (T := TX8) (N := 24) hx hb hts in_X8_tickets_X8 hown hK.1 hP 0 rfl rfl 10 (by decide) (hts _ kw_X8_tickets_2) (fun _ h9 => h9) rfl dX8_tickets_24 ?_
          refine lv_iconst (v := (4 : Int32)) hx hb dX8_tickets_27 (by decide) ?_
          refine lv_iload_n hx hb dX8_tickets_28 rfl (lv_at hl 2 rfl) ?_
          refine lv_imul hx hb dX8_tickets_29 ?_
          refine lv_iconst (v := (3 : Int32)) hx hb dX8_tickets_30 (by decide) ?_
          refine lv_iadd hx hb dX8_tickets_31 ?_
          obtain ⟨g6, h⟩ := jn h
          refine jald hx hb hK hP 2 rfl _ rfl g6 dX8_tickets_32 ?_
          refine lv_goto (tgt := 37) hx hb dX8_tickets_33 (by decide) ?_
          obtain rfl := Option.some.inj h
          exact hk4 ls (lv_sub hl [0, 2] rfl)
    exact hlp1 _ _ hz1 ls (lv_sub hl [2, 1, 0] rfl)
  exact key s.heap hP rfl

theorem kw_X7_fund_1 : (.fieldLink RX7 19 "BellTheCat" "told" "LBellTheCat$House;" : Cond) ∈ wsX7_fund := List.mem_of_getElem? (i := 1) rfl
theorem kw_X7_fund_2 : (.fieldLink RX7 178 "BellTheCat$House" "stepCount" "I" : Cond) ∈ wsX7_fund := List.mem_of_getElem? (i := 2) rfl
theorem kw_X7_fund_3 : (.fieldLink RX7 259 "BellTheCat$House" "gain" "I" : Cond) ∈ wsX7_fund := List.mem_of_getElem? (i := 3) rfl
theorem in_X7_fund_X0 : ∀ w ∈ wsX00, w ∈ wsX7_fund := fun w h => List.mem_cons_of_mem _ (List.mem_append_left _ (List.mem_append_right _ h))
theorem in_X7_fund_X7 : ∀ w ∈ wsX70, w ∈ wsX7_fund := fun w h => List.mem_cons_of_mem _ (List.mem_append_left _ (List.mem_append_left _ (List.mem_append_right _ h)))
abbrev rm_X7_fund : Room := { frames := 6, cells := 0, slots := 0, locals := 178 }
set_option maxHeartbeats 4000000 in
set_option maxRecDepth 100000 in
theorem c_X7_fund (l : Launch) (D : va_G) (cyI cyZ cyT : ClassId) (qa : Nat → Nat) (N : Nat) (X : BX) (o : Int32) (hf : f_X7_fund N X = some o) : Met l yX7_fund wsX7_fund rm_X7_fund (va_Pc [.ref (qa 0)] (jB D cyI cyZ cyT (wX cyI cyZ cyT qa X))) (jSi o) 0 0 (fun _ => False) := by
  refine Met.ofW (cc := cX7_fund) (maxL := 5) (ret := (some .int)) (by decide) rfl ?_
  intro p e s m args below meth c s₁ B hml hv
  obtain ⟨rfl, hP, hK⟩ := hv
  have hx := B.exec
  have hb := B.bytes
  have hr := B.returns
  have hts := atoms_spec (ws := wsX7_fund) B.pre
  have hown : s.vm.findClass RX7 = some m.cls := findClass_of_methodNamed B.named
  have hlocks := B.notSynchronized
  have hl := lv_entry ([.ref (qa 0)]) (n := 5) (Nat.le_of_ble_eq_true rfl)
  rw [lg_entry_eq]
  generalize (lg_sl ([.ref (qa 0)]) ++ List.replicate (5 - (lg_sl ([.ref (qa 0)])).length) Slot.unset).toArray = ls at hl ⊢
  have hl : lv_has ls 5 [(0, .ref (qa 0))] := hl
  clear B
  generalize ([.ref (qa 0)] : List Value).toArray = args at hts ⊢
  have key : ∀ (H : Heap), va_P D vwCl (wX cyI cyZ cyT qa X) H → H = s.heap → W p l e rm_X7_fund s m args below meth c H [] 0 0 (MQ below (jSi o) args s 0 0 (fun _ => False)) (F0 m 0 ls []) := by
    intro H hP hH
    have h := hf
    unfold f_X7_fund at h
    refine lv_aload_n hx hb dX7_fund_0 rfl (lv_at hl 0 rfl) ?_
    obtain ⟨z1, hz1, h⟩ := jb h
    refine jki (jrV (As := []) (rest := []) ⟨hx, hb, hml, hown, hts⟩ (c_X7_leastAfraid l D cyI cyZ cyT qa  N X z1 hz1) (cwV 0 hts gX7_fund_X7_leastAfraid rfl rfl rfl (by decide +kernel) ⟨Nat.le_of_ble_eq_true rfl, Nat.le_of_ble_eq_true rfl⟩) hK hP rfl 7 0 rfl rfl rfl hl.1 (Nat.le_of_ble_eq_true rfl) dX7_fund_1 ⟨Nat.le_of_ble_eq_true rfl, Nat.le_of_ble_eq_true rfl⟩) ?_
    clear hz1
    refine lv_istore_n (lv' := [(1, .int z1), (0, .ref (qa 0))]) hx hb dX7_fund_4 rfl hl (by decide) rfl (fun ls hl => ?_)
    refine lv_aload_n hx hb dX7_fund_5 rfl (lv_at hl 1 rfl) ?_
    refine va_get (D := D) (ci := 7) (v := .ref (qa 4)) (C := RX7) (T := TX7) (N := 10) hx hb hts in_X7_fund_X7 hown hK.1 hP 0 rfl rfl 1 (by decide) (hts _ kw_X7_fund_1) (fun _ h9 => h9) rfl dX7_fund_6 ?_
    refine va_get (D := D) (ci := 0) (v := .int ((X.1 1).2 1)) (C := RX0) (T := TX0) (N := 12) hx hb hts in_X7_fund_X0 hown hK.1 hP 4 rfl rfl 9 (by decide) (hts _ kw_X7_fund_2) (fun _ h9 => h9) rfl dX7_fund_9 ?_
    obtain ⟨z2, hz2, h⟩ := jb h
    refine jkl (jrS (As := [.int ((X.1 1).2 1)]) (rest := []) ⟨hx, hb, hml, hown, hts⟩ (c_X7_tenTo l D cyI cyZ cyT   N ((X.1 1).2 1) z2 hz2) (va_cwS 1 hts gX7_fund_X7_tenTo rfl rfl rfl (by decide +kernel) ⟨Nat.le_of_ble_eq_true rfl, Nat.le_of_ble_eq_true rfl⟩) hK jP0 rfl rfl hl.1 (Nat.le_of_ble_eq_true rfl) dX7_fund_12 ⟨Nat.le_of_ble_eq_true rfl, Nat.le_of_ble_eq_true rfl⟩) ?_
    clear hz2
    refine lv_lstore_n (lv' := [(2, .long z2), (1, .int z1), (0, .ref (qa 0))]) hx hb dX7_fund_15 rfl hl (by decide) rfl (fun ls hl => ?_)
    refine lv_iconst (v := (0 : Int32)) hx hb dX7_fund_16 (by decide) ?_
    refine lv_istore (lv' := [(4, .int (0 : Int32)), (2, .long z2), (1, .int z1), (0, .ref (qa 0))]) hx hb dX7_fund_17 hl (by decide) rfl (fun ls hl => ?_)
    obtain ⟨r3, hz3, h3_⟩ := jb h
    have hex3 : ∀ e3 : Unit, r3 = .inl e3 → ∀ (ls : Array Slot), lv_has ls 5 [] → W p l e rm_X7_fund s m args below meth c H [] 0 0 (MQ below (jSi o) args s 0 0 (fun _ => False)) (F0 m 65 ls []) := by
      intro e3 he ls hl
      have h := jsl h3_ he
      clear hz3
      refine lv_iconst (v := (-1 : Int32)) hx hb dX7_fund_65 (by decide) ?_
      exact W.iret hx hb hr (fun t ht _ => ⟨_, rfl, Option.some.inj h, ht.trans hH⟩) (fun q h => by cases h) dX7_fund_66 hlocks
    have hlp3 : ∀ (nn : Nat) (z3 : Int32), jw (X7_fund_s19 N X z1 z2) nn z3 = some r3 → ∀ (ls : Array Slot), lv_has ls 5 [(0, .ref (qa 0)), (1, .int z1), (2, .long z2), (4, .int z3)] → W p l e rm_X7_fund s m args below meth c H [] 0 0 (MQ below (jSi o) args s 0 0 (fun _ => False)) (F0 m 19 ls []) := by
      refine jw_P (r := r3) (P := fun z3 : Int32 => ∀ (ls : Array Slot), lv_has ls 5 [(0, .ref (qa 0)), (1, .int z1), (2, .long z2), (4, .int z3)] → W p l e rm_X7_fund s m args below meth c H [] 0 0 (MQ below (jSi o) args s 0 0 (fun _ => False)) (F0 m 19 ls [])) ?_
      intro z3 x3 h hin hout ls hl
      unfold X7_fund_s19 at h
      refine lv_iload hx hb dX7_fund_19 (lv_at hl 3 rfl) ?_
      refine lv_bipush (v := (99 : Int32)) hx hb dX7_fund_21 (by decide) ?_
      refine lv_icmp_gt (tgt := 65) hx hb dX7_fund_23 (by decide) (fun c4 => ?_) (fun c4 => ?_)
      · have h := jt c4 h
        exact hex3 _ (hout _ (Option.some.inj h).symm).symm ls (lv_sub hl [] rfl)
      · have h := jf c4 h
        refine lv_iload_n hx hb dX7_fund_26 rfl (lv_at hl 1 rfl) ?_
        refine lv_iconst (v := (-1 : Int32)) hx hb dX7_fund_27 (by decide) ?_
        refine lv_icmp_eq (tgt := 65) hx hb dX7_fund_28 (by decide) (fun c5 => ?_) (fun c5 => ?_)
        · have h := jt c5 h
          exact hex3 _ (hout _ (Option.some.inj h).symm).symm ls (lv_sub hl [] rfl)
        · have h := jf c5 h
          refine lv_aload_n hx hb dX7_fund_31 rfl (lv_at hl 0 rfl) ?_
          refine va_get (D := D) (ci := 7) (v := .ref (qa 4)) (C := RX7) (T := TX7) (N := 10) hx hb hts in_X7_fund_X7 hown hK.1 hP 0 rfl rfl 1 (by decide) (hts _ kw_X7_fund_1) (fun _ h9 => h9) rfl dX7_fund_32 ?_
          refine lv_iload_n hx hb dX7_fund_35 rfl (lv_at hl 1 rfl) ?_
          obtain ⟨z6, hz6, h⟩ := jb h
          refine jkl (jrV (As := [.int z1]) (rest := []) ⟨hx, hb, hml, hown, hts⟩ (c_X0_dreadAbove l D cyI cyZ cyT (fun k => qa (4 + k))  N z1 (X.1 1) z6 hz6) (cwV 1 hts gX7_fund_X0_dreadAbove rfl rfl rfl (by decide +kernel) ⟨Nat.le_of_ble_eq_true rfl, Nat.le_of_ble_eq_true rfl⟩) hK (hP.sub (ws' := wH cyI (fun k => qa (4 + k)) (X.1 1)) [4, 5, 6, 7, 8, 9, 10, 11, 12] rfl) rfl 0 0 rfl rfl rfl hl.1 (Nat.le_of_ble_eq_true rfl) dX7_fund_36 ⟨Nat.le_of_ble_eq_true rfl, Nat.le_of_ble_eq_true rfl⟩) ?_
          clear hz6
          refine lv_iload hx hb dX7_fund_39 (lv_at hl 3 rfl) ?_
          refine lv_aload_n hx hb dX7_fund_41 rfl (lv_at hl 0 rfl) ?_
          refine va_get (D := D) (ci := 7) (v := .ref (qa 4)) (C := RX7) (T := TX7) (N := 10) hx hb hts in_X7_fund_X7 hown hK.1 hP 0 rfl rfl 1 (by decide) (hts _ kw_X7_fund_1) (fun _ h9 => h9) rfl dX7_fund_42 ?_
          refine va_get (D := D) (ci := 0) (v := .int ((X.1 1).2 3)) (C := RX0) (T := TX0) (N := 12) hx hb hts in_X7_fund_X0 hown hK.1 hP 4 rfl rfl 11 (by decide) (hts _ kw_X7_fund_3) (fun _ h9 => h9) rfl dX7_fund_45 ?_
          refine lv_iadd hx hb dX7_fund_48 ?_
          refine lv_i2l (v := (z3 + ((X.1 1).2 3)).toInt64) hx hb dX7_fund_49 rfl ?_
          refine lv_lload_n hx hb dX7_fund_50 rfl (lv_at hl 2 rfl) ?_
          refine lv_lmul hx hb dX7_fund_51 ?_
          refine W.lcmp hx hb dX7_fund_52 ?_
          refine lv_if_gt (tgt := 59) hx hb dX7_fund_53 (by decide) (fun c7 => ?_) (fun c7 => ?_)
          · have h := jt ((lg_cmp_gt _ _).mp c7) h
            refine lv_iinc (v := z3 + (1 : Int32)) (lv' := [(4, .int (z3 + (1 : Int32))), (0, .ref (qa 0)), (1, .int z1), (2, .long z2)]) hx hb dX7_fund_59 hl (k := 3) rfl rfl (by decide) rfl (fun ls hl => ?_)
            refine lv_goto (tgt := 19) hx hb dX7_fund_62 (by decide) ?_
            exact hin _ (Option.some.inj h).symm ls (lv_sub hl [1, 2, 3, 0] rfl)
          · have h := jf (fun e => c7 ((lg_cmp_gt _ _).mpr e)) h
            refine lv_iload hx hb dX7_fund_56 (lv_at hl 3 rfl) ?_
            have h := jsr h3_ (hout _ (Option.some.inj h).symm).symm
            exact W.iret hx hb hr (fun t ht _ => ⟨_, rfl, Option.some.inj h, ht.trans hH⟩) (fun q h => by cases h) dX7_fund_58 hlocks
    exact hlp3 _ _ hz3 ls (lv_sub hl [3, 2, 1, 0] rfl)
  exact key s.heap hP rfl
theorem kw_X7_hires_1 : (.fieldLink RX7 19 "BellTheCat" "told" "LBellTheCat$House;" : Cond) ∈ wsX7_hires := List.mem_of_getElem? (i := 1) rfl
theorem kw_X7_hires_2 : (.fieldLink RX7 29 "BellTheCat" "now" "LBellTheCat$Team;" : Cond) ∈ wsX7_hires := List.mem_of_getElem? (i := 2) rfl
theorem in_X7_hires_X7 : ∀ w ∈ wsX70, w ∈ wsX7_hires := fun w h => List.mem_cons_of_mem _ (List.mem_append_left _ (List.mem_append_left _ (List.mem_append_right _ h)))
abbrev rm_X7_hires : Room := { frames := 6, cells := 0, slots := 0, locals := 178 }
set_option maxHeartbeats 4000000 in
set_option maxRecDepth 100000 in
theorem c_X7_hires (l : Launch) (D : va_G) (cyI cyZ cyT : ClassId) (qa : Nat → Nat) (N : Nat) (a1 : Int32) (X : BX) (o : Int32) (hf : f_X7_hires N a1 X = some o) : Met l yX7_hires wsX7_hires rm_X7_hires (va_Pc [.ref (qa 0), .int a1] (jB D cyI cyZ cyT (wX cyI cyZ cyT qa X))) (jSi o) 0 0 (fun _ => False) := by
  refine Met.ofW (cc := cX7_hires) (maxL := 3) (ret := (some .int)) (by decide) rfl ?_
  intro p e s m args below meth c s₁ B hml hv
  obtain ⟨rfl, hP, hK⟩ := hv
  have hx := B.exec
  have hb := B.bytes
  have hr := B.returns
  have hts := atoms_spec (ws := wsX7_hires) B.pre
  have hown : s.vm.findClass RX7 = some m.cls := findClass_of_methodNamed B.named
  have hlocks := B.notSynchronized
  have hl := lv_entry ([.ref (qa 0), .int a1]) (n := 3) (Nat.le_of_ble_eq_true rfl)
  rw [lg_entry_eq]
  generalize (lg_sl ([.ref (qa 0), .int a1]) ++ List.replicate (3 - (lg_sl ([.ref (qa 0), .int a1])).length) Slot.unset).toArray = ls at hl ⊢
  have hl : lv_has ls 3 [(0, .ref (qa 0)), (1, .int a1)] := hl
  clear B
  generalize ([.ref (qa 0), .int a1] : List Value).toArray = args at hts ⊢
  have key : ∀ (H : Heap), va_P D vwCl (wX cyI cyZ cyT qa X) H → H = s.heap → W p l e rm_X7_hires s m args below meth c H [] 0 0 (MQ below (jSi o) args s 0 0 (fun _ => False)) (F0 m 0 ls []) := by
    intro H hP hH
    have h := hf
    unfold f_X7_hires at h
    refine lv_aload_n hx hb dX7_hires_0 rfl (lv_at hl 0 rfl) ?_
    refine va_get (D := D) (ci := 7) (v := .ref (qa 4)) (C := RX7) (T := TX7) (N := 10) hx hb hts in_X7_hires_X7 hown hK.1 hP 0 rfl rfl 1 (by decide) (hts _ kw_X7_hires_1) (fun _ h9 => h9) rfl dX7_hires_1 ?_
    refine lv_iload_n hx hb dX7_hires_4 rfl (lv_at hl 1 rfl) ?_
    obtain ⟨z1, hz1, h⟩ := jb h
    refine jki (jrV (As := [.int a1]) (rest := []) ⟨hx, hb, hml, hown, hts⟩ (c_X0_hasMouse l D cyI cyZ cyT (fun k => qa (4 + k))  a1 (X.1 1) z1 hz1) (cwV 1 hts gX7_hires_X0_hasMouse rfl rfl rfl (by decide +kernel) ⟨Nat.le_of_ble_eq_true rfl, Nat.le_of_ble_eq_true rfl⟩) hK (hP.sub (ws' := wH cyI (fun k => qa (4 + k)) (X.1 1)) [4, 5, 6, 7, 8, 9, 10, 11, 12] rfl) rfl 0 0 rfl rfl rfl hl.1 (Nat.le_of_ble_eq_true rfl) dX7_hires_5 ⟨Nat.le_of_ble_eq_true rfl, Nat.le_of_ble_eq_true rfl⟩) ?_
    clear hz1
    refine lv_if_ne (tgt := 14) hx hb dX7_hires_8 (by decide) (fun c2 => ?_) (fun c2 => ?_)
    · have h := jf c2 h
      refine lv_aload_n hx hb dX7_hires_14 rfl (lv_at hl 0 rfl) ?_
      refine va_get (D := D) (ci := 7) (v := .ref (qa 22)) (C := RX7) (T := TX7) (N := 10) hx hb hts in_X7_hires_X7 hown hK.1 hP 0 rfl rfl 3 (by decide) (hts _ kw_X7_hires_2) (fun _ h9 => h9) rfl dX7_hires_15 ?_
      refine lv_iload_n hx hb dX7_hires_18 rfl (lv_at hl 1 rfl) ?_
      obtain ⟨z3, hz3, h⟩ := jb h
      refine jki (jrV (As := [.int a1]) (rest := []) ⟨hx, hb, hml, hown, hts⟩ (c_X4_lives l D cyI cyZ cyT (fun k => qa (22 + k))  a1 (X.1 3) z3 hz3) (cwV 1 hts gX7_hires_X4_lives rfl rfl rfl (by decide +kernel) ⟨Nat.le_of_ble_eq_true rfl, Nat.le_of_ble_eq_true rfl⟩) hK (hP.sub (ws' := wT cyI (fun k => qa (22 + k)) (X.1 3)) [22, 23] rfl) rfl 4 0 rfl rfl rfl hl.1 (Nat.le_of_ble_eq_true rfl) dX7_hires_19 ⟨Nat.le_of_ble_eq_true rfl, Nat.le_of_ble_eq_true rfl⟩) ?_
      clear hz3
      refine lv_if_ne (tgt := 28) hx hb dX7_hires_22 (by decide) (fun c4 => ?_) (fun c4 => ?_)
      · have h := jf c4 h
        refine lv_aload_n hx hb dX7_hires_28 rfl (lv_at hl 0 rfl) ?_
        obtain ⟨z5, hz5, h⟩ := jb h
        refine jki (jrV (As := []) (rest := []) ⟨hx, hb, hml, hown, hts⟩ (c_X7_leastAfraid l D cyI cyZ cyT qa  N X z5 hz5) (cwV 0 hts gX7_hires_X7_leastAfraid rfl rfl rfl (by decide +kernel) ⟨Nat.le_of_ble_eq_true rfl, Nat.le_of_ble_eq_true rfl⟩) hK hP rfl 7 0 rfl rfl rfl hl.1 (Nat.le_of_ble_eq_true rfl) dX7_hires_29 ⟨Nat.le_of_ble_eq_true rfl, Nat.le_of_ble_eq_true rfl⟩) ?_
        clear hz5
        refine lv_istore_n (lv' := [(2, .int z5), (0, .ref (qa 0)), (1, .int a1)]) hx hb dX7_hires_32 rfl hl (by decide) rfl (fun ls hl => ?_)
        refine lv_aload_n hx hb dX7_hires_33 rfl (lv_at hl 1 rfl) ?_
        refine va_get (D := D) (ci := 7) (v := .ref (qa 4)) (C := RX7) (T := TX7) (N := 10) hx hb hts in_X7_hires_X7 hown hK.1 hP 0 rfl rfl 1 (by decide) (hts _ kw_X7_hires_1) (fun _ h9 => h9) rfl dX7_hires_34 ?_
        refine lv_iload_n hx hb dX7_hires_37 rfl (lv_at hl 0 rfl) ?_
        obtain ⟨z6, hz6, h⟩ := jb h
        refine jkl (jrV (As := [.int z5]) (rest := []) ⟨hx, hb, hml, hown, hts⟩ (c_X0_dreadAbove l D cyI cyZ cyT (fun k => qa (4 + k))  N z5 (X.1 1) z6 hz6) (cwV 1 hts gX7_hires_X0_dreadAbove rfl rfl rfl (by decide +kernel) ⟨Nat.le_of_ble_eq_true rfl, Nat.le_of_ble_eq_true rfl⟩) hK (hP.sub (ws' := wH cyI (fun k => qa (4 + k)) (X.1 1)) [4, 5, 6, 7, 8, 9, 10, 11, 12] rfl) rfl 0 0 rfl rfl rfl hl.1 (Nat.le_of_ble_eq_true rfl) dX7_hires_38 ⟨Nat.le_of_ble_eq_true rfl, Nat.le_of_ble_eq_true rfl⟩) ?_
        clear hz6
        refine lv_aload_n hx hb dX7_hires_41 rfl (lv_at hl 1 rfl) ?_
        refine va_get (D := D) (ci := 7) (v := .ref (qa 4)) (C := RX7) (T := TX7) (N := 10) hx hb hts in_X7_hires_X7 hown hK.1 hP 0 rfl rfl 1 (by decide) (hts _ kw_X7_hires_1) (fun _ h9 => h9) rfl dX7_hires_42 ?_
        refine lv_iload_n hx hb dX7_hires_45 rfl (lv_at hl 2 rfl) ?_
        obtain ⟨z7, hz7, h⟩ := jb h
        refine jkl (jrV (As := [.int a1]) (rest := [.long z6]) ⟨hx, hb, hml, hown, hts⟩ (c_X0_dreadAbove l D cyI cyZ cyT (fun k => qa (4 + k))  N a1 (X.1 1) z7 hz7) (cwV 1 hts gX7_hires_X0_dreadAbove rfl rfl rfl (by decide +kernel) ⟨Nat.le_of_ble_eq_true rfl, Nat.le_of_ble_eq_true rfl⟩) hK (hP.sub (ws' := wH cyI (fun k => qa (4 + k)) (X.1 1)) [4, 5, 6, 7, 8, 9, 10, 11, 12] rfl) rfl 0 0 rfl rfl rfl hl.1 (Nat.le_of_ble_eq_true rfl) dX7_hires_46 ⟨Nat.le_of_ble_eq_true rfl, Nat.le_of_ble_eq_true rfl⟩) ?_
        clear hz7
        refine W.lcmp hx hb dX7_hires_49 ?_
        refine lv_if_ge (tgt := 57) hx hb dX7_hires_50 (by decide) (fun c8 => ?_) (fun c8 => ?_)
        · have h := jt ((lg_cmp_ge _ _).mp c8) h
          refine lv_iload_n hx hb dX7_hires_57 rfl (lv_at hl 2 rfl) ?_
          exact W.iret hx hb hr (fun t ht _ => ⟨_, rfl, Option.some.inj h, ht.trans hH⟩) (fun q h => by cases h) dX7_hires_58 hlocks
        · have h := jf (fun e => c8 ((lg_cmp_ge _ _).mpr e)) h
          refine lv_iload_n hx hb dX7_hires_53 rfl (lv_at hl 0 rfl) ?_
          refine lv_goto (tgt := 58) hx hb dX7_hires_54 (by decide) ?_
          exact W.iret hx hb hr (fun t ht _ => ⟨_, rfl, Option.some.inj h, ht.trans hH⟩) (fun q h => by cases h) dX7_hires_58 hlocks
      · have h := jt c4 h
        refine lv_bipush (v := (-4 : Int32)) hx hb dX7_hires_25 (by decide) ?_
        exact W.iret hx hb hr (fun t ht _ => ⟨_, rfl, Option.some.inj h, ht.trans hH⟩) (fun q h => by cases h) dX7_hires_27 hlocks
    · have h := jt c2 h
      refine lv_bipush (v := (-2 : Int32)) hx hb dX7_hires_11 (by decide) ?_
      exact W.iret hx hb hr (fun t ht _ => ⟨_, rfl, Option.some.inj h, ht.trans hH⟩) (fun q h => by cases h) dX7_hires_13 hlocks
  exact key s.heap hP rfl
theorem kw_X7_keep_1 : (.fieldLink RX7 29 "BellTheCat" "now" "LBellTheCat$Team;" : Cond) ∈ wsX7_keep := List.mem_of_getElem? (i := 1) rfl
theorem kw_X7_keep_2 : (.fieldLink RX7 40 "BellTheCat" "kept" "[LBellTheCat$Team;" : Cond) ∈ wsX7_keep := List.mem_of_getElem? (i := 2) rfl
theorem kw_X7_keep_3 : (.fieldLink RX7 44 "BellTheCat" "isKept" "[Z" : Cond) ∈ wsX7_keep := List.mem_of_getElem? (i := 3) rfl
theorem kw_X7_keep_4 : (.fieldLink RX7 184 "BellTheCat$Team" "nights" "I" : Cond) ∈ wsX7_keep := List.mem_of_getElem? (i := 4) rfl
theorem in_X7_keep_X4 : ∀ w ∈ wsX40, w ∈ wsX7_keep := fun w h => List.mem_cons_of_mem _ (List.mem_append_right _ h)
theorem in_X7_keep_X7 : ∀ w ∈ wsX70, w ∈ wsX7_keep := fun w h => List.mem_cons_of_mem _ (List.mem_append_left _ (List.mem_append_right _ h))
abbrev rm_X7_keep : Room := { frames := 1, cells := 0, slots := 0, locals := 22 }
set_option maxHeartbeats 4000000 in
set_option maxRecDepth 100000 in
theorem c_X7_keep (l : Launch) (D : va_G) (cyI cyZ cyT : ClassId) (qa : Nat → Nat) (sz : Nat) (N : Nat) (a1 : Int32) (X : BX) (o : (Int32 × BX)) (hf : f_X7_keep N a1 X = some o) : Met l yX7_keep wsX7_keep rm_X7_keep (va_Pc [.ref (qa 0), .int a1] (jM D cyI cyZ cyT (wX cyI cyZ cyT qa X) sz)) (jQi D (va_A (wX cyI cyZ cyT qa X) sz) (fun u : BX => wX cyI cyZ cyT qa u) o) 0 0 (va_A (wX cyI cyZ cyT qa X) sz) := by
  refine Met.ofW (cc := cX7_keep) (maxL := 2) (ret := (some .int)) (by decide) rfl ?_
  intro p e s m args below meth c s₁ B hml hv
  obtain ⟨rfl, hsz, hP, hK, hD0⟩ := hv
  have hx := B.exec
  have hb := B.bytes
  have hr := B.returns
  have hts := atoms_spec (ws := wsX7_keep) B.pre
  have hown : s.vm.findClass RX7 = some m.cls := findClass_of_methodNamed B.named
  have hlocks := B.notSynchronized
  subst hsz
  have hD := hD0.self (sz := s.heap.size)
  generalize hAe : va_A (wX cyI cyZ cyT qa X) s.heap.size = A at hD ⊢
  have hA : ∀ q : Nat, s.heap.size ≤ q → A q := fun q h => by rw [← hAe]; exact Or.inr h
  have hS : va_S A s.heap s.heap [] := va_S.rf
  have hl := lv_entry ([.ref (qa 0), .int a1]) (n := 2) (Nat.le_of_ble_eq_true rfl)
  rw [lg_entry_eq]
  generalize (lg_sl ([.ref (qa 0), .int a1]) ++ List.replicate (2 - (lg_sl ([.ref (qa 0), .int a1])).length) Slot.unset).toArray = ls at hl ⊢
  have hl : lv_has ls 2 [(0, .ref (qa 0)), (1, .int a1)] := hl
  clear B
  generalize ([.ref (qa 0), .int a1] : List Value).toArray = args at hts ⊢
  have key : ∀ (H : Heap) (locs : List Loc), va_P D vwCl (wX cyI cyZ cyT qa X) H → va_D A (wX cyI cyZ cyT qa X) → va_S A s.heap H locs → W p l e rm_X7_keep s m args below meth c H locs 0 0 (MQ below (jQi D A (fun u : BX => wX cyI cyZ cyT qa u) o) args s 0 0 A) (F0 m 0 ls []) := by
    intro H locs hP hD hS
    have h := hf
    unfold f_X7_keep at h
    refine lv_iload_n hx hb dX7_keep_0 rfl (lv_at hl 1 rfl) ?_
    refine lv_iconst (v := (1 : Int32)) hx hb dX7_keep_1 (by decide) ?_
    obtain ⟨z1, hz1, h⟩ := jb h
    refine jki (jrS (As := [.int a1, .int (1 : Int32)]) (rest := []) ⟨hx, hb, hml, hown, hts⟩ (c_X7_within l D cyI cyZ cyT   a1 (1 : Int32) z1 hz1) (va_cwS 2 hts gX7_keep_X7_within rfl rfl rfl (by decide +kernel) ⟨Nat.le_of_ble_eq_true rfl, Nat.le_of_ble_eq_true rfl⟩) hK jP0 rfl rfl hl.1 (Nat.le_of_ble_eq_true rfl) dX7_keep_2 ⟨Nat.le_of_ble_eq_true rfl, Nat.le_of_ble_eq_true rfl⟩) ?_
    clear hz1
    refine lv_if_ne (tgt := 11) hx hb dX7_keep_5 (by decide) (fun c2 => ?_) (fun c2 => ?_)
    · have h := jf c2 h
      refine lv_aload_n hx hb dX7_keep_11 rfl (lv_at hl 0 rfl) ?_
      refine va_get (D := D) (ci := 7) (v := .ref (qa 22)) (C := RX7) (T := TX7) (N := 10) hx hb hts in_X7_keep_X7 hown hK.1 hP 0 rfl rfl 3 (by decide) (hts _ kw_X7_keep_1) (fun _ h9 => h9) rfl dX7_keep_12 ?_
      refine lv_aload_n hx hb dX7_keep_15 rfl (lv_at hl 0 rfl) ?_
      refine va_get (D := D) (ci := 7) (v := .ref (qa 42)) (C := RX7) (T := TX7) (N := 10) hx hb hts in_X7_keep_X7 hown hK.1 hP 0 rfl rfl 5 (by decide) (hts _ kw_X7_keep_2) (fun _ h9 => h9) rfl dX7_keep_16 ?_
      refine lv_iload_n hx hb dX7_keep_19 rfl (lv_at hl 1 rfl) ?_
      obtain ⟨g3, h⟩ := jn h
      refine va_aldq hx hb hK.1 hP 42 2 rfl rfl g3 dX7_keep_20 ?_
      by_cases c6 : a1.toNatClampNeg = 0
      · have h := jt c6 h
        rw [c6]
        obtain ⟨z4, hz4, h⟩ := jb h
        refine jgv (w1 := fun u : Mo => wT cyI (fun k => qa (22 + k)) (X.1 3) ++ wT cyI (fun k => qa (44 + k)) u) (wn := wX cyI cyZ cyT qa (X.1, X.2.1, va_up X.2.2.1 0 z4, X.2.2.2)) (jmS (As := [.ref (qa 22), .ref (qa 44)]) (rest := []) ⟨hx, hb, hml, hown, hts⟩ (c_X7_copyTeam l D cyI cyZ cyT (fun k => qa (22 + k)) (fun k => qa (44 + k)) H.size N (X.1 3) (X.2.2.1 0) z4 hz4) (va_cwS 2 hts gX7_keep_X7_copyTeam rfl rfl rfl (by decide +kernel) ⟨Nat.le_of_ble_eq_true rfl, Nat.le_of_ble_eq_true rfl⟩) hK (hP.sub (ws' := wT cyI (fun k => qa (22 + k)) (X.1 3) ++ wT cyI (fun k => qa (44 + k)) (X.2.2.1 0)) [22, 23, 44, 45] rfl) (hD.sub (ws' := wT cyI (fun k => qa (22 + k)) (X.1 3) ++ wT cyI (fun k => qa (44 + k)) (X.2.2.1 0)) [22, 23, 44, 45] (by decide) rfl) rfl rfl hl.1 (Nat.le_of_ble_eq_true rfl) dX7_keep_21 ⟨Nat.le_of_ble_eq_true rfl, Nat.le_of_ble_eq_true rfl⟩) hP hD hS hA [22, 23, 44, 45] [0, 1, 2, 3, 4, 5, 6, 7, 8, 9, 10, 11, 12, 13, 14, 15, 16, 17, 18, 19, 20, 21, 24, 25, 26, 27, 28, 29, 30, 31, 32, 33, 34, 35, 36, 37, 38, 39, 40, 41, 42, 43, 46, 47, 48, 49, 50, 51, 52, 53, 54] [0, 1, 2, 3, 4, 5, 6, 7, 8, 9, 10, 11, 12, 13, 14, 15, 16, 17, 18, 19, 20, 21, 51, 52, 22, 23, 24, 25, 26, 27, 28, 29, 30, 31, 32, 33, 34, 35, 36, 37, 38, 39, 40, 41, 53, 54, 42, 43, 44, 45, 46, 47, 48, 49, 50] rfl rfl (by decide) (by decide) rfl (by decide) (fun H locs hP hD hS => ?_)
        clear hz4
        refine lv_aload_n hx hb dX7_keep_24 rfl (lv_at hl 0 rfl) ?_
        refine va_get (D := D) (ci := 7) (v := .ref (qa 43)) (C := RX7) (T := TX7) (N := 10) hx hb hts in_X7_keep_X7 hown hK.1 hP 0 rfl rfl 6 (by decide) (hts _ kw_X7_keep_3) (fun _ h9 => h9) rfl dX7_keep_25 ?_
        refine lv_iload_n hx hb dX7_keep_28 rfl (lv_at hl 1 rfl) ?_
        refine lv_iconst (v := (1 : Int32)) hx hb dX7_keep_29 (by decide) ?_
        obtain ⟨g5, h⟩ := jn h
        refine jzst (w' := wX cyI cyZ cyT qa (va_up X.1 5 (va_up ((X.1 5).1) 0 (upd ((X.1 5).1 0) a1.toNatClampNeg (1 : Int32)), (X.1 5).2), X.2.1, va_up X.2.2.1 0 z4, X.2.2.2)) hx hb hK hP hD hS 43 rfl (by decide) _ rfl g5 rfl dX7_keep_30 (fun H locs hP hD hS => ?_)
        refine lv_aload_n hx hb dX7_keep_31 rfl (lv_at hl 0 rfl) ?_
        refine va_get (D := D) (ci := 7) (v := .ref (qa 22)) (C := RX7) (T := TX7) (N := 10) hx hb hts in_X7_keep_X7 hown hK.1 hP 0 rfl rfl 3 (by decide) (hts _ kw_X7_keep_1) (fun _ h9 => h9) rfl dX7_keep_32 ?_
        refine va_get (D := D) (ci := 4) (v := .int ((X.1 3).2 0)) (C := RX4) (T := TX4) (N := 4) hx hb hts in_X7_keep_X4 hown hK.1 hP 22 rfl rfl 1 (by decide) (hts _ kw_X7_keep_4) (fun _ h9 => h9) rfl dX7_keep_35 ?_
        exact W.iret hx hb hr (fun t ht _ => ⟨⟨_, _, rfl, Option.some.inj h, by rw [ht]; exact hP, hD⟩, hS.F ht⟩) hS.2.2 dX7_keep_38 hlocks
      have h := jf c6 h
      by_cases c9 : a1.toNatClampNeg = 1
      · have h := jt c9 h
        rw [c9]
        obtain ⟨z7, hz7, h⟩ := jb h
        refine jgv (w1 := fun u : Mo => wT cyI (fun k => qa (22 + k)) (X.1 3) ++ wT cyI (fun k => qa (46 + k)) u) (wn := wX cyI cyZ cyT qa (X.1, X.2.1, va_up X.2.2.1 1 z7, X.2.2.2)) (jmS (As := [.ref (qa 22), .ref (qa 46)]) (rest := []) ⟨hx, hb, hml, hown, hts⟩ (c_X7_copyTeam l D cyI cyZ cyT (fun k => qa (22 + k)) (fun k => qa (46 + k)) H.size N (X.1 3) (X.2.2.1 1) z7 hz7) (va_cwS 2 hts gX7_keep_X7_copyTeam rfl rfl rfl (by decide +kernel) ⟨Nat.le_of_ble_eq_true rfl, Nat.le_of_ble_eq_true rfl⟩) hK (hP.sub (ws' := wT cyI (fun k => qa (22 + k)) (X.1 3) ++ wT cyI (fun k => qa (46 + k)) (X.2.2.1 1)) [22, 23, 46, 47] rfl) (hD.sub (ws' := wT cyI (fun k => qa (22 + k)) (X.1 3) ++ wT cyI (fun k => qa (46 + k)) (X.2.2.1 1)) [22, 23, 46, 47] (by decide) rfl) rfl rfl hl.1 (Nat.le_of_ble_eq_true rfl) dX7_keep_21 ⟨Nat.le_of_ble_eq_true rfl, Nat.le_of_ble_eq_true rfl⟩) hP hD hS hA [22, 23, 46, 47] [0, 1, 2, 3, 4, 5, 6, 7, 8, 9, 10, 11, 12, 13, 14, 15, 16, 17, 18, 19, 20, 21, 24, 25, 26, 27, 28, 29, 30, 31, 32, 33, 34, 35, 36, 37, 38, 39, 40, 41, 42, 43, 44, 45, 48, 49, 50, 51, 52, 53, 54] [0, 1, 2, 3, 4, 5, 6, 7, 8, 9, 10, 11, 12, 13, 14, 15, 16, 17, 18, 19, 20, 21, 51, 52, 22, 23, 24, 25, 26, 27, 28, 29, 30, 31, 32, 33, 34, 35, 36, 37, 38, 39, 40, 41, 42, 43, 53, 54, 44, 45, 46, 47, 48, 49, 50] rfl rfl (by decide) (by decide) rfl (by decide) (fun H locs hP hD hS => ?_)
        clear hz7
        refine lv_aload_n hx hb dX7_keep_24 rfl (lv_at hl 0 rfl) ?_
        refine va_get (D := D) (ci := 7) (v := .ref (qa 43)) (C := RX7) (T := TX7) (N := 10) hx hb hts in_X7_keep_X7 hown hK.1 hP 0 rfl rfl 6 (by decide) (hts _ kw_X7_keep_3) (fun _ h9 => h9) rfl dX7_keep_25 ?_
        refine lv_iload_n hx hb dX7_keep_28 rfl (lv_at hl 1 rfl) ?_
        refine lv_iconst (v := (1 : Int32)) hx hb dX7_keep_29 (by decide) ?_
        obtain ⟨g8, h⟩ := jn h
        refine jzst (w' := wX cyI cyZ cyT qa (va_up X.1 5 (va_up ((X.1 5).1) 0 (upd ((X.1 5).1 0) a1.toNatClampNeg (1 : Int32)), (X.1 5).2), X.2.1, va_up X.2.2.1 1 z7, X.2.2.2)) hx hb hK hP hD hS 43 rfl (by decide) _ rfl g8 rfl dX7_keep_30 (fun H locs hP hD hS => ?_)
        refine lv_aload_n hx hb dX7_keep_31 rfl (lv_at hl 0 rfl) ?_
        refine va_get (D := D) (ci := 7) (v := .ref (qa 22)) (C := RX7) (T := TX7) (N := 10) hx hb hts in_X7_keep_X7 hown hK.1 hP 0 rfl rfl 3 (by decide) (hts _ kw_X7_keep_1) (fun _ h9 => h9) rfl dX7_keep_32 ?_
        refine va_get (D := D) (ci := 4) (v := .int ((X.1 3).2 0)) (C := RX4) (T := TX4) (N := 4) hx hb hts in_X7_keep_X4 hown hK.1 hP 22 rfl rfl 1 (by decide) (hts _ kw_X7_keep_4) (fun _ h9 => h9) rfl dX7_keep_35 ?_
        exact W.iret hx hb hr (fun t ht _ => ⟨⟨_, _, rfl, Option.some.inj h, by rw [ht]; exact hP, hD⟩, hS.F ht⟩) hS.2.2 dX7_keep_38 hlocks
      have h := jf c9 h
      cases h
    · have h := jt c2 h
      refine lv_bipush (v := (-2 : Int32)) hx hb dX7_keep_8 (by decide) ?_
      exact W.iret hx hb hr (fun t ht _ => ⟨⟨_, _, rfl, Option.some.inj h, by rw [ht]; exact hP, hD⟩, hS.F ht⟩) hS.2.2 dX7_keep_10 hlocks
  exact key s.heap [] hP hD hS
abbrev rm_X7_leastOf : Room := { frames := 0, cells := 0, slots := 0, locals := 0 }
set_option maxHeartbeats 4000000 in
set_option maxRecDepth 100000 in
theorem c_X7_leastOf (l : Launch) (D : va_G) (cyI cyZ cyT : ClassId) (N : Nat) (a0 : Int32) (o : Int32) (hf : f_X7_leastOf N a0 = some o) : Met l yX7_leastOf wsX7_leastOf rm_X7_leastOf (va_Pc [.int a0] (jB D cyI cyZ cyT ([]))) (jSi o) 0 0 (fun _ => False) := by
  refine Met.ofW (cc := cX7_leastOf) (maxL := 2) (ret := (some .int)) (by decide) rfl ?_
  intro p e s m args below meth c s₁ B hml hv
  obtain ⟨rfl, hP, hK⟩ := hv
  have hx := B.exec
  have hb := B.bytes
  have hr := B.returns
  have hts := atoms_spec (ws := wsX7_leastOf) B.pre
  have hown : s.vm.findClass RX7 = some m.cls := findClass_of_methodNamed B.named
  have hlocks := B.notSynchronized
  have hl := lv_entry ([.int a0]) (n := 2) (Nat.le_of_ble_eq_true rfl)
  rw [lg_entry_eq]
  generalize (lg_sl ([.int a0]) ++ List.replicate (2 - (lg_sl ([.int a0])).length) Slot.unset).toArray = ls at hl ⊢
  have hl : lv_has ls 2 [(0, .int a0)] := hl
  clear B
  generalize ([.int a0] : List Value).toArray = args at hts ⊢
  have key : ∀ (H : Heap), va_P D vwCl ([]) H → H = s.heap → W p l e rm_X7_leastOf s m args below meth c H [] 0 0 (MQ below (jSi o) args s 0 0 (fun _ => False)) (F0 m 0 ls []) := by
    intro H hP hH
    have h := hf
    unfold f_X7_leastOf at h
    refine lv_iconst (v := (0 : Int32)) hx hb dX7_leastOf_0 (by decide) ?_
    refine lv_istore_n (lv' := [(1, .int (0 : Int32)), (0, .int a0)]) hx hb dX7_leastOf_1 rfl hl (by decide) rfl (fun ls hl => ?_)
    obtain ⟨r1, hz1, h1_⟩ := jb h
    have hex1 : ∀ e1 : Unit, r1 = .inl e1 → ∀ (ls : Array Slot), lv_has ls 2 [] → W p l e rm_X7_leastOf s m args below meth c H [] 0 0 (MQ below (jSi o) args s 0 0 (fun _ => False)) (F0 m 25 ls []) := by
      intro e1 he ls hl
      have h := jsl h1_ he
      clear hz1
      refine lv_iconst (v := (-1 : Int32)) hx hb dX7_leastOf_25 (by decide) ?_
      exact W.iret hx hb hr (fun t ht _ => ⟨_, rfl, Option.some.inj h, ht.trans hH⟩) (fun q h => by cases h) dX7_leastOf_26 hlocks
    have hlp1 : ∀ (nn : Nat) (z1 : Int32), jw (X7_leastOf_s2 a0) nn z1 = some r1 → ∀ (ls : Array Slot), lv_has ls 2 [(0, .int a0), (1, .int z1)] → W p l e rm_X7_leastOf s m args below meth c H [] 0 0 (MQ below (jSi o) args s 0 0 (fun _ => False)) (F0 m 2 ls []) := by
      refine jw_P (r := r1) (P := fun z1 : Int32 => ∀ (ls : Array Slot), lv_has ls 2 [(0, .int a0), (1, .int z1)] → W p l e rm_X7_leastOf s m args below meth c H [] 0 0 (MQ below (jSi o) args s 0 0 (fun _ => False)) (F0 m 2 ls [])) ?_
      intro z1 x1 h hin hout ls hl
      unfold X7_leastOf_s2 at h
      refine lv_iload_n hx hb dX7_leastOf_2 rfl (lv_at hl 1 rfl) ?_
      refine lv_bipush (v := (6 : Int32)) hx hb dX7_leastOf_3 (by decide) ?_
      refine lv_icmp_ge (tgt := 25) hx hb dX7_leastOf_5 (by decide) (fun c2 => ?_) (fun c2 => ?_)
      · have h := jt c2 h
        exact hex1 _ (hout _ (Option.some.inj h).symm).symm ls (lv_sub hl [] rfl)
      · have h := jf c2 h
        refine lv_iload_n hx hb dX7_leastOf_8 rfl (lv_at hl 0 rfl) ?_
        refine lv_iload_n hx hb dX7_leastOf_9 rfl (lv_at hl 1 rfl) ?_
        refine lv_ishr hx hb dX7_leastOf_10 ?_
        refine lv_iconst (v := (1 : Int32)) hx hb dX7_leastOf_11 (by decide) ?_
        refine lv_iand hx hb dX7_leastOf_12 ?_
        refine lv_iconst (v := (1 : Int32)) hx hb dX7_leastOf_13 (by decide) ?_
        refine lv_icmp_ne (tgt := 19) hx hb dX7_leastOf_14 (by decide) (fun c3 => ?_) (fun c3 => ?_)
        · have h := jf c3 h
          refine lv_iinc (v := z1 + (1 : Int32)) (lv' := [(1, .int (z1 + (1 : Int32))), (0, .int a0)]) hx hb dX7_leastOf_19 hl (k := 1) rfl rfl (by decide) rfl (fun ls hl => ?_)
          refine lv_goto (tgt := 2) hx hb dX7_leastOf_22 (by decide) ?_
          exact hin _ (Option.some.inj h).symm ls (lv_sub hl [1, 0] rfl)
        · have h := jt c3 h
          refine lv_iload_n hx hb dX7_leastOf_17 rfl (lv_at hl 1 rfl) ?_
          have h := jsr h1_ (hout _ (Option.some.inj h).symm).symm
          exact W.iret hx hb hr (fun t ht _ => ⟨_, rfl, Option.some.inj h, ht.trans hH⟩) (fun q h => by cases h) dX7_leastOf_18 hlocks
    exact hlp1 _ _ hz1 ls (lv_sub hl [1, 0] rfl)
  exact key s.heap hP rfl
theorem kw_X7_loss_1 : (.fieldLink RX7 29 "BellTheCat" "now" "LBellTheCat$Team;" : Cond) ∈ wsX7_loss := List.mem_of_getElem? (i := 1) rfl
theorem kw_X7_loss_2 : (.fieldLink RX7 19 "BellTheCat" "told" "LBellTheCat$House;" : Cond) ∈ wsX7_loss := List.mem_of_getElem? (i := 2) rfl
theorem kw_X7_loss_3 : (.fieldLink RX7 178 "BellTheCat$House" "stepCount" "I" : Cond) ∈ wsX7_loss := List.mem_of_getElem? (i := 3) rfl
theorem kw_X7_loss_4 : (.constantLong RX7 218 (10) : Cond) ∈ wsX7_loss := List.mem_of_getElem? (i := 4) rfl
theorem in_X7_loss_X0 : ∀ w ∈ wsX00, w ∈ wsX7_loss := fun w h => List.mem_cons_of_mem _ (List.mem_append_left _ (List.mem_append_right _ h))
theorem in_X7_loss_X7 : ∀ w ∈ wsX70, w ∈ wsX7_loss := fun w h => List.mem_cons_of_mem _ (List.mem_append_left _ (List.mem_append_left _ (List.mem_append_right _ h)))
abbrev rm_X7_loss : Room := { frames := 5, cells := 0, slots := 0, locals := 154 }
set_option maxHeartbeats 4000000 in
set_option maxRecDepth 100000 in
theorem c_X7_loss (l : Launch) (D : va_G) (cyI cyZ cyT : ClassId) (qa : Nat → Nat) (N : Nat) (a1 : Int32) (X : BX) (o : Int32) (hf : f_X7_loss N a1 X = some o) : Met l yX7_loss wsX7_loss rm_X7_loss (va_Pc [.ref (qa 0), .int a1] (jB D cyI cyZ cyT (wX cyI cyZ cyT qa X))) (jSi o) 0 0 (fun _ => False) := by
  refine Met.ofW (cc := cX7_loss) (maxL := 5) (ret := (some .int)) (by decide) rfl ?_
  intro p e s m args below meth c s₁ B hml hv
  obtain ⟨rfl, hP, hK⟩ := hv
  have hx := B.exec
  have hb := B.bytes
  have hr := B.returns
  have hts := atoms_spec (ws := wsX7_loss) B.pre
  have hown : s.vm.findClass RX7 = some m.cls := findClass_of_methodNamed B.named
  have hlocks := B.notSynchronized
  have hl := lv_entry ([.ref (qa 0), .int a1]) (n := 5) (Nat.le_of_ble_eq_true rfl)
  rw [lg_entry_eq]
  generalize (lg_sl ([.ref (qa 0), .int a1]) ++ List.replicate (5 - (lg_sl ([.ref (qa 0), .int a1])).length) Slot.unset).toArray = ls at hl ⊢
  have hl : lv_has ls 5 [(0, .ref (qa 0)), (1, .int a1)] := hl
  clear B
  generalize ([.ref (qa 0), .int a1] : List Value).toArray = args at hts ⊢
  have key : ∀ (H : Heap), va_P D vwCl (wX cyI cyZ cyT qa X) H → H = s.heap → W p l e rm_X7_loss s m args below meth c H [] 0 0 (MQ below (jSi o) args s 0 0 (fun _ => False)) (F0 m 0 ls []) := by
    intro H hP hH
    have h := hf
    unfold f_X7_loss at h
    refine lv_iload_n hx hb dX7_loss_0 rfl (lv_at hl 1 rfl) ?_
    obtain ⟨z1, hz1, h⟩ := jb h
    refine jki (jrS (As := [.int a1]) (rest := []) ⟨hx, hb, hml, hown, hts⟩ (c_X7_isPart l D cyI cyZ cyT   a1 z1 hz1) (va_cwS 1 hts gX7_loss_X7_isPart rfl rfl rfl (by decide +kernel) ⟨Nat.le_of_ble_eq_true rfl, Nat.le_of_ble_eq_true rfl⟩) hK jP0 rfl rfl hl.1 (Nat.le_of_ble_eq_true rfl) dX7_loss_1 ⟨Nat.le_of_ble_eq_true rfl, Nat.le_of_ble_eq_true rfl⟩) ?_
    clear hz1
    refine lv_if_ne (tgt := 10) hx hb dX7_loss_4 (by decide) (fun c2 => ?_) (fun c2 => ?_)
    · have h := jf c2 h
      refine lv_aload_n hx hb dX7_loss_10 rfl (lv_at hl 0 rfl) ?_
      refine va_get (D := D) (ci := 7) (v := .ref (qa 22)) (C := RX7) (T := TX7) (N := 10) hx hb hts in_X7_loss_X7 hown hK.1 hP 0 rfl rfl 3 (by decide) (hts _ kw_X7_loss_1) (fun _ h9 => h9) rfl dX7_loss_11 ?_
      refine lv_aload_n hx hb dX7_loss_14 rfl (lv_at hl 0 rfl) ?_
      refine va_get (D := D) (ci := 7) (v := .ref (qa 4)) (C := RX7) (T := TX7) (N := 10) hx hb hts in_X7_loss_X7 hown hK.1 hP 0 rfl rfl 1 (by decide) (hts _ kw_X7_loss_2) (fun _ h9 => h9) rfl dX7_loss_15 ?_
      refine va_get (D := D) (ci := 0) (v := .int ((X.1 1).2 1)) (C := RX0) (T := TX0) (N := 12) hx hb hts in_X7_loss_X0 hown hK.1 hP 4 rfl rfl 9 (by decide) (hts _ kw_X7_loss_3) (fun _ h9 => h9) rfl dX7_loss_18 ?_
      obtain ⟨z3, hz3, h⟩ := jb h
      refine jki (jrV (As := [.int ((X.1 1).2 1)]) (rest := []) ⟨hx, hb, hml, hown, hts⟩ (c_X4_isWhole l D cyI cyZ cyT (fun k => qa (22 + k))  N ((X.1 1).2 1) (X.1 3) z3 hz3) (cwV 1 hts gX7_loss_X4_isWhole rfl rfl rfl (by decide +kernel) ⟨Nat.le_of_ble_eq_true rfl, Nat.le_of_ble_eq_true rfl⟩) hK (hP.sub (ws' := wT cyI (fun k => qa (22 + k)) (X.1 3)) [22, 23] rfl) rfl 4 0 rfl rfl rfl hl.1 (Nat.le_of_ble_eq_true rfl) dX7_loss_21 ⟨Nat.le_of_ble_eq_true rfl, Nat.le_of_ble_eq_true rfl⟩) ?_
      clear hz3
      refine lv_if_ne (tgt := 30) hx hb dX7_loss_24 (by decide) (fun c4 => ?_) (fun c4 => ?_)
      · have h := jf c4 h
        refine lv_lconst (v := (0 : Int64)) hx hb dX7_loss_30 (by decide) ?_
        refine lv_lstore_n (lv' := [(2, .long (0 : Int64)), (0, .ref (qa 0)), (1, .int a1)]) hx hb dX7_loss_31 rfl hl (by decide) rfl (fun ls hl => ?_)
        refine lv_iconst (v := (0 : Int32)) hx hb dX7_loss_32 (by decide) ?_
        refine lv_istore (lv' := [(4, .int (0 : Int32)), (2, .long (0 : Int64)), (0, .ref (qa 0)), (1, .int a1)]) hx hb dX7_loss_33 hl (by decide) rfl (fun ls hl => ?_)
        obtain ⟨r5, hz5, h5_⟩ := jb h
        have hex5 : ∀ e5 : Int64, r5 = e5 → ∀ (ls : Array Slot), lv_has ls 5 [(0, .ref (qa 0)), (1, .int a1), (2, .long e5)] → W p l e rm_X7_loss s m args below meth c H [] 0 0 (MQ below (jSi o) args s 0 0 (fun _ => False)) (F0 m 84 ls []) := by
          intro e5 he ls hl
          rw [he] at h5_
          have h := h5_
          clear hz5
          refine lv_lload_n hx hb dX7_loss_84 rfl (lv_at hl 2 rfl) ?_
          refine lv_aload_n hx hb dX7_loss_85 rfl (lv_at hl 0 rfl) ?_
          refine va_get (D := D) (ci := 7) (v := .ref (qa 4)) (C := RX7) (T := TX7) (N := 10) hx hb hts in_X7_loss_X7 hown hK.1 hP 0 rfl rfl 1 (by decide) (hts _ kw_X7_loss_2) (fun _ h9 => h9) rfl dX7_loss_86 ?_
          refine va_get (D := D) (ci := 0) (v := .int ((X.1 1).2 1)) (C := RX0) (T := TX0) (N := 12) hx hb hts in_X7_loss_X0 hown hK.1 hP 4 rfl rfl 9 (by decide) (hts _ kw_X7_loss_3) (fun _ h9 => h9) rfl dX7_loss_89 ?_
          obtain ⟨z10, hz10, h⟩ := jb h
          refine jkl (jrS (As := [.int ((X.1 1).2 1)]) (rest := [.long e5]) ⟨hx, hb, hml, hown, hts⟩ (c_X7_tenTo l D cyI cyZ cyT   N ((X.1 1).2 1) z10 hz10) (va_cwS 1 hts gX7_loss_X7_tenTo rfl rfl rfl (by decide +kernel) ⟨Nat.le_of_ble_eq_true rfl, Nat.le_of_ble_eq_true rfl⟩) hK jP0 rfl rfl hl.1 (Nat.le_of_ble_eq_true rfl) dX7_loss_92 ⟨Nat.le_of_ble_eq_true rfl, Nat.le_of_ble_eq_true rfl⟩) ?_
          clear hz10
          refine lv_iload_n hx hb dX7_loss_95 rfl (lv_at hl 1 rfl) ?_
          obtain ⟨z11, hz11, h⟩ := jb h
          refine jkl (jrS (As := [.long e5, .long z10, .int a1]) (rest := []) ⟨hx, hb, hml, hown, hts⟩ (c_X7_partOf l D cyI cyZ cyT   N e5 z10 a1 z11 hz11) (va_cwS 3 hts gX7_loss_X7_partOf rfl rfl rfl (by decide +kernel) ⟨Nat.le_of_ble_eq_true rfl, Nat.le_of_ble_eq_true rfl⟩) hK jP0 rfl rfl hl.1 (Nat.le_of_ble_eq_true rfl) dX7_loss_96 ⟨Nat.le_of_ble_eq_true rfl, Nat.le_of_ble_eq_true rfl⟩) ?_
          clear hz11
          refine lv_l2i (v := z11.toInt32) hx hb dX7_loss_99 rfl ?_
          exact W.iret hx hb hr (fun t ht _ => ⟨_, rfl, Option.some.inj h, ht.trans hH⟩) (fun q h => by cases h) dX7_loss_100 hlocks
        have hlp5 : ∀ (nn : Nat) (z5 : (Int64 × Int32)), jw (X7_loss_s35 N X) nn z5 = some r5 → ∀ (ls : Array Slot), lv_has ls 5 [(0, .ref (qa 0)), (1, .int a1), (2, .long z5.1), (4, .int z5.2)] → W p l e rm_X7_loss s m args below meth c H [] 0 0 (MQ below (jSi o) args s 0 0 (fun _ => False)) (F0 m 35 ls []) := by
          refine jw_P (r := r5) (P := fun z5 : (Int64 × Int32) => ∀ (ls : Array Slot), lv_has ls 5 [(0, .ref (qa 0)), (1, .int a1), (2, .long z5.1), (4, .int z5.2)] → W p l e rm_X7_loss s m args below meth c H [] 0 0 (MQ below (jSi o) args s 0 0 (fun _ => False)) (F0 m 35 ls [])) ?_
          intro z5 x5 h hin hout ls hl
          unfold X7_loss_s35 at h
          refine lv_iload hx hb dX7_loss_35 (lv_at hl 3 rfl) ?_
          refine lv_aload_n hx hb dX7_loss_37 rfl (lv_at hl 0 rfl) ?_
          refine va_get (D := D) (ci := 7) (v := .ref (qa 4)) (C := RX7) (T := TX7) (N := 10) hx hb hts in_X7_loss_X7 hown hK.1 hP 0 rfl rfl 1 (by decide) (hts _ kw_X7_loss_2) (fun _ h9 => h9) rfl dX7_loss_38 ?_
          refine va_get (D := D) (ci := 0) (v := .int ((X.1 1).2 1)) (C := RX0) (T := TX0) (N := 12) hx hb hts in_X7_loss_X0 hown hK.1 hP 4 rfl rfl 9 (by decide) (hts _ kw_X7_loss_3) (fun _ h9 => h9) rfl dX7_loss_41 ?_
          refine lv_icmp_ge (tgt := 84) hx hb dX7_loss_44 (by decide) (fun c6 => ?_) (fun c6 => ?_)
          · have h := jt c6 h
            exact hex5 _ (hout _ (Option.some.inj h).symm).symm ls (lv_sub hl [0, 1, 2] rfl)
          · have h := jf c6 h
            refine lv_ldc2 (v := (10 : Int64)) hx hb hown (hts _ kw_X7_loss_4) dX7_loss_47 ?_
            refine lv_lload_n hx hb dX7_loss_50 rfl (lv_at hl 2 rfl) ?_
            refine lv_lmul hx hb dX7_loss_51 ?_
            refine lv_aload_n hx hb dX7_loss_52 rfl (lv_at hl 0 rfl) ?_
            refine va_get (D := D) (ci := 7) (v := .ref (qa 4)) (C := RX7) (T := TX7) (N := 10) hx hb hts in_X7_loss_X7 hown hK.1 hP 0 rfl rfl 1 (by decide) (hts _ kw_X7_loss_2) (fun _ h9 => h9) rfl dX7_loss_53 ?_
            refine lv_aload_n hx hb dX7_loss_56 rfl (lv_at hl 0 rfl) ?_
            refine va_get (D := D) (ci := 7) (v := .ref (qa 22)) (C := RX7) (T := TX7) (N := 10) hx hb hts in_X7_loss_X7 hown hK.1 hP 0 rfl rfl 3 (by decide) (hts _ kw_X7_loss_1) (fun _ h9 => h9) rfl dX7_loss_57 ?_
            refine lv_iload hx hb dX7_loss_60 (lv_at hl 3 rfl) ?_
            obtain ⟨z7, hz7, h⟩ := jb h
            refine jki (jrV (As := [.int z5.2]) (rest := [.ref (qa 4), .long ((10 : Int64) * z5.1)]) ⟨hx, hb, hml, hown, hts⟩ (c_X4_doerOf l D cyI cyZ cyT (fun k => qa (22 + k))  z5.2 (X.1 3) z7 hz7) (cwV 1 hts gX7_loss_X4_doerOf rfl rfl rfl (by decide +kernel) ⟨Nat.le_of_ble_eq_true rfl, Nat.le_of_ble_eq_true rfl⟩) hK (hP.sub (ws' := wT cyI (fun k => qa (22 + k)) (X.1 3)) [22, 23] rfl) rfl 4 0 rfl rfl rfl hl.1 (Nat.le_of_ble_eq_true rfl) dX7_loss_62 ⟨Nat.le_of_ble_eq_true rfl, Nat.le_of_ble_eq_true rfl⟩) ?_
            clear hz7
            obtain ⟨z8, hz8, h⟩ := jb h
            refine jki (jrV (As := [.int z7]) (rest := [.long ((10 : Int64) * z5.1)]) ⟨hx, hb, hml, hown, hts⟩ (c_X0_fearOf l D cyI cyZ cyT (fun k => qa (4 + k))  z7 (X.1 1) z8 hz8) (cwV 1 hts gX7_loss_X0_fearOf rfl rfl rfl (by decide +kernel) ⟨Nat.le_of_ble_eq_true rfl, Nat.le_of_ble_eq_true rfl⟩) hK (hP.sub (ws' := wH cyI (fun k => qa (4 + k)) (X.1 1)) [4, 5, 6, 7, 8, 9, 10, 11, 12] rfl) rfl 0 0 rfl rfl rfl hl.1 (Nat.le_of_ble_eq_true rfl) dX7_loss_65 ⟨Nat.le_of_ble_eq_true rfl, Nat.le_of_ble_eq_true rfl⟩) ?_
            clear hz8
            refine lv_i2l (v := z8.toInt64) hx hb dX7_loss_68 rfl ?_
            refine lv_aload_n hx hb dX7_loss_69 rfl (lv_at hl 0 rfl) ?_
            refine lv_iload hx hb dX7_loss_70 (lv_at hl 3 rfl) ?_
            obtain ⟨z9, hz9, h⟩ := jb h
            refine jkl (jrV (As := [.int z5.2]) (rest := [.long z8.toInt64, .long ((10 : Int64) * z5.1)]) ⟨hx, hb, hml, hown, hts⟩ (c_X7_caughtAt l D cyI cyZ cyT qa  N z5.2 X z9 hz9) (cwV 1 hts gX7_loss_X7_caughtAt rfl rfl rfl (by decide +kernel) ⟨Nat.le_of_ble_eq_true rfl, Nat.le_of_ble_eq_true rfl⟩) hK hP rfl 7 0 rfl rfl rfl hl.1 (Nat.le_of_ble_eq_true rfl) dX7_loss_72 ⟨Nat.le_of_ble_eq_true rfl, Nat.le_of_ble_eq_true rfl⟩) ?_
            clear hz9
            refine lv_lmul hx hb dX7_loss_75 ?_
            refine lv_ladd hx hb dX7_loss_76 ?_
            refine lv_lstore_n (lv' := [(2, .long (((10 : Int64) * z5.1) + (z8.toInt64 * z9))), (0, .ref (qa 0)), (1, .int a1), (4, .int z5.2)]) hx hb dX7_loss_77 rfl hl (by decide) rfl (fun ls hl => ?_)
            refine lv_iinc (v := z5.2 + (1 : Int32)) (lv' := [(4, .int (z5.2 + (1 : Int32))), (2, .long (((10 : Int64) * z5.1) + (z8.toInt64 * z9))), (0, .ref (qa 0)), (1, .int a1)]) hx hb dX7_loss_78 hl (k := 3) rfl rfl (by decide) rfl (fun ls hl => ?_)
            refine lv_goto (tgt := 35) hx hb dX7_loss_81 (by decide) ?_
            exact hin _ (Option.some.inj h).symm ls (lv_sub hl [2, 3, 1, 0] rfl)
        exact hlp5 _ _ hz5 ls (lv_sub hl [2, 3, 1, 0] rfl)
      · have h := jt c4 h
        refine lv_bipush (v := (-4 : Int32)) hx hb dX7_loss_27 (by decide) ?_
        exact W.iret hx hb hr (fun t ht _ => ⟨_, rfl, Option.some.inj h, ht.trans hH⟩) (fun q h => by cases h) dX7_loss_29 hlocks
    · have h := jt c2 h
      refine lv_bipush (v := (-3 : Int32)) hx hb dX7_loss_7 (by decide) ?_
      exact W.iret hx hb hr (fun t ht _ => ⟨_, rfl, Option.some.inj h, ht.trans hH⟩) (fun q h => by cases h) dX7_loss_9 hlocks
  exact key s.heap hP rfl
theorem kw_X7_mouse_1 : (.fieldLink RX7 19 "BellTheCat" "told" "LBellTheCat$House;" : Cond) ∈ wsX7_mouse := List.mem_of_getElem? (i := 1) rfl
theorem kw_X7_mouse_2 : (.fieldLink RX7 108 "BellTheCat$House" "kinds" "[I" : Cond) ∈ wsX7_mouse := List.mem_of_getElem? (i := 2) rfl
theorem kw_X7_mouse_3 : (.fieldLink RX7 112 "BellTheCat$House" "speeds" "[I" : Cond) ∈ wsX7_mouse := List.mem_of_getElem? (i := 3) rfl
theorem kw_X7_mouse_4 : (.fieldLink RX7 115 "BellTheCat$House" "fears" "[I" : Cond) ∈ wsX7_mouse := List.mem_of_getElem? (i := 4) rfl
theorem kw_X7_mouse_5 : (.fieldLink RX7 118 "BellTheCat$House" "tickets" "[I" : Cond) ∈ wsX7_mouse := List.mem_of_getElem? (i := 5) rfl
theorem kw_X7_mouse_6 : (.fieldLink RX7 29 "BellTheCat" "now" "LBellTheCat$Team;" : Cond) ∈ wsX7_mouse := List.mem_of_getElem? (i := 6) rfl
theorem in_X7_mouse_X0 : ∀ w ∈ wsX00, w ∈ wsX7_mouse := fun w h => List.mem_cons_of_mem _ (List.mem_append_left _ (List.mem_append_right _ h))
theorem in_X7_mouse_X7 : ∀ w ∈ wsX70, w ∈ wsX7_mouse := fun w h => List.mem_cons_of_mem _ (List.mem_append_left _ (List.mem_append_left _ (List.mem_append_right _ h)))
abbrev rm_X7_mouse : Room := { frames := 1, cells := 0, slots := 0, locals := 23 }
set_option maxHeartbeats 4000000 in
set_option maxRecDepth 100000 in
theorem c_X7_mouse (l : Launch) (D : va_G) (cyI cyZ cyT : ClassId) (qa : Nat → Nat) (N : Nat) (a1 : Int32) (a2 : Int32) (X : BX) (o : Int32) (hf : f_X7_mouse N a1 a2 X = some o) : Met l yX7_mouse wsX7_mouse rm_X7_mouse (va_Pc [.ref (qa 0), .int a1, .int a2] (jB D cyI cyZ cyT (wX cyI cyZ cyT qa X))) (jSi o) 0 0 (fun _ => False) := by
  refine Met.ofW (cc := cX7_mouse) (maxL := 3) (ret := (some .int)) (by decide) rfl ?_
  intro p e s m args below meth c s₁ B hml hv
  obtain ⟨rfl, hP, hK⟩ := hv
  have hx := B.exec
  have hb := B.bytes
  have hr := B.returns
  have hts := atoms_spec (ws := wsX7_mouse) B.pre
  have hown : s.vm.findClass RX7 = some m.cls := findClass_of_methodNamed B.named
  have hlocks := B.notSynchronized
  have hl := lv_entry ([.ref (qa 0), .int a1, .int a2]) (n := 3) (Nat.le_of_ble_eq_true rfl)
  rw [lg_entry_eq]
  generalize (lg_sl ([.ref (qa 0), .int a1, .int a2]) ++ List.replicate (3 - (lg_sl ([.ref (qa 0), .int a1, .int a2])).length) Slot.unset).toArray = ls at hl ⊢
  have hl : lv_has ls 3 [(0, .ref (qa 0)), (1, .int a1), (2, .int a2)] := hl
  clear B
  generalize ([.ref (qa 0), .int a1, .int a2] : List Value).toArray = args at hts ⊢
  have key : ∀ (H : Heap), va_P D vwCl (wX cyI cyZ cyT qa X) H → H = s.heap → W p l e rm_X7_mouse s m args below meth c H [] 0 0 (MQ below (jSi o) args s 0 0 (fun _ => False)) (F0 m 0 ls []) := by
    intro H hP hH
    have h := hf
    unfold f_X7_mouse at h
    refine lv_aload_n hx hb dX7_mouse_0 rfl (lv_at hl 0 rfl) ?_
    refine va_get (D := D) (ci := 7) (v := .ref (qa 4)) (C := RX7) (T := TX7) (N := 10) hx hb hts in_X7_mouse_X7 hown hK.1 hP 0 rfl rfl 1 (by decide) (hts _ kw_X7_mouse_1) (fun _ h9 => h9) rfl dX7_mouse_1 ?_
    refine lv_iload_n hx hb dX7_mouse_4 rfl (lv_at hl 1 rfl) ?_
    obtain ⟨z1, hz1, h⟩ := jb h
    refine jki (jrV (As := [.int a1]) (rest := []) ⟨hx, hb, hml, hown, hts⟩ (c_X0_hasMouse l D cyI cyZ cyT (fun k => qa (4 + k))  a1 (X.1 1) z1 hz1) (cwV 1 hts gX7_mouse_X0_hasMouse rfl rfl rfl (by decide +kernel) ⟨Nat.le_of_ble_eq_true rfl, Nat.le_of_ble_eq_true rfl⟩) hK (hP.sub (ws' := wH cyI (fun k => qa (4 + k)) (X.1 1)) [4, 5, 6, 7, 8, 9, 10, 11, 12] rfl) rfl 0 0 rfl rfl rfl hl.1 (Nat.le_of_ble_eq_true rfl) dX7_mouse_5 ⟨Nat.le_of_ble_eq_true rfl, Nat.le_of_ble_eq_true rfl⟩) ?_
    clear hz1
    refine lv_if_ne (tgt := 14) hx hb dX7_mouse_8 (by decide) (fun c2 => ?_) (fun c2 => ?_)
    · have h := jf c2 h
      refine lv_iload_n hx hb dX7_mouse_14 rfl (lv_at hl 2 rfl) ?_
      by_cases c3 : a2 = (0 : Int32)
      · have h := jt c3 h
        refine lv_tableIn (off := 37) (tgt := 52) hx hb dX7_mouse_15 (by rw [c3]; decide) (by rw [c3]; decide) (by rw [c3]; rfl) (by decide) ?_
        refine lv_aload_n hx hb dX7_mouse_52 rfl (lv_at hl 0 rfl) ?_
        refine va_get (D := D) (ci := 7) (v := .ref (qa 4)) (C := RX7) (T := TX7) (N := 10) hx hb hts in_X7_mouse_X7 hown hK.1 hP 0 rfl rfl 1 (by decide) (hts _ kw_X7_mouse_1) (fun _ h9 => h9) rfl dX7_mouse_53 ?_
        refine va_get (D := D) (ci := 0) (v := .ref (qa 5)) (C := RX0) (T := TX0) (N := 12) hx hb hts in_X7_mouse_X0 hown hK.1 hP 4 rfl rfl 0 (by decide) (hts _ kw_X7_mouse_2) (fun _ h9 => h9) rfl dX7_mouse_56 ?_
        refine lv_iload_n hx hb dX7_mouse_59 rfl (lv_at hl 1 rfl) ?_
        obtain ⟨g4, h⟩ := jn h
        refine jald hx hb hK hP 5 rfl _ rfl g4 dX7_mouse_60 ?_
        exact W.iret hx hb hr (fun t ht _ => ⟨_, rfl, Option.some.inj h, ht.trans hH⟩) (fun q h => by cases h) dX7_mouse_61 hlocks
      have h := jf c3 h
      by_cases c5 : a2 = (1 : Int32)
      · have h := jt c5 h
        refine lv_tableIn (off := 47) (tgt := 62) hx hb dX7_mouse_15 (by rw [c5]; decide) (by rw [c5]; decide) (by rw [c5]; rfl) (by decide) ?_
        refine lv_aload_n hx hb dX7_mouse_62 rfl (lv_at hl 0 rfl) ?_
        refine va_get (D := D) (ci := 7) (v := .ref (qa 4)) (C := RX7) (T := TX7) (N := 10) hx hb hts in_X7_mouse_X7 hown hK.1 hP 0 rfl rfl 1 (by decide) (hts _ kw_X7_mouse_1) (fun _ h9 => h9) rfl dX7_mouse_63 ?_
        refine va_get (D := D) (ci := 0) (v := .ref (qa 6)) (C := RX0) (T := TX0) (N := 12) hx hb hts in_X7_mouse_X0 hown hK.1 hP 4 rfl rfl 1 (by decide) (hts _ kw_X7_mouse_3) (fun _ h9 => h9) rfl dX7_mouse_66 ?_
        refine lv_iload_n hx hb dX7_mouse_69 rfl (lv_at hl 1 rfl) ?_
        obtain ⟨g6, h⟩ := jn h
        refine jald hx hb hK hP 6 rfl _ rfl g6 dX7_mouse_70 ?_
        exact W.iret hx hb hr (fun t ht _ => ⟨_, rfl, Option.some.inj h, ht.trans hH⟩) (fun q h => by cases h) dX7_mouse_71 hlocks
      have h := jf c5 h
      by_cases c7 : a2 = (2 : Int32)
      · have h := jt c7 h
        refine lv_tableIn (off := 57) (tgt := 72) hx hb dX7_mouse_15 (by rw [c7]; decide) (by rw [c7]; decide) (by rw [c7]; rfl) (by decide) ?_
        refine lv_aload_n hx hb dX7_mouse_72 rfl (lv_at hl 0 rfl) ?_
        refine va_get (D := D) (ci := 7) (v := .ref (qa 4)) (C := RX7) (T := TX7) (N := 10) hx hb hts in_X7_mouse_X7 hown hK.1 hP 0 rfl rfl 1 (by decide) (hts _ kw_X7_mouse_1) (fun _ h9 => h9) rfl dX7_mouse_73 ?_
        refine va_get (D := D) (ci := 0) (v := .ref (qa 7)) (C := RX0) (T := TX0) (N := 12) hx hb hts in_X7_mouse_X0 hown hK.1 hP 4 rfl rfl 2 (by decide) (hts _ kw_X7_mouse_4) (fun _ h9 => h9) rfl dX7_mouse_76 ?_
        refine lv_iload_n hx hb dX7_mouse_79 rfl (lv_at hl 1 rfl) ?_
        obtain ⟨g8, h⟩ := jn h
        refine jald hx hb hK hP 7 rfl _ rfl g8 dX7_mouse_80 ?_
        exact W.iret hx hb hr (fun t ht _ => ⟨_, rfl, Option.some.inj h, ht.trans hH⟩) (fun q h => by cases h) dX7_mouse_81 hlocks
      have h := jf c7 h
      by_cases c9 : a2 = (3 : Int32)
      · have h := jt c9 h
        refine lv_tableIn (off := 67) (tgt := 82) hx hb dX7_mouse_15 (by rw [c9]; decide) (by rw [c9]; decide) (by rw [c9]; rfl) (by decide) ?_
        refine lv_aload_n hx hb dX7_mouse_82 rfl (lv_at hl 0 rfl) ?_
        refine va_get (D := D) (ci := 7) (v := .ref (qa 4)) (C := RX7) (T := TX7) (N := 10) hx hb hts in_X7_mouse_X7 hown hK.1 hP 0 rfl rfl 1 (by decide) (hts _ kw_X7_mouse_1) (fun _ h9 => h9) rfl dX7_mouse_83 ?_
        refine va_get (D := D) (ci := 0) (v := .ref (qa 8)) (C := RX0) (T := TX0) (N := 12) hx hb hts in_X7_mouse_X0 hown hK.1 hP 4 rfl rfl 3 (by decide) (hts _ kw_X7_mouse_5) (fun _ h9 => h9) rfl dX7_mouse_86 ?_
        refine lv_iload_n hx hb dX7_mouse_89 rfl (lv_at hl 1 rfl) ?_
        obtain ⟨g10, h⟩ := jn h
        refine jald hx hb hK hP 8 rfl _ rfl g10 dX7_mouse_90 ?_
        exact W.iret hx hb hr (fun t ht _ => ⟨_, rfl, Option.some.inj h, ht.trans hH⟩) (fun q h => by cases h) dX7_mouse_91 hlocks
      have h := jf c9 h
      by_cases c11 : a2 = (4 : Int32)
      · have h := jt c11 h
        refine lv_tableIn (off := 77) (tgt := 92) hx hb dX7_mouse_15 (by rw [c11]; decide) (by rw [c11]; decide) (by rw [c11]; rfl) (by decide) ?_
        refine lv_aload_n hx hb dX7_mouse_92 rfl (lv_at hl 0 rfl) ?_
        refine va_get (D := D) (ci := 7) (v := .ref (qa 22)) (C := RX7) (T := TX7) (N := 10) hx hb hts in_X7_mouse_X7 hown hK.1 hP 0 rfl rfl 3 (by decide) (hts _ kw_X7_mouse_6) (fun _ h9 => h9) rfl dX7_mouse_93 ?_
        refine lv_iload_n hx hb dX7_mouse_96 rfl (lv_at hl 1 rfl) ?_
        obtain ⟨z12, hz12, h⟩ := jb h
        refine jki (jrV (As := [.int a1]) (rest := []) ⟨hx, hb, hml, hown, hts⟩ (c_X4_lives l D cyI cyZ cyT (fun k => qa (22 + k))  a1 (X.1 3) z12 hz12) (cwV 1 hts gX7_mouse_X4_lives rfl rfl rfl (by decide +kernel) ⟨Nat.le_of_ble_eq_true rfl, Nat.le_of_ble_eq_true rfl⟩) hK (hP.sub (ws' := wT cyI (fun k => qa (22 + k)) (X.1 3)) [22, 23] rfl) rfl 4 0 rfl rfl rfl hl.1 (Nat.le_of_ble_eq_true rfl) dX7_mouse_97 ⟨Nat.le_of_ble_eq_true rfl, Nat.le_of_ble_eq_true rfl⟩) ?_
        clear hz12
        refine lv_if_eq (tgt := 107) hx hb dX7_mouse_100 (by decide) (fun c13 => ?_) (fun c13 => ?_)
        · have h := jt c13 h
          refine lv_iconst (v := (0 : Int32)) hx hb dX7_mouse_107 (by decide) ?_
          exact W.iret hx hb hr (fun t ht _ => ⟨_, rfl, Option.some.inj h, ht.trans hH⟩) (fun q h => by cases h) dX7_mouse_108 hlocks
        · have h := jf c13 h
          refine lv_iconst (v := (1 : Int32)) hx hb dX7_mouse_103 (by decide) ?_
          refine lv_goto (tgt := 108) hx hb dX7_mouse_104 (by decide) ?_
          exact W.iret hx hb hr (fun t ht _ => ⟨_, rfl, Option.some.inj h, ht.trans hH⟩) (fun q h => by cases h) dX7_mouse_108 hlocks
      have h := jf c11 h
      by_cases c14 : a2 = (5 : Int32)
      · have h := jt c14 h
        refine lv_tableIn (off := 94) (tgt := 109) hx hb dX7_mouse_15 (by rw [c14]; decide) (by rw [c14]; decide) (by rw [c14]; rfl) (by decide) ?_
        refine lv_aload_n hx hb dX7_mouse_109 rfl (lv_at hl 0 rfl) ?_
        refine va_get (D := D) (ci := 7) (v := .ref (qa 22)) (C := RX7) (T := TX7) (N := 10) hx hb hts in_X7_mouse_X7 hown hK.1 hP 0 rfl rfl 3 (by decide) (hts _ kw_X7_mouse_6) (fun _ h9 => h9) rfl dX7_mouse_110 ?_
        refine lv_iload_n hx hb dX7_mouse_113 rfl (lv_at hl 1 rfl) ?_
        obtain ⟨z15, hz15, h⟩ := jb h
        refine jki (jrV (As := [.int a1]) (rest := []) ⟨hx, hb, hml, hown, hts⟩ (c_X4_stepsOf l D cyI cyZ cyT (fun k => qa (22 + k))  N a1 (X.1 3) z15 hz15) (cwV 1 hts gX7_mouse_X4_stepsOf rfl rfl rfl (by decide +kernel) ⟨Nat.le_of_ble_eq_true rfl, Nat.le_of_ble_eq_true rfl⟩) hK (hP.sub (ws' := wT cyI (fun k => qa (22 + k)) (X.1 3)) [22, 23] rfl) rfl 4 0 rfl rfl rfl hl.1 (Nat.le_of_ble_eq_true rfl) dX7_mouse_114 ⟨Nat.le_of_ble_eq_true rfl, Nat.le_of_ble_eq_true rfl⟩) ?_
        clear hz15
        exact W.iret hx hb hr (fun t ht _ => ⟨_, rfl, Option.some.inj h, ht.trans hH⟩) (fun q h => by cases h) dX7_mouse_117 hlocks
      have h := jf c14 h
      refine lv_tableOut (tgt := 118) hx hb dX7_mouse_15 (by have d0 := jne (z := 0) rfl c3; have d1 := jne (z := 1) rfl c5; have d2 := jne (z := 2) rfl c7; have d3 := jne (z := 3) rfl c9; have d4 := jne (z := 4) rfl c11; have d5 := jne (z := 5) rfl c14; omega) (by decide) ?_
      refine lv_bipush (v := (-3 : Int32)) hx hb dX7_mouse_118 (by decide) ?_
      exact W.iret hx hb hr (fun t ht _ => ⟨_, rfl, Option.some.inj h, ht.trans hH⟩) (fun q h => by cases h) dX7_mouse_120 hlocks
    · have h := jt c2 h
      refine lv_bipush (v := (-2 : Int32)) hx hb dX7_mouse_11 (by decide) ?_
      exact W.iret hx hb hr (fun t ht _ => ⟨_, rfl, Option.some.inj h, ht.trans hH⟩) (fun q h => by cases h) dX7_mouse_13 hlocks
  exact key s.heap hP rfl
theorem kw_X7_night_1 : (.fieldLink RX7 29 "BellTheCat" "now" "LBellTheCat$Team;" : Cond) ∈ wsX7_night := List.mem_of_getElem? (i := 1) rfl
theorem kw_X7_night_2 : (.fieldLink RX7 174 "BellTheCat$Team" "belled" "Z" : Cond) ∈ wsX7_night := List.mem_of_getElem? (i := 2) rfl
theorem kw_X7_night_3 : (.fieldLink RX7 19 "BellTheCat" "told" "LBellTheCat$House;" : Cond) ∈ wsX7_night := List.mem_of_getElem? (i := 3) rfl
theorem kw_X7_night_4 : (.fieldLink RX7 178 "BellTheCat$House" "stepCount" "I" : Cond) ∈ wsX7_night := List.mem_of_getElem? (i := 4) rfl
theorem kw_X7_night_5 : (.fieldLink RX7 184 "BellTheCat$Team" "nights" "I" : Cond) ∈ wsX7_night := List.mem_of_getElem? (i := 5) rfl
theorem kw_X7_night_6 : (.fieldLink RX7 36 "BellTheCat" "latest" "LBellTheCat$Undo;" : Cond) ∈ wsX7_night := List.mem_of_getElem? (i := 6) rfl
theorem in_X7_night_X0 : ∀ w ∈ wsX00, w ∈ wsX7_night := fun w h => List.mem_cons_of_mem _ (List.mem_append_left _ (List.mem_append_right _ h))
theorem in_X7_night_X4 : ∀ w ∈ wsX40, w ∈ wsX7_night := fun w h => List.mem_cons_of_mem _ (List.mem_append_left _ (List.mem_append_left _ (List.mem_append_right _ h)))
theorem in_X7_night_X7 : ∀ w ∈ wsX70, w ∈ wsX7_night := fun w h => List.mem_cons_of_mem _ (List.mem_append_left _ (List.mem_append_left _ (List.mem_append_left _ (List.mem_append_right _ h))))
abbrev rm_X7_night : Room := { frames := 4, cells := 0, slots := 0, locals := 132 }
set_option maxHeartbeats 4000000 in
set_option maxRecDepth 100000 in
theorem c_X7_night (l : Launch) (D : va_G) (cyI cyZ cyT : ClassId) (qa : Nat → Nat) (sz : Nat) (N : Nat) (a1 : Int32) (X : BX) (o : (Int32 × BX)) (hf : f_X7_night N a1 X = some o) : Met l yX7_night wsX7_night rm_X7_night (va_Pc [.ref (qa 0), .int a1] (jM D cyI cyZ cyT (wX cyI cyZ cyT qa X) sz)) (jQi D (va_A (wX cyI cyZ cyT qa X) sz) (fun u : BX => wX cyI cyZ cyT qa u) o) 0 0 (va_A (wX cyI cyZ cyT qa X) sz) := by
  refine Met.ofW (cc := cX7_night) (maxL := 3) (ret := (some .int)) (by decide) rfl ?_
  intro p e s m args below meth c s₁ B hml hv
  obtain ⟨rfl, hsz, hP, hK, hD0⟩ := hv
  have hx := B.exec
  have hb := B.bytes
  have hr := B.returns
  have hts := atoms_spec (ws := wsX7_night) B.pre
  have hown : s.vm.findClass RX7 = some m.cls := findClass_of_methodNamed B.named
  have hlocks := B.notSynchronized
  subst hsz
  have hD := hD0.self (sz := s.heap.size)
  generalize hAe : va_A (wX cyI cyZ cyT qa X) s.heap.size = A at hD ⊢
  have hA : ∀ q : Nat, s.heap.size ≤ q → A q := fun q h => by rw [← hAe]; exact Or.inr h
  have hS : va_S A s.heap s.heap [] := va_S.rf
  have hl := lv_entry ([.ref (qa 0), .int a1]) (n := 3) (Nat.le_of_ble_eq_true rfl)
  rw [lg_entry_eq]
  generalize (lg_sl ([.ref (qa 0), .int a1]) ++ List.replicate (3 - (lg_sl ([.ref (qa 0), .int a1])).length) Slot.unset).toArray = ls at hl ⊢
  have hl : lv_has ls 3 [(0, .ref (qa 0)), (1, .int a1)] := hl
  clear B
  generalize ([.ref (qa 0), .int a1] : List Value).toArray = args at hts ⊢
  have key : ∀ (H : Heap) (locs : List Loc), va_P D vwCl (wX cyI cyZ cyT qa X) H → va_D A (wX cyI cyZ cyT qa X) → va_S A s.heap H locs → W p l e rm_X7_night s m args below meth c H locs 0 0 (MQ below (jQi D A (fun u : BX => wX cyI cyZ cyT qa u) o) args s 0 0 A) (F0 m 0 ls []) := by
    intro H locs hP hD hS
    have h := hf
    unfold f_X7_night at h
    refine lv_iload_n hx hb dX7_night_0 rfl (lv_at hl 1 rfl) ?_
    refine lv_sipush (v := (9999 : Int32)) hx hb dX7_night_1 (by decide) ?_
    obtain ⟨z1, hz1, h⟩ := jb h
    refine jki (jrS (As := [.int a1, .int (9999 : Int32)]) (rest := []) ⟨hx, hb, hml, hown, hts⟩ (c_X7_within l D cyI cyZ cyT   a1 (9999 : Int32) z1 hz1) (va_cwS 2 hts gX7_night_X7_within rfl rfl rfl (by decide +kernel) ⟨Nat.le_of_ble_eq_true rfl, Nat.le_of_ble_eq_true rfl⟩) hK jP0 rfl rfl hl.1 (Nat.le_of_ble_eq_true rfl) dX7_night_4 ⟨Nat.le_of_ble_eq_true rfl, Nat.le_of_ble_eq_true rfl⟩) ?_
    clear hz1
    refine lv_if_ne (tgt := 13) hx hb dX7_night_7 (by decide) (fun c2 => ?_) (fun c2 => ?_)
    · have h := jf c2 h
      refine lv_aload_n hx hb dX7_night_13 rfl (lv_at hl 0 rfl) ?_
      refine va_get (D := D) (ci := 7) (v := .ref (qa 22)) (C := RX7) (T := TX7) (N := 10) hx hb hts in_X7_night_X7 hown hK.1 hP 0 rfl rfl 3 (by decide) (hts _ kw_X7_night_1) (fun _ h9 => h9) rfl dX7_night_14 ?_
      refine va_get (D := D) (ci := 4) (v := .int ((X.1 3).2 2)) (C := RX4) (T := TX4) (N := 4) hx hb hts in_X7_night_X4 hown hK.1 hP 22 rfl rfl 3 (by decide) (hts _ kw_X7_night_2) (fun _ h9 => h9) rfl dX7_night_17 ?_
      refine lv_if_ne (tgt := 40) hx hb dX7_night_20 (by decide) (fun c3 => ?_) (fun c3 => ?_)
      · have h := jf c3 h
        refine lv_bipush (v := (-4 : Int32)) hx hb dX7_night_40 (by decide) ?_
        exact W.iret hx hb hr (fun t ht _ => ⟨⟨_, _, rfl, Option.some.inj h, by rw [ht]; exact hP, hD⟩, hS.F ht⟩) hS.2.2 dX7_night_42 hlocks
      · have h := jt c3 h
        refine lv_aload_n hx hb dX7_night_23 rfl (lv_at hl 0 rfl) ?_
        refine va_get (D := D) (ci := 7) (v := .ref (qa 22)) (C := RX7) (T := TX7) (N := 10) hx hb hts in_X7_night_X7 hown hK.1 hP 0 rfl rfl 3 (by decide) (hts _ kw_X7_night_1) (fun _ h9 => h9) rfl dX7_night_24 ?_
        refine lv_aload_n hx hb dX7_night_27 rfl (lv_at hl 0 rfl) ?_
        refine va_get (D := D) (ci := 7) (v := .ref (qa 4)) (C := RX7) (T := TX7) (N := 10) hx hb hts in_X7_night_X7 hown hK.1 hP 0 rfl rfl 1 (by decide) (hts _ kw_X7_night_3) (fun _ h9 => h9) rfl dX7_night_28 ?_
        refine va_get (D := D) (ci := 0) (v := .int ((X.1 1).2 1)) (C := RX0) (T := TX0) (N := 12) hx hb hts in_X7_night_X0 hown hK.1 hP 4 rfl rfl 9 (by decide) (hts _ kw_X7_night_4) (fun _ h9 => h9) rfl dX7_night_31 ?_
        obtain ⟨z4, hz4, h⟩ := jb h
        refine jki (jrV (As := [.int ((X.1 1).2 1)]) (rest := []) ⟨hx, hb, hml, hown, hts⟩ (c_X4_isWhole l D cyI cyZ cyT (fun k => qa (22 + k))  N ((X.1 1).2 1) (X.1 3) z4 hz4) (cwV 1 hts gX7_night_X4_isWhole rfl rfl rfl (by decide +kernel) ⟨Nat.le_of_ble_eq_true rfl, Nat.le_of_ble_eq_true rfl⟩) hK (hP.sub (ws' := wT cyI (fun k => qa (22 + k)) (X.1 3)) [22, 23] rfl) rfl 4 0 rfl rfl rfl hl.1 (Nat.le_of_ble_eq_true rfl) dX7_night_34 ⟨Nat.le_of_ble_eq_true rfl, Nat.le_of_ble_eq_true rfl⟩) ?_
        clear hz4
        refine lv_if_ne (tgt := 43) hx hb dX7_night_37 (by decide) (fun c5 => ?_) (fun c5 => ?_)
        · have h := jf c5 h
          refine lv_aload_n hx hb dX7_night_43 rfl (lv_at hl 0 rfl) ?_
          refine va_get (D := D) (ci := 7) (v := .ref (qa 22)) (C := RX7) (T := TX7) (N := 10) hx hb hts in_X7_night_X7 hown hK.1 hP 0 rfl rfl 3 (by decide) (hts _ kw_X7_night_1) (fun _ h9 => h9) rfl dX7_night_44 ?_
          refine va_get (D := D) (ci := 4) (v := .int ((X.1 3).2 0)) (C := RX4) (T := TX4) (N := 4) hx hb hts in_X7_night_X4 hown hK.1 hP 22 rfl rfl 1 (by decide) (hts _ kw_X7_night_5) (fun _ h9 => h9) rfl dX7_night_47 ?_
          refine lv_sipush (v := (999 : Int32)) hx hb dX7_night_50 (by decide) ?_
          refine lv_icmp_lt (tgt := 59) hx hb dX7_night_53 (by decide) (fun c6 => ?_) (fun c6 => ?_)
          · have h := jt c6 h
            refine lv_aload_n hx hb dX7_night_59 rfl (lv_at hl 0 rfl) ?_
            refine va_get (D := D) (ci := 7) (v := .ref (qa 24)) (C := RX7) (T := TX7) (N := 10) hx hb hts in_X7_night_X7 hown hK.1 hP 0 rfl rfl 4 (by decide) (hts _ kw_X7_night_6) (fun _ h9 => h9) rfl dX7_night_60 ?_
            refine lv_aload_n hx hb dX7_night_63 rfl (lv_at hl 0 rfl) ?_
            refine va_get (D := D) (ci := 7) (v := .ref (qa 22)) (C := RX7) (T := TX7) (N := 10) hx hb hts in_X7_night_X7 hown hK.1 hP 0 rfl rfl 3 (by decide) (hts _ kw_X7_night_1) (fun _ h9 => h9) rfl dX7_night_64 ?_
            obtain ⟨z7, hz7, h⟩ := jb h
            refine jgv (w1 := fun u : (Mo × (Nat → Mo)) => wU cyI cyT (fun k => qa (24 + k)) u.1 u.2 ++ wT cyI (fun k => qa (22 + k)) (X.1 3)) (wn := wX cyI cyZ cyT qa (va_up X.1 4 z7.1, z7.2, X.2.2.1, X.2.2.2)) (jmV (As := [.ref (qa 22)]) (rest := []) ⟨hx, hb, hml, hown, hts⟩ (c_X6_remember l D cyI cyZ cyT (fun k => qa (24 + k)) (fun k => qa (22 + k)) H.size N (X.1 4) X.2.1 (X.1 3) z7 hz7) (cwV 1 hts gX7_night_X6_remember rfl rfl rfl (by decide +kernel) ⟨Nat.le_of_ble_eq_true rfl, Nat.le_of_ble_eq_true rfl⟩) hK (hP.sub (ws' := wU cyI cyT (fun k => qa (24 + k)) (X.1 4) X.2.1 ++ wT cyI (fun k => qa (22 + k)) (X.1 3)) [24, 25, 26, 27, 28, 29, 30, 31, 32, 33, 34, 35, 36, 37, 38, 39, 40, 41, 22, 23] rfl) (hD.sub (ws' := wU cyI cyT (fun k => qa (24 + k)) (X.1 4) X.2.1 ++ wT cyI (fun k => qa (22 + k)) (X.1 3)) [24, 25, 26, 27, 28, 29, 30, 31, 32, 33, 34, 35, 36, 37, 38, 39, 40, 41, 22, 23] (by decide) rfl) rfl 6 0 rfl rfl rfl hl.1 (Nat.le_of_ble_eq_true rfl) dX7_night_67 ⟨Nat.le_of_ble_eq_true rfl, Nat.le_of_ble_eq_true rfl⟩) hP hD hS hA [24, 25, 26, 27, 28, 29, 30, 31, 32, 33, 34, 35, 36, 37, 38, 39, 40, 41, 22, 23] [0, 1, 2, 3, 4, 5, 6, 7, 8, 9, 10, 11, 12, 13, 14, 15, 16, 17, 18, 19, 20, 21, 42, 43, 44, 45, 46, 47, 48, 49, 50, 51, 52, 53, 54] [0, 1, 2, 3, 4, 5, 6, 7, 8, 9, 10, 11, 12, 13, 14, 15, 16, 17, 18, 19, 20, 21, 53, 54, 35, 36, 37, 38, 39, 40, 41, 42, 43, 44, 45, 46, 47, 48, 49, 50, 51, 52, 22, 23, 24, 25, 26, 27, 28, 29, 30, 31, 32, 33, 34] rfl rfl (by decide) (by decide) rfl (by decide) (fun H locs hP hD hS => ?_)
            clear hz7
            refine lv_aload_n hx hb dX7_night_70 rfl (lv_at hl 0 rfl) ?_
            refine lv_iload_n hx hb dX7_night_71 rfl (lv_at hl 1 rfl) ?_
            obtain ⟨z8, hz8, h⟩ := jb h
            refine jki (jrV (As := [.int a1]) (rest := []) ⟨hx, hb, hml, hown, hts⟩ (c_X7_caughtBy l D cyI cyZ cyT qa  N a1 (va_up X.1 4 z7.1, z7.2, X.2.2.1, X.2.2.2) z8 hz8) (cwV 1 hts gX7_night_X7_caughtBy rfl rfl rfl (by decide +kernel) ⟨Nat.le_of_ble_eq_true rfl, Nat.le_of_ble_eq_true rfl⟩) hK hP rfl 7 0 rfl rfl rfl hl.1 (Nat.le_of_ble_eq_true rfl) dX7_night_72 ⟨Nat.le_of_ble_eq_true rfl, Nat.le_of_ble_eq_true rfl⟩) ?_
            clear hz8
            refine lv_istore_n (lv' := [(2, .int z8), (0, .ref (qa 0)), (1, .int a1)]) hx hb dX7_night_75 rfl hl (by decide) rfl (fun ls hl => ?_)
            refine lv_iload_n hx hb dX7_night_76 rfl (lv_at hl 0 rfl) ?_
            refine lv_iconst (v := (-1 : Int32)) hx hb dX7_night_77 (by decide) ?_
            obtain ⟨z9, hz9, h⟩ := jb h
            have hk9 : ∀ (H : Heap) (locs : List Loc), va_P D vwCl (wX cyI cyZ cyT qa z9) H → va_D A (wX cyI cyZ cyT qa z9) → va_S A s.heap H locs → ∀ (ls : Array Slot), lv_has ls 3 [(0, .ref (qa 0)), (2, .int z8)] → W p l e rm_X7_night s m args below meth c H locs 0 0 (MQ below (jQi D A (fun u : BX => wX cyI cyZ cyT qa u) o) args s 0 0 A) (F0 m 100 ls []) := by
              intro H locs hP hD hS ls hl
              refine lv_aload_n hx hb dX7_night_100 rfl (lv_at hl 0 rfl) ?_
              refine va_get (D := D) (ci := 7) (v := .ref (qa 22)) (C := RX7) (T := TX7) (N := 10) hx hb hts in_X7_night_X7 hown hK.1 hP 0 rfl rfl 3 (by decide) (hts _ kw_X7_night_1) (fun _ h9 => h9) rfl dX7_night_101 ?_
              refine lv_dup hx hb dX7_night_104 rfl ?_
              refine va_get (D := D) (ci := 4) (v := .int ((z9.1 3).2 0)) (C := RX4) (T := TX4) (N := 4) hx hb hts in_X7_night_X4 hown hK.1 hP 22 rfl rfl 1 (by decide) (hts _ kw_X7_night_5) (fun _ h9 => h9) rfl dX7_night_105 ?_
              refine lv_iconst (v := (1 : Int32)) hx hb dX7_night_108 (by decide) ?_
              refine lv_iadd hx hb dX7_night_109 ?_
              refine va_put (D := D) (ci := 4) (v := .int (((z9.1 3).2 0) + (1 : Int32))) (ty := .int) (C := RX4) (T := TX4) (N := 4) hx hb hts in_X7_night_X4 tyX4 tyX4_ok nmX4 hown hK.1 hP hD hS 22 rfl rfl 1 (by decide) (hts _ kw_X7_night_5) (fun _ h9 => h9) rfl (tyX4_ok 1 (by decide)) rfl rfl (Nat.le_of_ble_eq_true rfl) dX7_night_110 (fun H locs hP hD hS => ?_)
              have hP : va_P D vwCl (wX cyI cyZ cyT qa (va_up z9.1 3 ((z9.1 3).1, va_up ((z9.1 3).2) 0 (((z9.1 3).2 0) + (1 : Int32))), z9.2.1, z9.2.2.1, z9.2.2.2)) H := hP
              have hD : va_D A (wX cyI cyZ cyT qa (va_up z9.1 3 ((z9.1 3).1, va_up ((z9.1 3).2) 0 (((z9.1 3).2 0) + (1 : Int32))), z9.2.1, z9.2.2.1, z9.2.2.2)) := hD
              refine lv_iload_n hx hb dX7_night_113 rfl (lv_at hl 1 rfl) ?_
              exact W.iret hx hb hr (fun t ht _ => ⟨⟨_, _, rfl, Option.some.inj h, by rw [ht]; exact hP, hD⟩, hS.F ht⟩) hS.2.2 dX7_night_114 hlocks
            clear h
            have h := hz9
            clear hz9
            refine lv_icmp_ne (tgt := 92) hx hb dX7_night_78 (by decide) (fun c10 => ?_) (fun c10 => ?_)
            · have h := jf c10 h
              refine lv_aload_n hx hb dX7_night_92 rfl (lv_at hl 1 rfl) ?_
              refine va_get (D := D) (ci := 7) (v := .ref (qa 22)) (C := RX7) (T := TX7) (N := 10) hx hb hts in_X7_night_X7 hown hK.1 hP 0 rfl rfl 3 (by decide) (hts _ kw_X7_night_1) (fun _ h9 => h9) rfl dX7_night_93 ?_
              refine lv_iload_n hx hb dX7_night_96 rfl (lv_at hl 0 rfl) ?_
              obtain ⟨z11, hz11, h⟩ := jb h
              refine jgv (w1 := fun u : Mo => wT cyI (fun k => qa (22 + k)) u) (wn := wX cyI cyZ cyT qa (va_up (va_up X.1 3 z11) 4 z7.1, z7.2, X.2.2.1, X.2.2.2)) (jmV (As := [.int z8]) (rest := []) ⟨hx, hb, hml, hown, hts⟩ (c_X4_lose l D cyI cyZ cyT (fun k => qa (22 + k)) H.size N z8 (X.1 3) z11 hz11) (cwV 1 hts gX7_night_X4_lose rfl rfl rfl (by decide +kernel) ⟨Nat.le_of_ble_eq_true rfl, Nat.le_of_ble_eq_true rfl⟩) hK (hP.sub (ws' := wT cyI (fun k => qa (22 + k)) (X.1 3)) [22, 23] rfl) (hD.sub (ws' := wT cyI (fun k => qa (22 + k)) (X.1 3)) [22, 23] (by decide) rfl) rfl 4 0 rfl rfl rfl hl.1 (Nat.le_of_ble_eq_true rfl) dX7_night_97 ⟨Nat.le_of_ble_eq_true rfl, Nat.le_of_ble_eq_true rfl⟩) hP hD hS hA [22, 23] [0, 1, 2, 3, 4, 5, 6, 7, 8, 9, 10, 11, 12, 13, 14, 15, 16, 17, 18, 19, 20, 21, 24, 25, 26, 27, 28, 29, 30, 31, 32, 33, 34, 35, 36, 37, 38, 39, 40, 41, 42, 43, 44, 45, 46, 47, 48, 49, 50, 51, 52, 53, 54] [0, 1, 2, 3, 4, 5, 6, 7, 8, 9, 10, 11, 12, 13, 14, 15, 16, 17, 18, 19, 20, 21, 53, 54, 22, 23, 24, 25, 26, 27, 28, 29, 30, 31, 32, 33, 34, 35, 36, 37, 38, 39, 40, 41, 42, 43, 44, 45, 46, 47, 48, 49, 50, 51, 52] rfl rfl (by decide) (by decide) rfl (by decide) (fun H locs hP hD hS => ?_)
              clear hz11
              obtain rfl := Option.some.inj h
              exact hk9 H locs hP hD hS ls (lv_sub hl [1, 0] rfl)
            · have h := jt c10 h
              refine lv_aload_n hx hb dX7_night_81 rfl (lv_at hl 1 rfl) ?_
              refine va_get (D := D) (ci := 7) (v := .ref (qa 22)) (C := RX7) (T := TX7) (N := 10) hx hb hts in_X7_night_X7 hown hK.1 hP 0 rfl rfl 3 (by decide) (hts _ kw_X7_night_1) (fun _ h9 => h9) rfl dX7_night_82 ?_
              refine lv_iconst (v := (1 : Int32)) hx hb dX7_night_85 (by decide) ?_
              refine va_put (D := D) (ci := 4) (v := .int (1 : Int32)) (ty := .boolean) (C := RX4) (T := TX4) (N := 4) hx hb hts in_X7_night_X4 tyX4 tyX4_ok nmX4 hown hK.1 hP hD hS 22 rfl rfl 3 (by decide) (hts _ kw_X7_night_2) (fun _ h9 => h9) rfl (tyX4_ok 3 (by decide)) rfl rfl (Nat.le_of_ble_eq_true rfl) dX7_night_86 (fun H locs hP hD hS => ?_)
              have hP : va_P D vwCl (wX cyI cyZ cyT qa (va_up (va_up X.1 3 ((X.1 3).1, va_up ((X.1 3).2) 2 (1 : Int32))) 4 z7.1, z7.2, X.2.2.1, X.2.2.2)) H := hP
              have hD : va_D A (wX cyI cyZ cyT qa (va_up (va_up X.1 3 ((X.1 3).1, va_up ((X.1 3).2) 2 (1 : Int32))) 4 z7.1, z7.2, X.2.2.1, X.2.2.2)) := hD
              refine lv_goto (tgt := 100) hx hb dX7_night_89 (by decide) ?_
              obtain rfl := Option.some.inj h
              exact hk9 H locs hP hD hS ls (lv_sub hl [1, 0] rfl)
          · have h := jf c6 h
            refine lv_bipush (v := (-5 : Int32)) hx hb dX7_night_56 (by decide) ?_
            exact W.iret hx hb hr (fun t ht _ => ⟨⟨_, _, rfl, Option.some.inj h, by rw [ht]; exact hP, hD⟩, hS.F ht⟩) hS.2.2 dX7_night_58 hlocks
        · have h := jt c5 h
          refine lv_bipush (v := (-4 : Int32)) hx hb dX7_night_40 (by decide) ?_
          exact W.iret hx hb hr (fun t ht _ => ⟨⟨_, _, rfl, Option.some.inj h, by rw [ht]; exact hP, hD⟩, hS.F ht⟩) hS.2.2 dX7_night_42 hlocks
    · have h := jt c2 h
      refine lv_bipush (v := (-3 : Int32)) hx hb dX7_night_10 (by decide) ?_
      exact W.iret hx hb hr (fun t ht _ => ⟨⟨_, _, rfl, Option.some.inj h, by rw [ht]; exact hP, hD⟩, hS.F ht⟩) hS.2.2 dX7_night_12 hlocks
  exact key s.heap [] hP hD hS
theorem kw_X7_put_1 : (.fieldLink RX7 19 "BellTheCat" "told" "LBellTheCat$House;" : Cond) ∈ wsX7_put := List.mem_of_getElem? (i := 1) rfl
theorem kw_X7_put_2 : (.fieldLink RX7 29 "BellTheCat" "now" "LBellTheCat$Team;" : Cond) ∈ wsX7_put := List.mem_of_getElem? (i := 2) rfl
theorem kw_X7_put_3 : (.fieldLink RX7 36 "BellTheCat" "latest" "LBellTheCat$Undo;" : Cond) ∈ wsX7_put := List.mem_of_getElem? (i := 3) rfl
theorem in_X7_put_X7 : ∀ w ∈ wsX70, w ∈ wsX7_put := fun w h => List.mem_cons_of_mem _ (List.mem_append_left _ (List.mem_append_left _ (List.mem_append_left _ (List.mem_append_right _ h))))
abbrev rm_X7_put : Room := { frames := 2, cells := 0, slots := 0, locals := 85 }
set_option maxHeartbeats 4000000 in
set_option maxRecDepth 100000 in
theorem c_X7_put (l : Launch) (D : va_G) (cyI cyZ cyT : ClassId) (qa : Nat → Nat) (sz : Nat) (N : Nat) (a1 : Int32) (a2 : Int32) (X : BX) (o : (Int32 × BX)) (hf : f_X7_put N a1 a2 X = some o) : Met l yX7_put wsX7_put rm_X7_put (va_Pc [.ref (qa 0), .int a1, .int a2] (jM D cyI cyZ cyT (wX cyI cyZ cyT qa X) sz)) (jQi D (va_A (wX cyI cyZ cyT qa X) sz) (fun u : BX => wX cyI cyZ cyT qa u) o) 0 0 (va_A (wX cyI cyZ cyT qa X) sz) := by
  refine Met.ofW (cc := cX7_put) (maxL := 3) (ret := (some .int)) (by decide) rfl ?_
  intro p e s m args below meth c s₁ B hml hv
  obtain ⟨rfl, hsz, hP, hK, hD0⟩ := hv
  have hx := B.exec
  have hb := B.bytes
  have hr := B.returns
  have hts := atoms_spec (ws := wsX7_put) B.pre
  have hown : s.vm.findClass RX7 = some m.cls := findClass_of_methodNamed B.named
  have hlocks := B.notSynchronized
  subst hsz
  have hD := hD0.self (sz := s.heap.size)
  generalize hAe : va_A (wX cyI cyZ cyT qa X) s.heap.size = A at hD ⊢
  have hA : ∀ q : Nat, s.heap.size ≤ q → A q := fun q h => by rw [← hAe]; exact Or.inr h
  have hS : va_S A s.heap s.heap [] := va_S.rf
  have hl := lv_entry ([.ref (qa 0), .int a1, .int a2]) (n := 3) (Nat.le_of_ble_eq_true rfl)
  rw [lg_entry_eq]
  generalize (lg_sl ([.ref (qa 0), .int a1, .int a2]) ++ List.replicate (3 - (lg_sl ([.ref (qa 0), .int a1, .int a2])).length) Slot.unset).toArray = ls at hl ⊢
  have hl : lv_has ls 3 [(0, .ref (qa 0)), (1, .int a1), (2, .int a2)] := hl
  clear B
  generalize ([.ref (qa 0), .int a1, .int a2] : List Value).toArray = args at hts ⊢
  have key : ∀ (H : Heap) (locs : List Loc), va_P D vwCl (wX cyI cyZ cyT qa X) H → va_D A (wX cyI cyZ cyT qa X) → va_S A s.heap H locs → W p l e rm_X7_put s m args below meth c H locs 0 0 (MQ below (jQi D A (fun u : BX => wX cyI cyZ cyT qa u) o) args s 0 0 A) (F0 m 0 ls []) := by
    intro H locs hP hD hS
    have h := hf
    unfold f_X7_put at h
    refine lv_aload_n hx hb dX7_put_0 rfl (lv_at hl 0 rfl) ?_
    refine va_get (D := D) (ci := 7) (v := .ref (qa 4)) (C := RX7) (T := TX7) (N := 10) hx hb hts in_X7_put_X7 hown hK.1 hP 0 rfl rfl 1 (by decide) (hts _ kw_X7_put_1) (fun _ h9 => h9) rfl dX7_put_1 ?_
    refine lv_iload_n hx hb dX7_put_4 rfl (lv_at hl 1 rfl) ?_
    obtain ⟨z1, hz1, h⟩ := jb h
    refine jki (jrV (As := [.int a1]) (rest := []) ⟨hx, hb, hml, hown, hts⟩ (c_X0_hasStep l D cyI cyZ cyT (fun k => qa (4 + k))  a1 (X.1 1) z1 hz1) (cwV 1 hts gX7_put_X0_hasStep rfl rfl rfl (by decide +kernel) ⟨Nat.le_of_ble_eq_true rfl, Nat.le_of_ble_eq_true rfl⟩) hK (hP.sub (ws' := wH cyI (fun k => qa (4 + k)) (X.1 1)) [4, 5, 6, 7, 8, 9, 10, 11, 12] rfl) rfl 0 0 rfl rfl rfl hl.1 (Nat.le_of_ble_eq_true rfl) dX7_put_5 ⟨Nat.le_of_ble_eq_true rfl, Nat.le_of_ble_eq_true rfl⟩) ?_
    clear hz1
    refine lv_if_eq (tgt := 22) hx hb dX7_put_8 (by decide) (fun c2 => ?_) (fun c2 => ?_)
    · have h := jt c2 h
      refine lv_bipush (v := (-2 : Int32)) hx hb dX7_put_22 (by decide) ?_
      exact W.iret hx hb hr (fun t ht _ => ⟨⟨_, _, rfl, Option.some.inj h, by rw [ht]; exact hP, hD⟩, hS.F ht⟩) hS.2.2 dX7_put_24 hlocks
    · have h := jf c2 h
      refine lv_aload_n hx hb dX7_put_11 rfl (lv_at hl 0 rfl) ?_
      refine va_get (D := D) (ci := 7) (v := .ref (qa 4)) (C := RX7) (T := TX7) (N := 10) hx hb hts in_X7_put_X7 hown hK.1 hP 0 rfl rfl 1 (by decide) (hts _ kw_X7_put_1) (fun _ h9 => h9) rfl dX7_put_12 ?_
      refine lv_iload_n hx hb dX7_put_15 rfl (lv_at hl 2 rfl) ?_
      obtain ⟨z3, hz3, h⟩ := jb h
      refine jki (jrV (As := [.int a2]) (rest := []) ⟨hx, hb, hml, hown, hts⟩ (c_X0_hasMouse l D cyI cyZ cyT (fun k => qa (4 + k))  a2 (X.1 1) z3 hz3) (cwV 1 hts gX7_put_X0_hasMouse rfl rfl rfl (by decide +kernel) ⟨Nat.le_of_ble_eq_true rfl, Nat.le_of_ble_eq_true rfl⟩) hK (hP.sub (ws' := wH cyI (fun k => qa (4 + k)) (X.1 1)) [4, 5, 6, 7, 8, 9, 10, 11, 12] rfl) rfl 0 0 rfl rfl rfl hl.1 (Nat.le_of_ble_eq_true rfl) dX7_put_16 ⟨Nat.le_of_ble_eq_true rfl, Nat.le_of_ble_eq_true rfl⟩) ?_
      clear hz3
      refine lv_if_ne (tgt := 25) hx hb dX7_put_19 (by decide) (fun c4 => ?_) (fun c4 => ?_)
      · have h := jf c4 h
        refine lv_aload_n hx hb dX7_put_25 rfl (lv_at hl 0 rfl) ?_
        refine va_get (D := D) (ci := 7) (v := .ref (qa 22)) (C := RX7) (T := TX7) (N := 10) hx hb hts in_X7_put_X7 hown hK.1 hP 0 rfl rfl 3 (by decide) (hts _ kw_X7_put_2) (fun _ h9 => h9) rfl dX7_put_26 ?_
        refine lv_iload_n hx hb dX7_put_29 rfl (lv_at hl 2 rfl) ?_
        obtain ⟨z5, hz5, h⟩ := jb h
        refine jki (jrV (As := [.int a2]) (rest := []) ⟨hx, hb, hml, hown, hts⟩ (c_X4_lives l D cyI cyZ cyT (fun k => qa (22 + k))  a2 (X.1 3) z5 hz5) (cwV 1 hts gX7_put_X4_lives rfl rfl rfl (by decide +kernel) ⟨Nat.le_of_ble_eq_true rfl, Nat.le_of_ble_eq_true rfl⟩) hK (hP.sub (ws' := wT cyI (fun k => qa (22 + k)) (X.1 3)) [22, 23] rfl) rfl 4 0 rfl rfl rfl hl.1 (Nat.le_of_ble_eq_true rfl) dX7_put_30 ⟨Nat.le_of_ble_eq_true rfl, Nat.le_of_ble_eq_true rfl⟩) ?_
        clear hz5
        refine lv_if_ne (tgt := 39) hx hb dX7_put_33 (by decide) (fun c6 => ?_) (fun c6 => ?_)
        · have h := jf c6 h
          refine lv_aload_n hx hb dX7_put_39 rfl (lv_at hl 0 rfl) ?_
          refine va_get (D := D) (ci := 7) (v := .ref (qa 24)) (C := RX7) (T := TX7) (N := 10) hx hb hts in_X7_put_X7 hown hK.1 hP 0 rfl rfl 4 (by decide) (hts _ kw_X7_put_3) (fun _ h9 => h9) rfl dX7_put_40 ?_
          refine lv_aload_n hx hb dX7_put_43 rfl (lv_at hl 0 rfl) ?_
          refine va_get (D := D) (ci := 7) (v := .ref (qa 22)) (C := RX7) (T := TX7) (N := 10) hx hb hts in_X7_put_X7 hown hK.1 hP 0 rfl rfl 3 (by decide) (hts _ kw_X7_put_2) (fun _ h9 => h9) rfl dX7_put_44 ?_
          obtain ⟨z7, hz7, h⟩ := jb h
          refine jgv (w1 := fun u : (Mo × (Nat → Mo)) => wU cyI cyT (fun k => qa (24 + k)) u.1 u.2 ++ wT cyI (fun k => qa (22 + k)) (X.1 3)) (wn := wX cyI cyZ cyT qa (va_up X.1 4 z7.1, z7.2, X.2.2.1, X.2.2.2)) (jmV (As := [.ref (qa 22)]) (rest := []) ⟨hx, hb, hml, hown, hts⟩ (c_X6_remember l D cyI cyZ cyT (fun k => qa (24 + k)) (fun k => qa (22 + k)) H.size N (X.1 4) X.2.1 (X.1 3) z7 hz7) (cwV 1 hts gX7_put_X6_remember rfl rfl rfl (by decide +kernel) ⟨Nat.le_of_ble_eq_true rfl, Nat.le_of_ble_eq_true rfl⟩) hK (hP.sub (ws' := wU cyI cyT (fun k => qa (24 + k)) (X.1 4) X.2.1 ++ wT cyI (fun k => qa (22 + k)) (X.1 3)) [24, 25, 26, 27, 28, 29, 30, 31, 32, 33, 34, 35, 36, 37, 38, 39, 40, 41, 22, 23] rfl) (hD.sub (ws' := wU cyI cyT (fun k => qa (24 + k)) (X.1 4) X.2.1 ++ wT cyI (fun k => qa (22 + k)) (X.1 3)) [24, 25, 26, 27, 28, 29, 30, 31, 32, 33, 34, 35, 36, 37, 38, 39, 40, 41, 22, 23] (by decide) rfl) rfl 6 0 rfl rfl rfl hl.1 (Nat.le_of_ble_eq_true rfl) dX7_put_47 ⟨Nat.le_of_ble_eq_true rfl, Nat.le_of_ble_eq_true rfl⟩) hP hD hS hA [24, 25, 26, 27, 28, 29, 30, 31, 32, 33, 34, 35, 36, 37, 38, 39, 40, 41, 22, 23] [0, 1, 2, 3, 4, 5, 6, 7, 8, 9, 10, 11, 12, 13, 14, 15, 16, 17, 18, 19, 20, 21, 42, 43, 44, 45, 46, 47, 48, 49, 50, 51, 52, 53, 54] [0, 1, 2, 3, 4, 5, 6, 7, 8, 9, 10, 11, 12, 13, 14, 15, 16, 17, 18, 19, 20, 21, 53, 54, 35, 36, 37, 38, 39, 40, 41, 42, 43, 44, 45, 46, 47, 48, 49, 50, 51, 52, 22, 23, 24, 25, 26, 27, 28, 29, 30, 31, 32, 33, 34] rfl rfl (by decide) (by decide) rfl (by decide) (fun H locs hP hD hS => ?_)
          clear hz7
          refine lv_aload_n hx hb dX7_put_50 rfl (lv_at hl 0 rfl) ?_
          refine va_get (D := D) (ci := 7) (v := .ref (qa 22)) (C := RX7) (T := TX7) (N := 10) hx hb hts in_X7_put_X7 hown hK.1 hP 0 rfl rfl 3 (by decide) (hts _ kw_X7_put_2) (fun _ h9 => h9) rfl dX7_put_51 ?_
          refine lv_iload_n hx hb dX7_put_54 rfl (lv_at hl 1 rfl) ?_
          refine lv_iload_n hx hb dX7_put_55 rfl (lv_at hl 2 rfl) ?_
          obtain ⟨z8, hz8, h⟩ := jb h
          refine jgv (w1 := fun u : Mo => wT cyI (fun k => qa (22 + k)) u) (wn := wX cyI cyZ cyT qa (va_up (va_up X.1 3 z8) 4 z7.1, z7.2, X.2.2.1, X.2.2.2)) (jmV (As := [.int a1, .int a2]) (rest := []) ⟨hx, hb, hml, hown, hts⟩ (c_X4_setDoer l D cyI cyZ cyT (fun k => qa (22 + k)) H.size a1 a2 (X.1 3) z8 hz8) (cwV 2 hts gX7_put_X4_setDoer rfl rfl rfl (by decide +kernel) ⟨Nat.le_of_ble_eq_true rfl, Nat.le_of_ble_eq_true rfl⟩) hK (hP.sub (ws' := wT cyI (fun k => qa (22 + k)) (X.1 3)) [22, 23] rfl) (hD.sub (ws' := wT cyI (fun k => qa (22 + k)) (X.1 3)) [22, 23] (by decide) rfl) rfl 4 0 rfl rfl rfl hl.1 (Nat.le_of_ble_eq_true rfl) dX7_put_56 ⟨Nat.le_of_ble_eq_true rfl, Nat.le_of_ble_eq_true rfl⟩) hP hD hS hA [22, 23] [0, 1, 2, 3, 4, 5, 6, 7, 8, 9, 10, 11, 12, 13, 14, 15, 16, 17, 18, 19, 20, 21, 24, 25, 26, 27, 28, 29, 30, 31, 32, 33, 34, 35, 36, 37, 38, 39, 40, 41, 42, 43, 44, 45, 46, 47, 48, 49, 50, 51, 52, 53, 54] [0, 1, 2, 3, 4, 5, 6, 7, 8, 9, 10, 11, 12, 13, 14, 15, 16, 17, 18, 19, 20, 21, 53, 54, 22, 23, 24, 25, 26, 27, 28, 29, 30, 31, 32, 33, 34, 35, 36, 37, 38, 39, 40, 41, 42, 43, 44, 45, 46, 47, 48, 49, 50, 51, 52] rfl rfl (by decide) (by decide) rfl (by decide) (fun H locs hP hD hS => ?_)
          clear hz8
          refine lv_aload_n hx hb dX7_put_59 rfl (lv_at hl 0 rfl) ?_
          refine va_get (D := D) (ci := 7) (v := .ref (qa 22)) (C := RX7) (T := TX7) (N := 10) hx hb hts in_X7_put_X7 hown hK.1 hP 0 rfl rfl 3 (by decide) (hts _ kw_X7_put_2) (fun _ h9 => h9) rfl dX7_put_60 ?_
          obtain ⟨z9, hz9, h⟩ := jb h
          refine jki (jrV (As := []) (rest := []) ⟨hx, hb, hml, hown, hts⟩ (c_X4_filledSteps l D cyI cyZ cyT (fun k => qa (22 + k))  N z8 z9 hz9) (cwV 0 hts gX7_put_X4_filledSteps rfl rfl rfl (by decide +kernel) ⟨Nat.le_of_ble_eq_true rfl, Nat.le_of_ble_eq_true rfl⟩) hK (hP.sub (ws' := wT cyI (fun k => qa (22 + k)) z8) [22, 23] rfl) rfl 4 0 rfl rfl rfl hl.1 (Nat.le_of_ble_eq_true rfl) dX7_put_63 ⟨Nat.le_of_ble_eq_true rfl, Nat.le_of_ble_eq_true rfl⟩) ?_
          clear hz9
          exact W.iret hx hb hr (fun t ht _ => ⟨⟨_, _, rfl, Option.some.inj h, by rw [ht]; exact hP, hD⟩, hS.F ht⟩) hS.2.2 dX7_put_66 hlocks
        · have h := jt c6 h
          refine lv_bipush (v := (-4 : Int32)) hx hb dX7_put_36 (by decide) ?_
          exact W.iret hx hb hr (fun t ht _ => ⟨⟨_, _, rfl, Option.some.inj h, by rw [ht]; exact hP, hD⟩, hS.F ht⟩) hS.2.2 dX7_put_38 hlocks
      · have h := jt c4 h
        refine lv_bipush (v := (-2 : Int32)) hx hb dX7_put_22 (by decide) ?_
        exact W.iret hx hb hr (fun t ht _ => ⟨⟨_, _, rfl, Option.some.inj h, by rw [ht]; exact hP, hD⟩, hS.F ht⟩) hS.2.2 dX7_put_24 hlocks
  exact key s.heap [] hP hD hS
theorem kw_X7_rat_1 : (.fieldLink RX7 19 "BellTheCat" "told" "LBellTheCat$House;" : Cond) ∈ wsX7_rat := List.mem_of_getElem? (i := 1) rfl
theorem kw_X7_rat_2 : (.fieldLink RX7 140 "BellTheCat$House" "prices" "[I" : Cond) ∈ wsX7_rat := List.mem_of_getElem? (i := 2) rfl
theorem kw_X7_rat_3 : (.fieldLink RX7 143 "BellTheCat$House" "skills" "[I" : Cond) ∈ wsX7_rat := List.mem_of_getElem? (i := 3) rfl
theorem kw_X7_rat_4 : (.fieldLink RX7 146 "BellTheCat$House" "words" "[I" : Cond) ∈ wsX7_rat := List.mem_of_getElem? (i := 4) rfl
theorem in_X7_rat_X0 : ∀ w ∈ wsX00, w ∈ wsX7_rat := fun w h => List.mem_cons_of_mem _ (List.mem_append_right _ h)
theorem in_X7_rat_X7 : ∀ w ∈ wsX70, w ∈ wsX7_rat := fun w h => List.mem_cons_of_mem _ (List.mem_append_left _ (List.mem_append_right _ h))
abbrev rm_X7_rat : Room := { frames := 1, cells := 0, slots := 0, locals := 21 }
set_option maxHeartbeats 4000000 in
set_option maxRecDepth 100000 in
theorem c_X7_rat (l : Launch) (D : va_G) (cyI cyZ cyT : ClassId) (qa : Nat → Nat) (a1 : Int32) (a2 : Int32) (X : BX) (o : Int32) (hf : f_X7_rat a1 a2 X = some o) : Met l yX7_rat wsX7_rat rm_X7_rat (va_Pc [.ref (qa 0), .int a1, .int a2] (jB D cyI cyZ cyT (wX cyI cyZ cyT qa X))) (jSi o) 0 0 (fun _ => False) := by
  refine Met.ofW (cc := cX7_rat) (maxL := 3) (ret := (some .int)) (by decide) rfl ?_
  intro p e s m args below meth c s₁ B hml hv
  obtain ⟨rfl, hP, hK⟩ := hv
  have hx := B.exec
  have hb := B.bytes
  have hr := B.returns
  have hts := atoms_spec (ws := wsX7_rat) B.pre
  have hown : s.vm.findClass RX7 = some m.cls := findClass_of_methodNamed B.named
  have hlocks := B.notSynchronized
  have hl := lv_entry ([.ref (qa 0), .int a1, .int a2]) (n := 3) (Nat.le_of_ble_eq_true rfl)
  rw [lg_entry_eq]
  generalize (lg_sl ([.ref (qa 0), .int a1, .int a2]) ++ List.replicate (3 - (lg_sl ([.ref (qa 0), .int a1, .int a2])).length) Slot.unset).toArray = ls at hl ⊢
  have hl : lv_has ls 3 [(0, .ref (qa 0)), (1, .int a1), (2, .int a2)] := hl
  clear B
  generalize ([.ref (qa 0), .int a1, .int a2] : List Value).toArray = args at hts ⊢
  have key : ∀ (H : Heap), va_P D vwCl (wX cyI cyZ cyT qa X) H → H = s.heap → W p l e rm_X7_rat s m args below meth c H [] 0 0 (MQ below (jSi o) args s 0 0 (fun _ => False)) (F0 m 0 ls []) := by
    intro H hP hH
    have h := hf
    unfold f_X7_rat at h
    refine lv_aload_n hx hb dX7_rat_0 rfl (lv_at hl 0 rfl) ?_
    refine va_get (D := D) (ci := 7) (v := .ref (qa 4)) (C := RX7) (T := TX7) (N := 10) hx hb hts in_X7_rat_X7 hown hK.1 hP 0 rfl rfl 1 (by decide) (hts _ kw_X7_rat_1) (fun _ h9 => h9) rfl dX7_rat_1 ?_
    refine lv_iload_n hx hb dX7_rat_4 rfl (lv_at hl 1 rfl) ?_
    obtain ⟨z1, hz1, h⟩ := jb h
    refine jki (jrV (As := [.int a1]) (rest := []) ⟨hx, hb, hml, hown, hts⟩ (c_X0_hasRat l D cyI cyZ cyT (fun k => qa (4 + k))  a1 (X.1 1) z1 hz1) (cwV 1 hts gX7_rat_X0_hasRat rfl rfl rfl (by decide +kernel) ⟨Nat.le_of_ble_eq_true rfl, Nat.le_of_ble_eq_true rfl⟩) hK (hP.sub (ws' := wH cyI (fun k => qa (4 + k)) (X.1 1)) [4, 5, 6, 7, 8, 9, 10, 11, 12] rfl) rfl 0 0 rfl rfl rfl hl.1 (Nat.le_of_ble_eq_true rfl) dX7_rat_5 ⟨Nat.le_of_ble_eq_true rfl, Nat.le_of_ble_eq_true rfl⟩) ?_
    clear hz1
    refine lv_if_ne (tgt := 14) hx hb dX7_rat_8 (by decide) (fun c2 => ?_) (fun c2 => ?_)
    · have h := jf c2 h
      refine lv_iload_n hx hb dX7_rat_14 rfl (lv_at hl 2 rfl) ?_
      by_cases c3 : a2 = (0 : Int32)
      · have h := jt c3 h
        refine lv_tableIn (off := 25) (tgt := 40) hx hb dX7_rat_15 (by rw [c3]; decide) (by rw [c3]; decide) (by rw [c3]; rfl) (by decide) ?_
        refine lv_aload_n hx hb dX7_rat_40 rfl (lv_at hl 0 rfl) ?_
        refine va_get (D := D) (ci := 7) (v := .ref (qa 4)) (C := RX7) (T := TX7) (N := 10) hx hb hts in_X7_rat_X7 hown hK.1 hP 0 rfl rfl 1 (by decide) (hts _ kw_X7_rat_1) (fun _ h9 => h9) rfl dX7_rat_41 ?_
        refine va_get (D := D) (ci := 0) (v := .ref (qa 10)) (C := RX0) (T := TX0) (N := 12) hx hb hts in_X7_rat_X0 hown hK.1 hP 4 rfl rfl 5 (by decide) (hts _ kw_X7_rat_2) (fun _ h9 => h9) rfl dX7_rat_44 ?_
        refine lv_iload_n hx hb dX7_rat_47 rfl (lv_at hl 1 rfl) ?_
        obtain ⟨g4, h⟩ := jn h
        refine jald hx hb hK hP 10 rfl _ rfl g4 dX7_rat_48 ?_
        exact W.iret hx hb hr (fun t ht _ => ⟨_, rfl, Option.some.inj h, ht.trans hH⟩) (fun q h => by cases h) dX7_rat_49 hlocks
      have h := jf c3 h
      by_cases c5 : a2 = (1 : Int32)
      · have h := jt c5 h
        refine lv_tableIn (off := 35) (tgt := 50) hx hb dX7_rat_15 (by rw [c5]; decide) (by rw [c5]; decide) (by rw [c5]; rfl) (by decide) ?_
        refine lv_aload_n hx hb dX7_rat_50 rfl (lv_at hl 0 rfl) ?_
        refine va_get (D := D) (ci := 7) (v := .ref (qa 4)) (C := RX7) (T := TX7) (N := 10) hx hb hts in_X7_rat_X7 hown hK.1 hP 0 rfl rfl 1 (by decide) (hts _ kw_X7_rat_1) (fun _ h9 => h9) rfl dX7_rat_51 ?_
        refine va_get (D := D) (ci := 0) (v := .ref (qa 11)) (C := RX0) (T := TX0) (N := 12) hx hb hts in_X7_rat_X0 hown hK.1 hP 4 rfl rfl 6 (by decide) (hts _ kw_X7_rat_3) (fun _ h9 => h9) rfl dX7_rat_54 ?_
        refine lv_iload_n hx hb dX7_rat_57 rfl (lv_at hl 1 rfl) ?_
        obtain ⟨g6, h⟩ := jn h
        refine jald hx hb hK hP 11 rfl _ rfl g6 dX7_rat_58 ?_
        exact W.iret hx hb hr (fun t ht _ => ⟨_, rfl, Option.some.inj h, ht.trans hH⟩) (fun q h => by cases h) dX7_rat_59 hlocks
      have h := jf c5 h
      by_cases c7 : a2 = (2 : Int32)
      · have h := jt c7 h
        refine lv_tableIn (off := 45) (tgt := 60) hx hb dX7_rat_15 (by rw [c7]; decide) (by rw [c7]; decide) (by rw [c7]; rfl) (by decide) ?_
        refine lv_aload_n hx hb dX7_rat_60 rfl (lv_at hl 0 rfl) ?_
        refine va_get (D := D) (ci := 7) (v := .ref (qa 4)) (C := RX7) (T := TX7) (N := 10) hx hb hts in_X7_rat_X7 hown hK.1 hP 0 rfl rfl 1 (by decide) (hts _ kw_X7_rat_1) (fun _ h9 => h9) rfl dX7_rat_61 ?_
        refine va_get (D := D) (ci := 0) (v := .ref (qa 12)) (C := RX0) (T := TX0) (N := 12) hx hb hts in_X7_rat_X0 hown hK.1 hP 4 rfl rfl 7 (by decide) (hts _ kw_X7_rat_4) (fun _ h9 => h9) rfl dX7_rat_64 ?_
        refine lv_iload_n hx hb dX7_rat_67 rfl (lv_at hl 1 rfl) ?_
        obtain ⟨g8, h⟩ := jn h
        refine jald hx hb hK hP 12 rfl _ rfl g8 dX7_rat_68 ?_
        exact W.iret hx hb hr (fun t ht _ => ⟨_, rfl, Option.some.inj h, ht.trans hH⟩) (fun q h => by cases h) dX7_rat_69 hlocks
      have h := jf c7 h
      refine lv_tableOut (tgt := 70) hx hb dX7_rat_15 (by have d0 := jne (z := 0) rfl c3; have d1 := jne (z := 1) rfl c5; have d2 := jne (z := 2) rfl c7; omega) (by decide) ?_
      refine lv_bipush (v := (-3 : Int32)) hx hb dX7_rat_70 (by decide) ?_
      exact W.iret hx hb hr (fun t ht _ => ⟨_, rfl, Option.some.inj h, ht.trans hH⟩) (fun q h => by cases h) dX7_rat_72 hlocks
    · have h := jt c2 h
      refine lv_bipush (v := (-2 : Int32)) hx hb dX7_rat_11 (by decide) ?_
      exact W.iret hx hb hr (fun t ht _ => ⟨_, rfl, Option.some.inj h, ht.trans hH⟩) (fun q h => by cases h) dX7_rat_13 hlocks
  exact key s.heap hP rfl
theorem kw_X7_rats_1 : (.fieldLink RX7 19 "BellTheCat" "told" "LBellTheCat$House;" : Cond) ∈ wsX7_rats := List.mem_of_getElem? (i := 1) rfl
theorem kw_X7_rats_2 : (.fieldLink RX7 262 "BellTheCat$House" "ratCount" "I" : Cond) ∈ wsX7_rats := List.mem_of_getElem? (i := 2) rfl
theorem in_X7_rats_X0 : ∀ w ∈ wsX00, w ∈ wsX7_rats := fun w h => List.mem_cons_of_mem _ (List.mem_append_right _ h)
theorem in_X7_rats_X7 : ∀ w ∈ wsX70, w ∈ wsX7_rats := fun w h => List.mem_cons_of_mem _ (List.mem_append_left _ (List.mem_append_right _ h))
abbrev rm_X7_rats : Room := { frames := 2, cells := 0, slots := 0, locals := 42 }
set_option maxHeartbeats 4000000 in
set_option maxRecDepth 100000 in
theorem c_X7_rats (l : Launch) (D : va_G) (cyI cyZ cyT : ClassId) (qa : Nat → Nat) (N : Nat) (a1 : Int32) (X : BX) (o : Int32) (hf : f_X7_rats N a1 X = some o) : Met l yX7_rats wsX7_rats rm_X7_rats (va_Pc [.ref (qa 0), .int a1] (jB D cyI cyZ cyT (wX cyI cyZ cyT qa X))) (jSi o) 0 0 (fun _ => False) := by
  refine Met.ofW (cc := cX7_rats) (maxL := 5) (ret := (some .int)) (by decide) rfl ?_
  intro p e s m args below meth c s₁ B hml hv
  obtain ⟨rfl, hP, hK⟩ := hv
  have hx := B.exec
  have hb := B.bytes
  have hr := B.returns
  have hts := atoms_spec (ws := wsX7_rats) B.pre
  have hown : s.vm.findClass RX7 = some m.cls := findClass_of_methodNamed B.named
  have hlocks := B.notSynchronized
  have hl := lv_entry ([.ref (qa 0), .int a1]) (n := 5) (Nat.le_of_ble_eq_true rfl)
  rw [lg_entry_eq]
  generalize (lg_sl ([.ref (qa 0), .int a1]) ++ List.replicate (5 - (lg_sl ([.ref (qa 0), .int a1])).length) Slot.unset).toArray = ls at hl ⊢
  have hl : lv_has ls 5 [(0, .ref (qa 0)), (1, .int a1)] := hl
  clear B
  generalize ([.ref (qa 0), .int a1] : List Value).toArray = args at hts ⊢
  have key : ∀ (H : Heap), va_P D vwCl (wX cyI cyZ cyT qa X) H → H = s.heap → W p l e rm_X7_rats s m args below meth c H [] 0 0 (MQ below (jSi o) args s 0 0 (fun _ => False)) (F0 m 0 ls []) := by
    intro H hP hH
    have h := hf
    unfold f_X7_rats at h
    refine lv_iload_n hx hb dX7_rats_0 rfl (lv_at hl 1 rfl) ?_
    refine lv_iconst (v := (1 : Int32)) hx hb dX7_rats_1 (by decide) ?_
    obtain ⟨z1, hz1, h⟩ := jb h
    refine jki (jrS (As := [.int a1, .int (1 : Int32)]) (rest := []) ⟨hx, hb, hml, hown, hts⟩ (c_X7_within l D cyI cyZ cyT   a1 (1 : Int32) z1 hz1) (va_cwS 2 hts gX7_rats_X7_within rfl rfl rfl (by decide +kernel) ⟨Nat.le_of_ble_eq_true rfl, Nat.le_of_ble_eq_true rfl⟩) hK jP0 rfl rfl hl.1 (Nat.le_of_ble_eq_true rfl) dX7_rats_2 ⟨Nat.le_of_ble_eq_true rfl, Nat.le_of_ble_eq_true rfl⟩) ?_
    clear hz1
    refine lv_if_ne (tgt := 11) hx hb dX7_rats_5 (by decide) (fun c2 => ?_) (fun c2 => ?_)
    · have h := jf c2 h
      refine lv_iconst (v := (-1 : Int32)) hx hb dX7_rats_11 (by decide) ?_
      refine lv_istore_n (lv' := [(2, .int (-1 : Int32)), (0, .ref (qa 0)), (1, .int a1)]) hx hb dX7_rats_12 rfl hl (by decide) rfl (fun ls hl => ?_)
      refine lv_iconst (v := (0 : Int32)) hx hb dX7_rats_13 (by decide) ?_
      refine lv_istore_n (lv' := [(3, .int (0 : Int32)), (2, .int (-1 : Int32)), (0, .ref (qa 0)), (1, .int a1)]) hx hb dX7_rats_14 rfl hl (by decide) rfl (fun ls hl => ?_)
      refine lv_iconst (v := (0 : Int32)) hx hb dX7_rats_15 (by decide) ?_
      refine lv_istore (lv' := [(4, .int (0 : Int32)), (3, .int (0 : Int32)), (2, .int (-1 : Int32)), (0, .ref (qa 0)), (1, .int a1)]) hx hb dX7_rats_16 hl (by decide) rfl (fun ls hl => ?_)
      obtain ⟨r3, hz3, h3_⟩ := jb h
      have hex3 : ∀ e3 : (Int32 × Int32), r3 = e3 → ∀ (ls : Array Slot), lv_has ls 5 [(1, .int a1), (2, .int e3.1), (3, .int e3.2)] → W p l e rm_X7_rats s m args below meth c H [] 0 0 (MQ below (jSi o) args s 0 0 (fun _ => False)) (F0 m 62 ls []) := by
        intro e3 he ls hl
        rw [he] at h3_
        have h := h3_
        clear hz3
        refine lv_iload_n hx hb dX7_rats_62 rfl (lv_at hl 1 rfl) ?_
        refine lv_iconst (v := (-1 : Int32)) hx hb dX7_rats_63 (by decide) ?_
        refine lv_icmp_ne (tgt := 69) hx hb dX7_rats_64 (by decide) (fun c9 => ?_) (fun c9 => ?_)
        · have h := jf c9 h
          refine lv_iload_n hx hb dX7_rats_69 rfl (lv_at hl 0 rfl) ?_
          refine lv_if_ne (tgt := 77) hx hb dX7_rats_70 (by decide) (fun c10 => ?_) (fun c10 => ?_)
          · have h := jf c10 h
            refine lv_iload_n hx hb dX7_rats_77 rfl (lv_at hl 2 rfl) ?_
            exact W.iret hx hb hr (fun t ht _ => ⟨_, rfl, Option.some.inj h, ht.trans hH⟩) (fun q h => by cases h) dX7_rats_78 hlocks
          · have h := jt c10 h
            refine lv_iload_n hx hb dX7_rats_73 rfl (lv_at hl 1 rfl) ?_
            refine lv_goto (tgt := 78) hx hb dX7_rats_74 (by decide) ?_
            exact W.iret hx hb hr (fun t ht _ => ⟨_, rfl, Option.some.inj h, ht.trans hH⟩) (fun q h => by cases h) dX7_rats_78 hlocks
        · have h := jt c9 h
          refine lv_iconst (v := (-1 : Int32)) hx hb dX7_rats_67 (by decide) ?_
          exact W.iret hx hb hr (fun t ht _ => ⟨_, rfl, Option.some.inj h, ht.trans hH⟩) (fun q h => by cases h) dX7_rats_68 hlocks
      have hlp3 : ∀ (nn : Nat) (z3 : (Int32 × Int32 × Int32)), jw (X7_rats_s18 X) nn z3 = some r3 → ∀ (ls : Array Slot), lv_has ls 5 [(0, .ref (qa 0)), (1, .int a1), (2, .int z3.1), (3, .int z3.2.1), (4, .int z3.2.2)] → W p l e rm_X7_rats s m args below meth c H [] 0 0 (MQ below (jSi o) args s 0 0 (fun _ => False)) (F0 m 18 ls []) := by
        refine jw_P (r := r3) (P := fun z3 : (Int32 × Int32 × Int32) => ∀ (ls : Array Slot), lv_has ls 5 [(0, .ref (qa 0)), (1, .int a1), (2, .int z3.1), (3, .int z3.2.1), (4, .int z3.2.2)] → W p l e rm_X7_rats s m args below meth c H [] 0 0 (MQ below (jSi o) args s 0 0 (fun _ => False)) (F0 m 18 ls [])) ?_
        intro z3 x3 h hin hout ls hl
        unfold X7_rats_s18 at h
        refine lv_iload hx hb dX7_rats_18 (lv_at hl 4 rfl) ?_
        refine lv_aload_n hx hb dX7_rats_20 rfl (lv_at hl 0 rfl) ?_
        refine va_get (D := D) (ci := 7) (v := .ref (qa 4)) (C := RX7) (T := TX7) (N := 10) hx hb hts in_X7_rats_X7 hown hK.1 hP 0 rfl rfl 1 (by decide) (hts _ kw_X7_rats_1) (fun _ h9 => h9) rfl dX7_rats_21 ?_
        refine va_get (D := D) (ci := 0) (v := .int ((X.1 1).2 2)) (C := RX0) (T := TX0) (N := 12) hx hb hts in_X7_rats_X0 hown hK.1 hP 4 rfl rfl 10 (by decide) (hts _ kw_X7_rats_2) (fun _ h9 => h9) rfl dX7_rats_24 ?_
        refine lv_icmp_ge (tgt := 62) hx hb dX7_rats_27 (by decide) (fun c4 => ?_) (fun c4 => ?_)
        · have h := jt c4 h
          exact hex3 _ (hout _ (Option.some.inj h).symm).symm ls (lv_sub hl [1, 2, 3] rfl)
        · have h := jf c4 h
          refine lv_aload_n hx hb dX7_rats_30 rfl (lv_at hl 0 rfl) ?_
          refine va_get (D := D) (ci := 7) (v := .ref (qa 4)) (C := RX7) (T := TX7) (N := 10) hx hb hts in_X7_rats_X7 hown hK.1 hP 0 rfl rfl 1 (by decide) (hts _ kw_X7_rats_1) (fun _ h9 => h9) rfl dX7_rats_31 ?_
          refine lv_iload hx hb dX7_rats_34 (lv_at hl 4 rfl) ?_
          obtain ⟨z5, hz5, h⟩ := jb h
          refine jki (jrV (As := [.int z3.2.2]) (rest := []) ⟨hx, hb, hml, hown, hts⟩ (c_X0_worthOf l D cyI cyZ cyT (fun k => qa (4 + k))  z3.2.2 (X.1 1) z5 hz5) (cwV 1 hts gX7_rats_X0_worthOf rfl rfl rfl (by decide +kernel) ⟨Nat.le_of_ble_eq_true rfl, Nat.le_of_ble_eq_true rfl⟩) hK (hP.sub (ws' := wH cyI (fun k => qa (4 + k)) (X.1 1)) [4, 5, 6, 7, 8, 9, 10, 11, 12] rfl) rfl 0 0 rfl rfl rfl hl.1 (Nat.le_of_ble_eq_true rfl) dX7_rats_36 ⟨Nat.le_of_ble_eq_true rfl, Nat.le_of_ble_eq_true rfl⟩) ?_
          clear hz5
          refine lv_iload_n hx hb dX7_rats_39 rfl (lv_at hl 3 rfl) ?_
          obtain ⟨z6, hz6, h⟩ := jb h
          have hk6 : ∀ (ls : Array Slot), lv_has ls 5 [(0, .ref (qa 0)), (1, .int a1), (2, .int z6.1), (3, .int z6.2), (4, .int z3.2.2)] → W p l e rm_X7_rats s m args below meth c H [] 0 0 (MQ below (jSi o) args s 0 0 (fun _ => False)) (F0 m 56 ls []) := by
            intro ls hl
            refine lv_iinc (v := z3.2.2 + (1 : Int32)) (lv' := [(4, .int (z3.2.2 + (1 : Int32))), (0, .ref (qa 0)), (1, .int a1), (2, .int z6.1), (3, .int z6.2)]) hx hb dX7_rats_56 hl (k := 4) rfl rfl (by decide) rfl (fun ls hl => ?_)
            refine lv_goto (tgt := 18) hx hb dX7_rats_59 (by decide) ?_
            exact hin _ (Option.some.inj h).symm ls (lv_sub hl [1, 2, 3, 4, 0] rfl)
          clear h
          have h := hz6
          clear hz6
          refine lv_icmp_le (tgt := 56) hx hb dX7_rats_40 (by decide) (fun c7 => ?_) (fun c7 => ?_)
          · have h := jt c7 h
            obtain rfl := Option.some.inj h
            exact hk6 ls (lv_sub hl [0, 1, 2, 3, 4] rfl)
          · have h := jf c7 h
            refine lv_iload hx hb dX7_rats_43 (lv_at hl 4 rfl) ?_
            refine lv_istore_n (lv' := [(2, .int z3.2.2), (0, .ref (qa 0)), (1, .int a1), (3, .int z3.2.1), (4, .int z3.2.2)]) hx hb dX7_rats_45 rfl hl (by decide) rfl (fun ls hl => ?_)
            refine lv_aload_n hx hb dX7_rats_46 rfl (lv_at hl 1 rfl) ?_
            refine va_get (D := D) (ci := 7) (v := .ref (qa 4)) (C := RX7) (T := TX7) (N := 10) hx hb hts in_X7_rats_X7 hown hK.1 hP 0 rfl rfl 1 (by decide) (hts _ kw_X7_rats_1) (fun _ h9 => h9) rfl dX7_rats_47 ?_
            refine lv_iload hx hb dX7_rats_50 (lv_at hl 4 rfl) ?_
            obtain ⟨z8, hz8, h⟩ := jb h
            refine jki (jrV (As := [.int z3.2.2]) (rest := []) ⟨hx, hb, hml, hown, hts⟩ (c_X0_worthOf l D cyI cyZ cyT (fun k => qa (4 + k))  z3.2.2 (X.1 1) z8 hz8) (cwV 1 hts gX7_rats_X0_worthOf rfl rfl rfl (by decide +kernel) ⟨Nat.le_of_ble_eq_true rfl, Nat.le_of_ble_eq_true rfl⟩) hK (hP.sub (ws' := wH cyI (fun k => qa (4 + k)) (X.1 1)) [4, 5, 6, 7, 8, 9, 10, 11, 12] rfl) rfl 0 0 rfl rfl rfl hl.1 (Nat.le_of_ble_eq_true rfl) dX7_rats_52 ⟨Nat.le_of_ble_eq_true rfl, Nat.le_of_ble_eq_true rfl⟩) ?_
            clear hz8
            refine lv_istore_n (lv' := [(3, .int z8), (2, .int z3.2.2), (0, .ref (qa 0)), (1, .int a1), (4, .int z3.2.2)]) hx hb dX7_rats_55 rfl hl (by decide) rfl (fun ls hl => ?_)
            obtain rfl := Option.some.inj h
            exact hk6 ls (lv_sub hl [2, 3, 1, 0, 4] rfl)
      exact hlp3 _ _ hz3 ls (lv_sub hl [3, 4, 2, 1, 0] rfl)
    · have h := jt c2 h
      refine lv_bipush (v := (-3 : Int32)) hx hb dX7_rats_8 (by decide) ?_
      exact W.iret hx hb hr (fun t ht _ => ⟨_, rfl, Option.some.inj h, ht.trans hH⟩) (fun q h => by cases h) dX7_rats_10 hlocks
  exact key s.heap hP rfl
theorem kw_X7_rests_1 : (.fieldLink RX7 65 "BellTheCat" "offers" "LBellTheCat$Offers;" : Cond) ∈ wsX7_rests := List.mem_of_getElem? (i := 1) rfl
theorem kw_X7_rests_2 : (.fieldLink RX7 19 "BellTheCat" "told" "LBellTheCat$House;" : Cond) ∈ wsX7_rests := List.mem_of_getElem? (i := 2) rfl
theorem kw_X7_rests_3 : (.fieldLink RX7 29 "BellTheCat" "now" "LBellTheCat$Team;" : Cond) ∈ wsX7_rests := List.mem_of_getElem? (i := 3) rfl
theorem kw_X7_rests_4 : (.fieldLink RX7 223 "BellTheCat$Team" "living" "I" : Cond) ∈ wsX7_rests := List.mem_of_getElem? (i := 4) rfl
theorem in_X7_rests_X4 : ∀ w ∈ wsX40, w ∈ wsX7_rests := fun w h => List.mem_cons_of_mem _ (List.mem_append_left _ (List.mem_append_left _ (List.mem_append_right _ h)))
theorem in_X7_rests_X7 : ∀ w ∈ wsX70, w ∈ wsX7_rests := fun w h => List.mem_cons_of_mem _ (List.mem_append_left _ (List.mem_append_left _ (List.mem_append_left _ (List.mem_append_right _ h))))
abbrev rm_X7_rests : Room := { frames := 6, cells := 0, slots := 0, locals := 188 }
set_option maxHeartbeats 4000000 in
set_option maxRecDepth 100000 in
theorem c_X7_rests (l : Launch) (D : va_G) (cyI cyZ cyT : ClassId) (qa : Nat → Nat) (sz : Nat) (N : Nat) (a1 : Int32) (a2 : Int32) (X : BX) (o : (Int32 × BX)) (hf : f_X7_rests N a1 a2 X = some o) : Met l yX7_rests wsX7_rests rm_X7_rests (va_Pc [.ref (qa 0), .int a1, .int a2] (jM D cyI cyZ cyT (wX cyI cyZ cyT qa X) sz)) (jQi D (va_A (wX cyI cyZ cyT qa X) sz) (fun u : BX => wX cyI cyZ cyT qa u) o) 0 0 (va_A (wX cyI cyZ cyT qa X) sz) := by
  refine Met.ofW (cc := cX7_rests) (maxL := 3) (ret := (some .int)) (by decide) rfl ?_
  intro p e s m args below meth c s₁ B hml hv
  obtain ⟨rfl, hsz, hP, hK, hD0⟩ := hv
  have hx := B.exec
  have hb := B.bytes
  have hr := B.returns
  have hts := atoms_spec (ws := wsX7_rests) B.pre
  have hown : s.vm.findClass RX7 = some m.cls := findClass_of_methodNamed B.named
  have hlocks := B.notSynchronized
  subst hsz
  have hD := hD0.self (sz := s.heap.size)
  generalize hAe : va_A (wX cyI cyZ cyT qa X) s.heap.size = A at hD ⊢
  have hA : ∀ q : Nat, s.heap.size ≤ q → A q := fun q h => by rw [← hAe]; exact Or.inr h
  have hS : va_S A s.heap s.heap [] := va_S.rf
  have hl := lv_entry ([.ref (qa 0), .int a1, .int a2]) (n := 3) (Nat.le_of_ble_eq_true rfl)
  rw [lg_entry_eq]
  generalize (lg_sl ([.ref (qa 0), .int a1, .int a2]) ++ List.replicate (3 - (lg_sl ([.ref (qa 0), .int a1, .int a2])).length) Slot.unset).toArray = ls at hl ⊢
  have hl : lv_has ls 3 [(0, .ref (qa 0)), (1, .int a1), (2, .int a2)] := hl
  clear B
  generalize ([.ref (qa 0), .int a1, .int a2] : List Value).toArray = args at hts ⊢
  have key : ∀ (H : Heap) (locs : List Loc), va_P D vwCl (wX cyI cyZ cyT qa X) H → va_D A (wX cyI cyZ cyT qa X) → va_S A s.heap H locs → W p l e rm_X7_rests s m args below meth c H locs 0 0 (MQ below (jQi D A (fun u : BX => wX cyI cyZ cyT qa u) o) args s 0 0 A) (F0 m 0 ls []) := by
    intro H locs hP hD hS
    have h := hf
    unfold f_X7_rests at h
    refine lv_iload_n hx hb dX7_rests_0 rfl (lv_at hl 1 rfl) ?_
    refine lv_bipush (v := (99 : Int32)) hx hb dX7_rests_1 (by decide) ?_
    obtain ⟨z1, hz1, h⟩ := jb h
    refine jki (jrS (As := [.int a1, .int (99 : Int32)]) (rest := []) ⟨hx, hb, hml, hown, hts⟩ (c_X7_within l D cyI cyZ cyT   a1 (99 : Int32) z1 hz1) (va_cwS 2 hts gX7_rests_X7_within rfl rfl rfl (by decide +kernel) ⟨Nat.le_of_ble_eq_true rfl, Nat.le_of_ble_eq_true rfl⟩) hK jP0 rfl rfl hl.1 (Nat.le_of_ble_eq_true rfl) dX7_rests_3 ⟨Nat.le_of_ble_eq_true rfl, Nat.le_of_ble_eq_true rfl⟩) ?_
    clear hz1
    refine lv_if_eq (tgt := 17) hx hb dX7_rests_6 (by decide) (fun c2 => ?_) (fun c2 => ?_)
    · have h := jt c2 h
      refine lv_bipush (v := (-3 : Int32)) hx hb dX7_rests_17 (by decide) ?_
      exact W.iret hx hb hr (fun t ht _ => ⟨⟨_, _, rfl, Option.some.inj h, by rw [ht]; exact hP, hD⟩, hS.F ht⟩) hS.2.2 dX7_rests_19 hlocks
    · have h := jf c2 h
      refine lv_iload_n hx hb dX7_rests_9 rfl (lv_at hl 2 rfl) ?_
      refine lv_iconst (v := (1 : Int32)) hx hb dX7_rests_10 (by decide) ?_
      obtain ⟨z3, hz3, h⟩ := jb h
      refine jki (jrS (As := [.int a2, .int (1 : Int32)]) (rest := []) ⟨hx, hb, hml, hown, hts⟩ (c_X7_within l D cyI cyZ cyT   a2 (1 : Int32) z3 hz3) (va_cwS 2 hts gX7_rests_X7_within rfl rfl rfl (by decide +kernel) ⟨Nat.le_of_ble_eq_true rfl, Nat.le_of_ble_eq_true rfl⟩) hK jP0 rfl rfl hl.1 (Nat.le_of_ble_eq_true rfl) dX7_rests_11 ⟨Nat.le_of_ble_eq_true rfl, Nat.le_of_ble_eq_true rfl⟩) ?_
      clear hz3
      refine lv_if_ne (tgt := 20) hx hb dX7_rests_14 (by decide) (fun c4 => ?_) (fun c4 => ?_)
      · have h := jf c4 h
        refine lv_aload_n hx hb dX7_rests_20 rfl (lv_at hl 0 rfl) ?_
        refine va_get (D := D) (ci := 7) (v := .ref (qa 54)) (C := RX7) (T := TX7) (N := 10) hx hb hts in_X7_rests_X7 hown hK.1 hP 0 rfl rfl 9 (by decide) (hts _ kw_X7_rests_1) (fun _ h9 => h9) rfl dX7_rests_21 ?_
        refine lv_aload_n hx hb dX7_rests_24 rfl (lv_at hl 0 rfl) ?_
        refine va_get (D := D) (ci := 7) (v := .ref (qa 4)) (C := RX7) (T := TX7) (N := 10) hx hb hts in_X7_rests_X7 hown hK.1 hP 0 rfl rfl 1 (by decide) (hts _ kw_X7_rests_2) (fun _ h9 => h9) rfl dX7_rests_25 ?_
        refine lv_aload_n hx hb dX7_rests_28 rfl (lv_at hl 0 rfl) ?_
        refine va_get (D := D) (ci := 7) (v := .ref (qa 22)) (C := RX7) (T := TX7) (N := 10) hx hb hts in_X7_rests_X7 hown hK.1 hP 0 rfl rfl 3 (by decide) (hts _ kw_X7_rests_3) (fun _ h9 => h9) rfl dX7_rests_29 ?_
        refine va_get (D := D) (ci := 4) (v := .int ((X.1 3).2 1)) (C := RX4) (T := TX4) (N := 4) hx hb hts in_X7_rests_X4 hown hK.1 hP 22 rfl rfl 2 (by decide) (hts _ kw_X7_rests_4) (fun _ h9 => h9) rfl dX7_rests_32 ?_
        refine lv_iload_n hx hb dX7_rests_35 rfl (lv_at hl 1 rfl) ?_
        obtain ⟨z5, hz5, h⟩ := jb h
        refine jgv (w1 := fun u : Mo => wO (fun k => qa (54 + k)) u ++ wH cyI (fun k => qa (4 + k)) (X.1 1)) (wn := wX cyI cyZ cyT qa (va_up X.1 8 z5, X.2.1, X.2.2.1, X.2.2.2)) (jmV (As := [.ref (qa 4), .int ((X.1 3).2 1), .int a1]) (rest := []) ⟨hx, hb, hml, hown, hts⟩ (c_X1_weigh l D cyI cyZ cyT (fun k => qa (54 + k)) (fun k => qa (4 + k)) H.size N ((X.1 3).2 1) a1 (X.1 8) (X.1 1) z5 hz5) (cwV 3 hts gX7_rests_X1_weigh rfl rfl rfl (by decide +kernel) ⟨Nat.le_of_ble_eq_true rfl, Nat.le_of_ble_eq_true rfl⟩) hK (hP.sub (ws' := wO (fun k => qa (54 + k)) (X.1 8) ++ wH cyI (fun k => qa (4 + k)) (X.1 1)) [54, 4, 5, 6, 7, 8, 9, 10, 11, 12] rfl) (hD.sub (ws' := wO (fun k => qa (54 + k)) (X.1 8) ++ wH cyI (fun k => qa (4 + k)) (X.1 1)) [54, 4, 5, 6, 7, 8, 9, 10, 11, 12] (by decide) rfl) rfl 1 0 rfl rfl rfl hl.1 (Nat.le_of_ble_eq_true rfl) dX7_rests_36 ⟨Nat.le_of_ble_eq_true rfl, Nat.le_of_ble_eq_true rfl⟩) hP hD hS hA [54, 4, 5, 6, 7, 8, 9, 10, 11, 12] [0, 1, 2, 3, 13, 14, 15, 16, 17, 18, 19, 20, 21, 22, 23, 24, 25, 26, 27, 28, 29, 30, 31, 32, 33, 34, 35, 36, 37, 38, 39, 40, 41, 42, 43, 44, 45, 46, 47, 48, 49, 50, 51, 52, 53] [0, 1, 2, 3, 46, 47, 48, 49, 50, 51, 52, 53, 54, 4, 5, 6, 7, 8, 9, 10, 11, 12, 13, 14, 15, 16, 17, 18, 19, 20, 21, 22, 23, 24, 25, 26, 27, 28, 29, 30, 31, 32, 33, 34, 35, 36, 37, 38, 39, 40, 41, 42, 43, 44, 45] rfl rfl (by decide) (by decide) rfl (by decide) (fun H locs hP hD hS => ?_)
        clear hz5
        refine lv_iload_n hx hb dX7_rests_39 rfl (lv_at hl 2 rfl) ?_
        refine lv_if_ne (tgt := 53) hx hb dX7_rests_40 (by decide) (fun c6 => ?_) (fun c6 => ?_)
        · have h := jf c6 h
          refine lv_aload_n hx hb dX7_rests_53 rfl (lv_at hl 0 rfl) ?_
          refine va_get (D := D) (ci := 7) (v := .ref (qa 54)) (C := RX7) (T := TX7) (N := 10) hx hb hts in_X7_rests_X7 hown hK.1 hP 0 rfl rfl 9 (by decide) (hts _ kw_X7_rests_1) (fun _ h9 => h9) rfl dX7_rests_54 ?_
          obtain ⟨z7, hz7, h⟩ := jb h
          refine jki (jrV (As := []) (rest := []) ⟨hx, hb, hml, hown, hts⟩ (c_X1_leastAtRest l D cyI cyZ cyT (fun k => qa (54 + k))  N z5 z7 hz7) (cwV 0 hts gX7_rests_X1_leastAtRest rfl rfl rfl (by decide +kernel) ⟨Nat.le_of_ble_eq_true rfl, Nat.le_of_ble_eq_true rfl⟩) hK (hP.sub (ws' := wO (fun k => qa (54 + k)) z5) [54] rfl) rfl 1 0 rfl rfl rfl hl.1 (Nat.le_of_ble_eq_true rfl) dX7_rests_57 ⟨Nat.le_of_ble_eq_true rfl, Nat.le_of_ble_eq_true rfl⟩) ?_
          clear hz7
          exact W.iret hx hb hr (fun t ht _ => ⟨⟨_, _, rfl, Option.some.inj h, by rw [ht]; exact hP, hD⟩, hS.F ht⟩) hS.2.2 dX7_rests_60 hlocks
        · have h := jt c6 h
          refine lv_aload_n hx hb dX7_rests_43 rfl (lv_at hl 0 rfl) ?_
          refine va_get (D := D) (ci := 7) (v := .ref (qa 54)) (C := RX7) (T := TX7) (N := 10) hx hb hts in_X7_rests_X7 hown hK.1 hP 0 rfl rfl 9 (by decide) (hts _ kw_X7_rests_1) (fun _ h9 => h9) rfl dX7_rests_44 ?_
          obtain ⟨z8, hz8, h⟩ := jb h
          refine jki (jrV (As := []) (rest := []) ⟨hx, hb, hml, hown, hts⟩ (c_X1_howManyRest l D cyI cyZ cyT (fun k => qa (54 + k))  N z5 z8 hz8) (cwV 0 hts gX7_rests_X1_howManyRest rfl rfl rfl (by decide +kernel) ⟨Nat.le_of_ble_eq_true rfl, Nat.le_of_ble_eq_true rfl⟩) hK (hP.sub (ws' := wO (fun k => qa (54 + k)) z5) [54] rfl) rfl 1 0 rfl rfl rfl hl.1 (Nat.le_of_ble_eq_true rfl) dX7_rests_47 ⟨Nat.le_of_ble_eq_true rfl, Nat.le_of_ble_eq_true rfl⟩) ?_
          clear hz8
          refine lv_goto (tgt := 60) hx hb dX7_rests_50 (by decide) ?_
          exact W.iret hx hb hr (fun t ht _ => ⟨⟨_, _, rfl, Option.some.inj h, by rw [ht]; exact hP, hD⟩, hS.F ht⟩) hS.2.2 dX7_rests_60 hlocks
      · have h := jt c4 h
        refine lv_bipush (v := (-3 : Int32)) hx hb dX7_rests_17 (by decide) ?_
        exact W.iret hx hb hr (fun t ht _ => ⟨⟨_, _, rfl, Option.some.inj h, by rw [ht]; exact hP, hD⟩, hS.F ht⟩) hS.2.2 dX7_rests_19 hlocks
  exact key s.heap [] hP hD hS
theorem kw_X7_seen_1 : (.fieldLink RX7 19 "BellTheCat" "told" "LBellTheCat$House;" : Cond) ∈ wsX7_seen := List.mem_of_getElem? (i := 1) rfl
theorem kw_X7_seen_2 : (.fieldLink RX7 51 "BellTheCat" "sightings" "LBellTheCat$Sightings;" : Cond) ∈ wsX7_seen := List.mem_of_getElem? (i := 2) rfl
theorem kw_X7_seen_3 : (.fieldLink RX7 99 "BellTheCat$Sightings" "size" "I" : Cond) ∈ wsX7_seen := List.mem_of_getElem? (i := 3) rfl
theorem in_X7_seen_X3 : ∀ w ∈ wsX30, w ∈ wsX7_seen := fun w h => List.mem_cons_of_mem _ (List.mem_append_left _ (List.mem_append_right _ h))
theorem in_X7_seen_X7 : ∀ w ∈ wsX70, w ∈ wsX7_seen := fun w h => List.mem_cons_of_mem _ (List.mem_append_left _ (List.mem_append_left _ (List.mem_append_right _ h)))
abbrev rm_X7_seen : Room := { frames := 1, cells := 0, slots := 0, locals := 22 }
set_option maxHeartbeats 4000000 in
set_option maxRecDepth 100000 in
theorem c_X7_seen (l : Launch) (D : va_G) (cyI cyZ cyT : ClassId) (qa : Nat → Nat) (sz : Nat) (a1 : Int32) (a2 : Int32) (X : BX) (o : (Int32 × BX)) (hf : f_X7_seen a1 a2 X = some o) : Met l yX7_seen wsX7_seen rm_X7_seen (va_Pc [.ref (qa 0), .int a1, .int a2] (jM D cyI cyZ cyT (wX cyI cyZ cyT qa X) sz)) (jQi D (va_A (wX cyI cyZ cyT qa X) sz) (fun u : BX => wX cyI cyZ cyT qa u) o) 0 0 (va_A (wX cyI cyZ cyT qa X) sz) := by
  refine Met.ofW (cc := cX7_seen) (maxL := 3) (ret := (some .int)) (by decide) rfl ?_
  intro p e s m args below meth c s₁ B hml hv
  obtain ⟨rfl, hsz, hP, hK, hD0⟩ := hv
  have hx := B.exec
  have hb := B.bytes
  have hr := B.returns
  have hts := atoms_spec (ws := wsX7_seen) B.pre
  have hown : s.vm.findClass RX7 = some m.cls := findClass_of_methodNamed B.named
  have hlocks := B.notSynchronized
  subst hsz
  have hD := hD0.self (sz := s.heap.size)
  generalize hAe : va_A (wX cyI cyZ cyT qa X) s.heap.size = A at hD ⊢
  have hA : ∀ q : Nat, s.heap.size ≤ q → A q := fun q h => by rw [← hAe]; exact Or.inr h
  have hS : va_S A s.heap s.heap [] := va_S.rf
  have hl := lv_entry ([.ref (qa 0), .int a1, .int a2]) (n := 3) (Nat.le_of_ble_eq_true rfl)
  rw [lg_entry_eq]
  generalize (lg_sl ([.ref (qa 0), .int a1, .int a2]) ++ List.replicate (3 - (lg_sl ([.ref (qa 0), .int a1, .int a2])).length) Slot.unset).toArray = ls at hl ⊢
  have hl : lv_has ls 3 [(0, .ref (qa 0)), (1, .int a1), (2, .int a2)] := hl
  clear B
  generalize ([.ref (qa 0), .int a1, .int a2] : List Value).toArray = args at hts ⊢
  have key : ∀ (H : Heap) (locs : List Loc), va_P D vwCl (wX cyI cyZ cyT qa X) H → va_D A (wX cyI cyZ cyT qa X) → va_S A s.heap H locs → W p l e rm_X7_seen s m args below meth c H locs 0 0 (MQ below (jQi D A (fun u : BX => wX cyI cyZ cyT qa u) o) args s 0 0 A) (F0 m 0 ls []) := by
    intro H locs hP hD hS
    have h := hf
    unfold f_X7_seen at h
    refine lv_aload_n hx hb dX7_seen_0 rfl (lv_at hl 0 rfl) ?_
    refine va_get (D := D) (ci := 7) (v := .ref (qa 4)) (C := RX7) (T := TX7) (N := 10) hx hb hts in_X7_seen_X7 hown hK.1 hP 0 rfl rfl 1 (by decide) (hts _ kw_X7_seen_1) (fun _ h9 => h9) rfl dX7_seen_1 ?_
    refine lv_iload_n hx hb dX7_seen_4 rfl (lv_at hl 1 rfl) ?_
    obtain ⟨z1, hz1, h⟩ := jb h
    refine jki (jrV (As := [.int a1]) (rest := []) ⟨hx, hb, hml, hown, hts⟩ (c_X0_hasStep l D cyI cyZ cyT (fun k => qa (4 + k))  a1 (X.1 1) z1 hz1) (cwV 1 hts gX7_seen_X0_hasStep rfl rfl rfl (by decide +kernel) ⟨Nat.le_of_ble_eq_true rfl, Nat.le_of_ble_eq_true rfl⟩) hK (hP.sub (ws' := wH cyI (fun k => qa (4 + k)) (X.1 1)) [4, 5, 6, 7, 8, 9, 10, 11, 12] rfl) rfl 0 0 rfl rfl rfl hl.1 (Nat.le_of_ble_eq_true rfl) dX7_seen_5 ⟨Nat.le_of_ble_eq_true rfl, Nat.le_of_ble_eq_true rfl⟩) ?_
    clear hz1
    refine lv_if_eq (tgt := 22) hx hb dX7_seen_8 (by decide) (fun c2 => ?_) (fun c2 => ?_)
    · have h := jt c2 h
      refine lv_bipush (v := (-2 : Int32)) hx hb dX7_seen_22 (by decide) ?_
      exact W.iret hx hb hr (fun t ht _ => ⟨⟨_, _, rfl, Option.some.inj h, by rw [ht]; exact hP, hD⟩, hS.F ht⟩) hS.2.2 dX7_seen_24 hlocks
    · have h := jf c2 h
      refine lv_aload_n hx hb dX7_seen_11 rfl (lv_at hl 0 rfl) ?_
      refine va_get (D := D) (ci := 7) (v := .ref (qa 4)) (C := RX7) (T := TX7) (N := 10) hx hb hts in_X7_seen_X7 hown hK.1 hP 0 rfl rfl 1 (by decide) (hts _ kw_X7_seen_1) (fun _ h9 => h9) rfl dX7_seen_12 ?_
      refine lv_iload_n hx hb dX7_seen_15 rfl (lv_at hl 2 rfl) ?_
      obtain ⟨z3, hz3, h⟩ := jb h
      refine jki (jrV (As := [.int a2]) (rest := []) ⟨hx, hb, hml, hown, hts⟩ (c_X0_hasMouse l D cyI cyZ cyT (fun k => qa (4 + k))  a2 (X.1 1) z3 hz3) (cwV 1 hts gX7_seen_X0_hasMouse rfl rfl rfl (by decide +kernel) ⟨Nat.le_of_ble_eq_true rfl, Nat.le_of_ble_eq_true rfl⟩) hK (hP.sub (ws' := wH cyI (fun k => qa (4 + k)) (X.1 1)) [4, 5, 6, 7, 8, 9, 10, 11, 12] rfl) rfl 0 0 rfl rfl rfl hl.1 (Nat.le_of_ble_eq_true rfl) dX7_seen_16 ⟨Nat.le_of_ble_eq_true rfl, Nat.le_of_ble_eq_true rfl⟩) ?_
      clear hz3
      refine lv_if_ne (tgt := 25) hx hb dX7_seen_19 (by decide) (fun c4 => ?_) (fun c4 => ?_)
      · have h := jf c4 h
        refine lv_aload_n hx hb dX7_seen_25 rfl (lv_at hl 0 rfl) ?_
        refine va_get (D := D) (ci := 7) (v := .ref (qa 48)) (C := RX7) (T := TX7) (N := 10) hx hb hts in_X7_seen_X7 hown hK.1 hP 0 rfl rfl 7 (by decide) (hts _ kw_X7_seen_2) (fun _ h9 => h9) rfl dX7_seen_26 ?_
        refine lv_iload_n hx hb dX7_seen_29 rfl (lv_at hl 1 rfl) ?_
        refine lv_iload_n hx hb dX7_seen_30 rfl (lv_at hl 2 rfl) ?_
        obtain ⟨z5, hz5, h⟩ := jb h
        refine jgi (w1 := fun u : Mo => wG cyI (fun k => qa (48 + k)) u) (wn := wX cyI cyZ cyT qa (va_up X.1 6 z5.2, X.2.1, X.2.2.1, X.2.2.2)) (jmV (As := [.int a1, .int a2]) (rest := []) ⟨hx, hb, hml, hown, hts⟩ (c_X3_add l D cyI cyZ cyT (fun k => qa (48 + k)) H.size a1 a2 (X.1 6) z5 hz5) (cwV 2 hts gX7_seen_X3_add rfl rfl rfl (by decide +kernel) ⟨Nat.le_of_ble_eq_true rfl, Nat.le_of_ble_eq_true rfl⟩) hK (hP.sub (ws' := wG cyI (fun k => qa (48 + k)) (X.1 6)) [48, 49, 50] rfl) (hD.sub (ws' := wG cyI (fun k => qa (48 + k)) (X.1 6)) [48, 49, 50] (by decide) rfl) rfl 3 0 rfl rfl rfl hl.1 (Nat.le_of_ble_eq_true rfl) dX7_seen_31 ⟨Nat.le_of_ble_eq_true rfl, Nat.le_of_ble_eq_true rfl⟩) hP hD hS hA [48, 49, 50] [0, 1, 2, 3, 4, 5, 6, 7, 8, 9, 10, 11, 12, 13, 14, 15, 16, 17, 18, 19, 20, 21, 22, 23, 24, 25, 26, 27, 28, 29, 30, 31, 32, 33, 34, 35, 36, 37, 38, 39, 40, 41, 42, 43, 44, 45, 46, 47, 51, 52, 53, 54] [0, 1, 2, 3, 4, 5, 6, 7, 8, 9, 10, 11, 12, 13, 14, 15, 16, 17, 18, 19, 20, 21, 22, 23, 24, 25, 26, 27, 28, 29, 30, 31, 32, 33, 34, 35, 36, 37, 38, 39, 40, 41, 42, 43, 44, 45, 46, 47, 52, 53, 54, 48, 49, 50, 51] rfl rfl (by decide) (by decide) rfl (by decide) (fun H locs hP hD hS => ?_)
        clear hz5
        refine lv_if_eq (tgt := 47) hx hb dX7_seen_34 (by decide) (fun c6 => ?_) (fun c6 => ?_)
        · have h := jt c6 h
          refine lv_bipush (v := (-5 : Int32)) hx hb dX7_seen_47 (by decide) ?_
          exact W.iret hx hb hr (fun t ht _ => ⟨⟨_, _, rfl, Option.some.inj h, by rw [ht]; exact hP, hD⟩, hS.F ht⟩) hS.2.2 dX7_seen_49 hlocks
        · have h := jf c6 h
          refine lv_aload_n hx hb dX7_seen_37 rfl (lv_at hl 0 rfl) ?_
          refine va_get (D := D) (ci := 7) (v := .ref (qa 48)) (C := RX7) (T := TX7) (N := 10) hx hb hts in_X7_seen_X7 hown hK.1 hP 0 rfl rfl 7 (by decide) (hts _ kw_X7_seen_2) (fun _ h9 => h9) rfl dX7_seen_38 ?_
          refine va_get (D := D) (ci := 3) (v := .int (z5.2.2 0)) (C := RX3) (T := TX3) (N := 3) hx hb hts in_X7_seen_X3 hown hK.1 hP 48 rfl rfl 2 (by decide) (hts _ kw_X7_seen_3) (fun _ h9 => h9) rfl dX7_seen_41 ?_
          refine lv_goto (tgt := 49) hx hb dX7_seen_44 (by decide) ?_
          exact W.iret hx hb hr (fun t ht _ => ⟨⟨_, _, rfl, Option.some.inj h, by rw [ht]; exact hP, hD⟩, hS.F ht⟩) hS.2.2 dX7_seen_49 hlocks
      · have h := jt c4 h
        refine lv_bipush (v := (-2 : Int32)) hx hb dX7_seen_22 (by decide) ?_
        exact W.iret hx hb hr (fun t ht _ => ⟨⟨_, _, rfl, Option.some.inj h, by rw [ht]; exact hP, hD⟩, hS.F ht⟩) hS.2.2 dX7_seen_24 hlocks
  exact key s.heap [] hP hD hS
abbrev rm_X7_waysToChoose : Room := { frames := 0, cells := 0, slots := 0, locals := 0 }
set_option maxHeartbeats 4000000 in
set_option maxRecDepth 100000 in
theorem c_X7_waysToChoose (l : Launch) (D : va_G) (cyI cyZ cyT : ClassId) (N : Nat) (a0 : Int32) (a1 : Int32) (o : Int64) (hf : f_X7_waysToChoose N a0 a1 = some o) : Met l yX7_waysToChoose wsX7_waysToChoose rm_X7_waysToChoose (va_Pc [.int a0, .int a1] (jB D cyI cyZ cyT ([]))) (jSl o) 0 0 (fun _ => False) := by
  refine Met.ofW (cc := cX7_waysToChoose) (maxL := 5) (ret := (some .long)) (by decide) rfl ?_
  intro p e s m args below meth c s₁ B hml hv
  obtain ⟨rfl, hP, hK⟩ := hv
  have hx := B.exec
  have hb := B.bytes
  have hr := B.returns
  have hts := atoms_spec (ws := wsX7_waysToChoose) B.pre
  have hown : s.vm.findClass RX7 = some m.cls := findClass_of_methodNamed B.named
  have hlocks := B.notSynchronized
  have hl := lv_entry ([.int a0, .int a1]) (n := 5) (Nat.le_of_ble_eq_true rfl)
  rw [lg_entry_eq]
  generalize (lg_sl ([.int a0, .int a1]) ++ List.replicate (5 - (lg_sl ([.int a0, .int a1])).length) Slot.unset).toArray = ls at hl ⊢
  have hl : lv_has ls 5 [(0, .int a0), (1, .int a1)] := hl
  clear B
  generalize ([.int a0, .int a1] : List Value).toArray = args at hts ⊢
  have key : ∀ (H : Heap), va_P D vwCl ([]) H → H = s.heap → W p l e rm_X7_waysToChoose s m args below meth c H [] 0 0 (MQ below (jSl o) args s 0 0 (fun _ => False)) (F0 m 0 ls []) := by
    intro H hP hH
    have h := hf
    unfold f_X7_waysToChoose at h
    refine lv_lconst (v := (1 : Int64)) hx hb dX7_waysToChoose_0 (by decide) ?_
    refine lv_lstore_n (lv' := [(2, .long (1 : Int64)), (0, .int a0), (1, .int a1)]) hx hb dX7_waysToChoose_1 rfl hl (by decide) rfl (fun ls hl => ?_)
    refine lv_iconst (v := (1 : Int32)) hx hb dX7_waysToChoose_2 (by decide) ?_
    refine lv_istore (lv' := [(4, .int (1 : Int32)), (2, .long (1 : Int64)), (0, .int a0), (1, .int a1)]) hx hb dX7_waysToChoose_3 hl (by decide) rfl (fun ls hl => ?_)
    obtain ⟨r1, hz1, h1_⟩ := jb h
    have hex1 : ∀ e1 : Int64, r1 = e1 → ∀ (ls : Array Slot), lv_has ls 5 [(2, .long e1)] → W p l e rm_X7_waysToChoose s m args below meth c H [] 0 0 (MQ below (jSl o) args s 0 0 (fun _ => False)) (F0 m 31 ls []) := by
      intro e1 he ls hl
      rw [he] at h1_
      have h := h1_
      clear hz1
      refine lv_lload_n hx hb dX7_waysToChoose_31 rfl (lv_at hl 0 rfl) ?_
      exact W.lret hx hb hr (fun t ht _ => ⟨_, rfl, Option.some.inj h, ht.trans hH⟩) (fun q h => by cases h) dX7_waysToChoose_32 hlocks
    have hlp1 : ∀ (nn : Nat) (z1 : (Int64 × Int32)), jw (X7_waysToChoose_s5 a0 a1) nn z1 = some r1 → ∀ (ls : Array Slot), lv_has ls 5 [(0, .int a0), (1, .int a1), (2, .long z1.1), (4, .int z1.2)] → W p l e rm_X7_waysToChoose s m args below meth c H [] 0 0 (MQ below (jSl o) args s 0 0 (fun _ => False)) (F0 m 5 ls []) := by
      refine jw_P (r := r1) (P := fun z1 : (Int64 × Int32) => ∀ (ls : Array Slot), lv_has ls 5 [(0, .int a0), (1, .int a1), (2, .long z1.1), (4, .int z1.2)] → W p l e rm_X7_waysToChoose s m args below meth c H [] 0 0 (MQ below (jSl o) args s 0 0 (fun _ => False)) (F0 m 5 ls [])) ?_
      intro z1 x1 h hin hout ls hl
      unfold X7_waysToChoose_s5 at h
      refine lv_iload hx hb dX7_waysToChoose_5 (lv_at hl 3 rfl) ?_
      refine lv_iload_n hx hb dX7_waysToChoose_7 rfl (lv_at hl 1 rfl) ?_
      refine lv_icmp_gt (tgt := 31) hx hb dX7_waysToChoose_8 (by decide) (fun c2 => ?_) (fun c2 => ?_)
      · have h := jt c2 h
        exact hex1 _ (hout _ (Option.some.inj h).symm).symm ls (lv_sub hl [2] rfl)
      · have h := jf c2 h
        refine lv_lload_n hx hb dX7_waysToChoose_11 rfl (lv_at hl 2 rfl) ?_
        refine lv_iload_n hx hb dX7_waysToChoose_12 rfl (lv_at hl 0 rfl) ?_
        refine lv_iload_n hx hb dX7_waysToChoose_13 rfl (lv_at hl 1 rfl) ?_
        refine lv_isub hx hb dX7_waysToChoose_14 ?_
        refine lv_iload hx hb dX7_waysToChoose_15 (lv_at hl 3 rfl) ?_
        refine lv_iadd hx hb dX7_waysToChoose_17 ?_
        refine lv_i2l (v := ((a0 - a1) + z1.2).toInt64) hx hb dX7_waysToChoose_18 rfl ?_
        refine lv_lmul hx hb dX7_waysToChoose_19 ?_
        refine lv_iload hx hb dX7_waysToChoose_20 (lv_at hl 3 rfl) ?_
        refine lv_i2l (v := z1.2.toInt64) hx hb dX7_waysToChoose_22 rfl ?_
        obtain ⟨g3, h⟩ := jn h
        refine lv_ldiv hx hb dX7_waysToChoose_23 g3 ?_
        refine lv_lstore_n (lv' := [(2, .long ((z1.1 * (((a0 - a1) + z1.2).toInt64)) / z1.2.toInt64)), (0, .int a0), (1, .int a1), (4, .int z1.2)]) hx hb dX7_waysToChoose_24 rfl hl (by decide) rfl (fun ls hl => ?_)
        refine lv_iinc (v := z1.2 + (1 : Int32)) (lv' := [(4, .int (z1.2 + (1 : Int32))), (2, .long ((z1.1 * (((a0 - a1) + z1.2).toInt64)) / z1.2.toInt64)), (0, .int a0), (1, .int a1)]) hx hb dX7_waysToChoose_25 hl (k := 3) rfl rfl (by decide) rfl (fun ls hl => ?_)
        refine lv_goto (tgt := 5) hx hb dX7_waysToChoose_28 (by decide) ?_
        exact hin _ (Option.some.inj h).symm ls (lv_sub hl [2, 3, 1, 0] rfl)
    exact hlp1 _ _ hz1 ls (lv_sub hl [2, 3, 1, 0] rfl)
  exact key s.heap hP rfl
theorem kw_X7_shoe_1 : (.fieldLink RX7 19 "BellTheCat" "told" "LBellTheCat$House;" : Cond) ∈ wsX7_shoe := List.mem_of_getElem? (i := 1) rfl
theorem kw_X7_shoe_2 : (.constantLong RX7 268 (-2) : Cond) ∈ wsX7_shoe := List.mem_of_getElem? (i := 2) rfl
theorem kw_X7_shoe_3 : (.constantLong RX7 270 (-3) : Cond) ∈ wsX7_shoe := List.mem_of_getElem? (i := 3) rfl
theorem kw_X7_shoe_4 : (.fieldLink RX7 112 "BellTheCat$House" "speeds" "[I" : Cond) ∈ wsX7_shoe := List.mem_of_getElem? (i := 4) rfl
theorem kw_X7_shoe_5 : (.methodLink RX7 272 Lib.Math.min.name : Cond) ∈ wsX7_shoe := List.mem_of_getElem? (i := 5) rfl
theorem kw_X7_shoe_6 : (.static Lib.Math.min.name : Cond) ∈ wsX7_shoe := List.mem_of_getElem? (i := 6) rfl
theorem kw_X7_shoe_7 : (.initialized "java/lang/Math" : Cond) ∈ wsX7_shoe := List.mem_of_getElem? (i := 7) rfl
theorem kw_X7_shoe_8 : (.code Lib.Math.min.name Lib.Math.min.code 2 (some .int) : Cond) ∈ wsX7_shoe := List.mem_of_getElem? (i := 8) rfl
theorem kw_X7_shoe_9 : (.fieldLink RX7 131 "BellTheCat$House" "noises" "[I" : Cond) ∈ wsX7_shoe := List.mem_of_getElem? (i := 9) rfl
theorem kw_X7_shoe_10 : (.fieldLink RX7 108 "BellTheCat$House" "kinds" "[I" : Cond) ∈ wsX7_shoe := List.mem_of_getElem? (i := 10) rfl
theorem in_X7_shoe_X0 : ∀ w ∈ wsX00, w ∈ wsX7_shoe := fun w h => List.mem_cons_of_mem _ (List.mem_append_right _ h)
theorem in_X7_shoe_X7 : ∀ w ∈ wsX70, w ∈ wsX7_shoe := fun w h => List.mem_cons_of_mem _ (List.mem_append_left _ (List.mem_append_right _ h))
abbrev rm_X7_shoe : Room := { frames := 2, cells := 0, slots := 0, locals := 87 }
set_option maxHeartbeats 4000000 in
set_option maxRecDepth 100000 in
theorem c_X7_shoe (l : Launch) (D : va_G) (cyI cyZ cyT : ClassId) (qa : Nat → Nat) (N : Nat) (a1 : Int32) (a2 : Int32) (a3 : Int32) (a4 : Int32) (a5 : Int32) (X : BX) (o : Int64) (hf : f_X7_shoe N a1 a2 a3 a4 a5 X = some o) : Met l yX7_shoe wsX7_shoe rm_X7_shoe (va_Pc [.ref (qa 0), .int a1, .int a2, .int a3, .int a4, .int a5] (jB D cyI cyZ cyT (wX cyI cyZ cyT qa X))) (jSl o) 0 0 (fun _ => False) := by
  refine Met.ofW (cc := cX7_shoe) (maxL := 10) (ret := (some .long)) (by decide) rfl ?_
  intro p e s m args below meth c s₁ B hml hv
  obtain ⟨rfl, hP, hK⟩ := hv
  have hx := B.exec
  have hb := B.bytes
  have hr := B.returns
  have hts := atoms_spec (ws := wsX7_shoe) B.pre
  have hown : s.vm.findClass RX7 = some m.cls := findClass_of_methodNamed B.named
  have hlocks := B.notSynchronized
  have hl := lv_entry ([.ref (qa 0), .int a1, .int a2, .int a3, .int a4, .int a5]) (n := 10) (Nat.le_of_ble_eq_true rfl)
  rw [lg_entry_eq]
  generalize (lg_sl ([.ref (qa 0), .int a1, .int a2, .int a3, .int a4, .int a5]) ++ List.replicate (10 - (lg_sl ([.ref (qa 0), .int a1, .int a2, .int a3, .int a4, .int a5])).length) Slot.unset).toArray = ls at hl ⊢
  have hl : lv_has ls 10 [(0, .ref (qa 0)), (1, .int a1), (2, .int a2), (3, .int a3), (4, .int a4), (5, .int a5)] := hl
  clear B
  generalize ([.ref (qa 0), .int a1, .int a2, .int a3, .int a4, .int a5] : List Value).toArray = args at hts ⊢
  have key : ∀ (H : Heap), va_P D vwCl (wX cyI cyZ cyT qa X) H → H = s.heap → W p l e rm_X7_shoe s m args below meth c H [] 0 0 (MQ below (jSl o) args s 0 0 (fun _ => False)) (F0 m 0 ls []) := by
    intro H hP hH
    have h := hf
    unfold f_X7_shoe at h
    refine lv_aload_n hx hb dX7_shoe_0 rfl (lv_at hl 0 rfl) ?_
    refine va_get (D := D) (ci := 7) (v := .ref (qa 4)) (C := RX7) (T := TX7) (N := 10) hx hb hts in_X7_shoe_X7 hown hK.1 hP 0 rfl rfl 1 (by decide) (hts _ kw_X7_shoe_1) (fun _ h9 => h9) rfl dX7_shoe_1 ?_
    refine lv_iload_n hx hb dX7_shoe_4 rfl (lv_at hl 1 rfl) ?_
    obtain ⟨z1, hz1, h⟩ := jb h
    refine jki (jrV (As := [.int a1]) (rest := []) ⟨hx, hb, hml, hown, hts⟩ (c_X0_hasMouse l D cyI cyZ cyT (fun k => qa (4 + k))  a1 (X.1 1) z1 hz1) (cwV 1 hts gX7_shoe_X0_hasMouse rfl rfl rfl (by decide +kernel) ⟨Nat.le_of_ble_eq_true rfl, Nat.le_of_ble_eq_true rfl⟩) hK (hP.sub (ws' := wH cyI (fun k => qa (4 + k)) (X.1 1)) [4, 5, 6, 7, 8, 9, 10, 11, 12] rfl) rfl 0 0 rfl rfl rfl hl.1 (Nat.le_of_ble_eq_true rfl) dX7_shoe_5 ⟨Nat.le_of_ble_eq_true rfl, Nat.le_of_ble_eq_true rfl⟩) ?_
    clear hz1
    refine lv_if_eq (tgt := 22) hx hb dX7_shoe_8 (by decide) (fun c2 => ?_) (fun c2 => ?_)
    · have h := jt c2 h
      refine lv_ldc2 (v := (-2 : Int64)) hx hb hown (hts _ kw_X7_shoe_2) dX7_shoe_22 ?_
      exact W.lret hx hb hr (fun t ht _ => ⟨_, rfl, Option.some.inj h, ht.trans hH⟩) (fun q h => by cases h) dX7_shoe_25 hlocks
    · have h := jf c2 h
      refine lv_aload_n hx hb dX7_shoe_11 rfl (lv_at hl 0 rfl) ?_
      refine va_get (D := D) (ci := 7) (v := .ref (qa 4)) (C := RX7) (T := TX7) (N := 10) hx hb hts in_X7_shoe_X7 hown hK.1 hP 0 rfl rfl 1 (by decide) (hts _ kw_X7_shoe_1) (fun _ h9 => h9) rfl dX7_shoe_12 ?_
      refine lv_iload_n hx hb dX7_shoe_15 rfl (lv_at hl 2 rfl) ?_
      obtain ⟨z3, hz3, h⟩ := jb h
      refine jki (jrV (As := [.int a2]) (rest := []) ⟨hx, hb, hml, hown, hts⟩ (c_X0_hasStep l D cyI cyZ cyT (fun k => qa (4 + k))  a2 (X.1 1) z3 hz3) (cwV 1 hts gX7_shoe_X0_hasStep rfl rfl rfl (by decide +kernel) ⟨Nat.le_of_ble_eq_true rfl, Nat.le_of_ble_eq_true rfl⟩) hK (hP.sub (ws' := wH cyI (fun k => qa (4 + k)) (X.1 1)) [4, 5, 6, 7, 8, 9, 10, 11, 12] rfl) rfl 0 0 rfl rfl rfl hl.1 (Nat.le_of_ble_eq_true rfl) dX7_shoe_16 ⟨Nat.le_of_ble_eq_true rfl, Nat.le_of_ble_eq_true rfl⟩) ?_
      clear hz3
      refine lv_if_ne (tgt := 26) hx hb dX7_shoe_19 (by decide) (fun c4 => ?_) (fun c4 => ?_)
      · have h := jf c4 h
        refine lv_iload_n hx hb dX7_shoe_26 rfl (lv_at hl 3 rfl) ?_
        refine lv_bipush (v := (8 : Int32)) hx hb dX7_shoe_27 (by decide) ?_
        obtain ⟨z5, hz5, h⟩ := jb h
        refine jki (jrS (As := [.int a3, .int (8 : Int32)]) (rest := []) ⟨hx, hb, hml, hown, hts⟩ (c_X7_within l D cyI cyZ cyT   a3 (8 : Int32) z5 hz5) (va_cwS 2 hts gX7_shoe_X7_within rfl rfl rfl (by decide +kernel) ⟨Nat.le_of_ble_eq_true rfl, Nat.le_of_ble_eq_true rfl⟩) hK jP0 rfl rfl hl.1 (Nat.le_of_ble_eq_true rfl) dX7_shoe_29 ⟨Nat.le_of_ble_eq_true rfl, Nat.le_of_ble_eq_true rfl⟩) ?_
        clear hz5
        refine lv_if_eq (tgt := 53) hx hb dX7_shoe_32 (by decide) (fun c6 => ?_) (fun c6 => ?_)
        · have h := jt c6 h
          refine lv_ldc2 (v := (-3 : Int64)) hx hb hown (hts _ kw_X7_shoe_3) dX7_shoe_53 ?_
          exact W.lret hx hb hr (fun t ht _ => ⟨_, rfl, Option.some.inj h, ht.trans hH⟩) (fun q h => by cases h) dX7_shoe_56 hlocks
        · have h := jf c6 h
          refine lv_iload hx hb dX7_shoe_35 (lv_at hl 4 rfl) ?_
          refine lv_bipush (v := (10 : Int32)) hx hb dX7_shoe_37 (by decide) ?_
          obtain ⟨z7, hz7, h⟩ := jb h
          refine jki (jrS (As := [.int a4, .int (10 : Int32)]) (rest := []) ⟨hx, hb, hml, hown, hts⟩ (c_X7_within l D cyI cyZ cyT   a4 (10 : Int32) z7 hz7) (va_cwS 2 hts gX7_shoe_X7_within rfl rfl rfl (by decide +kernel) ⟨Nat.le_of_ble_eq_true rfl, Nat.le_of_ble_eq_true rfl⟩) hK jP0 rfl rfl hl.1 (Nat.le_of_ble_eq_true rfl) dX7_shoe_39 ⟨Nat.le_of_ble_eq_true rfl, Nat.le_of_ble_eq_true rfl⟩) ?_
          clear hz7
          refine lv_if_eq (tgt := 53) hx hb dX7_shoe_42 (by decide) (fun c8 => ?_) (fun c8 => ?_)
          · have h := jt c8 h
            refine lv_ldc2 (v := (-3 : Int64)) hx hb hown (hts _ kw_X7_shoe_3) dX7_shoe_53 ?_
            exact W.lret hx hb hr (fun t ht _ => ⟨_, rfl, Option.some.inj h, ht.trans hH⟩) (fun q h => by cases h) dX7_shoe_56 hlocks
          · have h := jf c8 h
            refine lv_iload hx hb dX7_shoe_45 (lv_at hl 5 rfl) ?_
            obtain ⟨z9, hz9, h⟩ := jb h
            refine jki (jrS (As := [.int a5]) (rest := []) ⟨hx, hb, hml, hown, hts⟩ (c_X7_isPart l D cyI cyZ cyT   a5 z9 hz9) (va_cwS 1 hts gX7_shoe_X7_isPart rfl rfl rfl (by decide +kernel) ⟨Nat.le_of_ble_eq_true rfl, Nat.le_of_ble_eq_true rfl⟩) hK jP0 rfl rfl hl.1 (Nat.le_of_ble_eq_true rfl) dX7_shoe_47 ⟨Nat.le_of_ble_eq_true rfl, Nat.le_of_ble_eq_true rfl⟩) ?_
            clear hz9
            refine lv_if_ne (tgt := 57) hx hb dX7_shoe_50 (by decide) (fun c10 => ?_) (fun c10 => ?_)
            · have h := jf c10 h
              refine lv_lconst (v := (0 : Int64)) hx hb dX7_shoe_57 (by decide) ?_
              refine lv_lstore (lv' := [(6, .long (0 : Int64)), (0, .ref (qa 0)), (1, .int a1), (2, .int a2), (3, .int a3), (4, .int a4), (5, .int a5)]) hx hb dX7_shoe_58 hl (by decide) rfl (fun ls hl => ?_)
              refine lv_iconst (v := (0 : Int32)) hx hb dX7_shoe_60 (by decide) ?_
              refine lv_istore (lv' := [(8, .int (0 : Int32)), (6, .long (0 : Int64)), (0, .ref (qa 0)), (1, .int a1), (2, .int a2), (3, .int a3), (4, .int a4), (5, .int a5)]) hx hb dX7_shoe_61 hl (by decide) rfl (fun ls hl => ?_)
              obtain ⟨r11, hz11, h11_⟩ := jb h
              have hex11 : ∀ e11 : Int64, r11 = e11 → ∀ (ls : Array Slot), lv_has ls 10 [(3, .int a3), (5, .int a5), (6, .long e11)] → W p l e rm_X7_shoe s m args below meth c H [] 0 0 (MQ below (jSl o) args s 0 0 (fun _ => False)) (F0 m 152 ls []) := by
                intro e11 he ls hl
                rw [he] at h11_
                have h := h11_
                clear hz11
                refine lv_lload hx hb dX7_shoe_152 (lv_at hl 2 rfl) ?_
                refine lv_iload_n hx hb dX7_shoe_154 rfl (lv_at hl 0 rfl) ?_
                obtain ⟨z22, hz22, h⟩ := jb h
                refine jkl (jrS (As := [.int a3]) (rest := [.long e11]) ⟨hx, hb, hml, hown, hts⟩ (c_X7_tenTo l D cyI cyZ cyT   N a3 z22 hz22) (va_cwS 1 hts gX7_shoe_X7_tenTo rfl rfl rfl (by decide +kernel) ⟨Nat.le_of_ble_eq_true rfl, Nat.le_of_ble_eq_true rfl⟩) hK jP0 rfl rfl hl.1 (Nat.le_of_ble_eq_true rfl) dX7_shoe_155 ⟨Nat.le_of_ble_eq_true rfl, Nat.le_of_ble_eq_true rfl⟩) ?_
                clear hz22
                refine lv_iload hx hb dX7_shoe_158 (lv_at hl 1 rfl) ?_
                obtain ⟨z23, hz23, h⟩ := jb h
                refine jkl (jrS (As := [.long e11, .long z22, .int a5]) (rest := []) ⟨hx, hb, hml, hown, hts⟩ (c_X7_partOf l D cyI cyZ cyT   N e11 z22 a5 z23 hz23) (va_cwS 3 hts gX7_shoe_X7_partOf rfl rfl rfl (by decide +kernel) ⟨Nat.le_of_ble_eq_true rfl, Nat.le_of_ble_eq_true rfl⟩) hK jP0 rfl rfl hl.1 (Nat.le_of_ble_eq_true rfl) dX7_shoe_160 ⟨Nat.le_of_ble_eq_true rfl, Nat.le_of_ble_eq_true rfl⟩) ?_
                clear hz23
                exact W.lret hx hb hr (fun t ht _ => ⟨_, rfl, Option.some.inj h, ht.trans hH⟩) (fun q h => by cases h) dX7_shoe_163 hlocks
              have hlp11 : ∀ (nn : Nat) (z11 : (Int64 × Int32)), jw (X7_shoe_s63 N a1 a2 a3 a4 X) nn z11 = some r11 → ∀ (ls : Array Slot), lv_has ls 10 [(0, .ref (qa 0)), (1, .int a1), (2, .int a2), (3, .int a3), (4, .int a4), (5, .int a5), (6, .long z11.1), (8, .int z11.2)] → W p l e rm_X7_shoe s m args below meth c H [] 0 0 (MQ below (jSl o) args s 0 0 (fun _ => False)) (F0 m 63 ls []) := by
                refine jw_P (r := r11) (P := fun z11 : (Int64 × Int32) => ∀ (ls : Array Slot), lv_has ls 10 [(0, .ref (qa 0)), (1, .int a1), (2, .int a2), (3, .int a3), (4, .int a4), (5, .int a5), (6, .long z11.1), (8, .int z11.2)] → W p l e rm_X7_shoe s m args below meth c H [] 0 0 (MQ below (jSl o) args s 0 0 (fun _ => False)) (F0 m 63 ls [])) ?_
                intro z11 x11 h hin hout ls hl
                unfold X7_shoe_s63 at h
                refine lv_iload hx hb dX7_shoe_63 (lv_at hl 7 rfl) ?_
                refine lv_iload_n hx hb dX7_shoe_65 rfl (lv_at hl 3 rfl) ?_
                refine lv_icmp_gt (tgt := 152) hx hb dX7_shoe_66 (by decide) (fun c12 => ?_) (fun c12 => ?_)
                · have h := jt c12 h
                  exact hex11 _ (hout _ (Option.some.inj h).symm).symm ls (lv_sub hl [3, 5, 6] rfl)
                · have h := jf c12 h
                  refine lv_bipush (v := (9 : Int32)) hx hb dX7_shoe_69 (by decide) ?_
                  refine lv_aload_n hx hb dX7_shoe_71 rfl (lv_at hl 0 rfl) ?_
                  refine va_get (D := D) (ci := 7) (v := .ref (qa 4)) (C := RX7) (T := TX7) (N := 10) hx hb hts in_X7_shoe_X7 hown hK.1 hP 0 rfl rfl 1 (by decide) (hts _ kw_X7_shoe_1) (fun _ h9 => h9) rfl dX7_shoe_72 ?_
                  refine va_get (D := D) (ci := 0) (v := .ref (qa 6)) (C := RX0) (T := TX0) (N := 12) hx hb hts in_X7_shoe_X0 hown hK.1 hP 4 rfl rfl 1 (by decide) (hts _ kw_X7_shoe_4) (fun _ h9 => h9) rfl dX7_shoe_75 ?_
                  refine lv_iload_n hx hb dX7_shoe_78 rfl (lv_at hl 1 rfl) ?_
                  obtain ⟨g13, h⟩ := jn h
                  refine jald hx hb hK hP 6 rfl _ rfl g13 dX7_shoe_79 ?_
                  refine lv_iload hx hb dX7_shoe_80 (lv_at hl 7 rfl) ?_
                  refine lv_iadd hx hb dX7_shoe_82 ?_
                  refine va_mmin hx hb (hml.trans hl.1.symm) hown (hts _ kw_X7_shoe_5) (hts _ kw_X7_shoe_6) (hts _ kw_X7_shoe_7) (hts _ kw_X7_shoe_8) (Nat.le_of_ble_eq_true rfl) (Nat.le_of_ble_eq_true rfl) (Nat.le_of_ble_eq_true rfl) (Nat.le_of_ble_eq_true rfl) dX7_shoe_83 ?_
                  refine lv_istore (lv' := [(9, .int (if ((((X.1 1).1 1) a1.toNatClampNeg) + z11.2) < (9 : Int32) then ((((X.1 1).1 1) a1.toNatClampNeg) + z11.2) else (9 : Int32))), (0, .ref (qa 0)), (1, .int a1), (2, .int a2), (3, .int a3), (4, .int a4), (5, .int a5), (6, .long z11.1), (8, .int z11.2)]) hx hb dX7_shoe_86 hl (by decide) rfl (fun ls hl => ?_)
                  refine lv_aload_n hx hb dX7_shoe_88 rfl (lv_at hl 1 rfl) ?_
                  refine va_get (D := D) (ci := 7) (v := .ref (qa 4)) (C := RX7) (T := TX7) (N := 10) hx hb hts in_X7_shoe_X7 hown hK.1 hP 0 rfl rfl 1 (by decide) (hts _ kw_X7_shoe_1) (fun _ h9 => h9) rfl dX7_shoe_89 ?_
                  refine va_get (D := D) (ci := 0) (v := .ref (qa 9)) (C := RX0) (T := TX0) (N := 12) hx hb hts in_X7_shoe_X0 hown hK.1 hP 4 rfl rfl 4 (by decide) (hts _ kw_X7_shoe_9) (fun _ h9 => h9) rfl dX7_shoe_92 ?_
                  refine lv_iload_n hx hb dX7_shoe_95 rfl (lv_at hl 3 rfl) ?_
                  obtain ⟨g14, h⟩ := jn h
                  refine jald hx hb hK hP 9 rfl _ rfl g14 dX7_shoe_96 ?_
                  refine lv_aload_n hx hb dX7_shoe_97 rfl (lv_at hl 1 rfl) ?_
                  refine va_get (D := D) (ci := 7) (v := .ref (qa 4)) (C := RX7) (T := TX7) (N := 10) hx hb hts in_X7_shoe_X7 hown hK.1 hP 0 rfl rfl 1 (by decide) (hts _ kw_X7_shoe_1) (fun _ h9 => h9) rfl dX7_shoe_98 ?_
                  refine va_get (D := D) (ci := 0) (v := .ref (qa 5)) (C := RX0) (T := TX0) (N := 12) hx hb hts in_X7_shoe_X0 hown hK.1 hP 4 rfl rfl 0 (by decide) (hts _ kw_X7_shoe_10) (fun _ h9 => h9) rfl dX7_shoe_101 ?_
                  refine lv_iload_n hx hb dX7_shoe_104 rfl (lv_at hl 2 rfl) ?_
                  obtain ⟨g15, h⟩ := jn h
                  refine jald hx hb hK hP 5 rfl _ rfl g15 dX7_shoe_105 ?_
                  refine lv_iload hx hb dX7_shoe_106 (lv_at hl 0 rfl) ?_
                  obtain ⟨z16, hz16, h⟩ := jb h
                  refine jki (jrS (As := [.int (((X.1 1).1 4) a2.toNatClampNeg), .int (((X.1 1).1 0) a1.toNatClampNeg), .int (if ((((X.1 1).1 1) a1.toNatClampNeg) + z11.2) < (9 : Int32) then ((((X.1 1).1 1) a1.toNatClampNeg) + z11.2) else (9 : Int32))]) (rest := []) ⟨hx, hb, hml, hown, hts⟩ (c_X7_dangerOf l D cyI cyZ cyT   (((X.1 1).1 4) a2.toNatClampNeg) (((X.1 1).1 0) a1.toNatClampNeg) (if ((((X.1 1).1 1) a1.toNatClampNeg) + z11.2) < (9 : Int32) then ((((X.1 1).1 1) a1.toNatClampNeg) + z11.2) else (9 : Int32)) z16 hz16) (va_cwS 3 hts gX7_shoe_X7_dangerOf rfl rfl rfl (by decide +kernel) ⟨Nat.le_of_ble_eq_true rfl, Nat.le_of_ble_eq_true rfl⟩) hK jP0 rfl rfl hl.1 (Nat.le_of_ble_eq_true rfl) dX7_shoe_108 ⟨Nat.le_of_ble_eq_true rfl, Nat.le_of_ble_eq_true rfl⟩) ?_
                  clear hz16
                  obtain ⟨z17, hz17, h⟩ := jb h
                  have hk17 : ∀ (ls : Array Slot), lv_has ls 10 [(0, .ref (qa 0)), (1, .int a1), (2, .int a2), (3, .int a3), (4, .int a4), (5, .int a5), (6, .long z17), (8, .int z11.2)] → W p l e rm_X7_shoe s m args below meth c H [] 0 0 (MQ below (jSl o) args s 0 0 (fun _ => False)) (F0 m 146 ls []) := by
                    intro ls hl
                    refine lv_iinc (v := z11.2 + (1 : Int32)) (lv' := [(8, .int (z11.2 + (1 : Int32))), (0, .ref (qa 0)), (1, .int a1), (2, .int a2), (3, .int a3), (4, .int a4), (5, .int a5), (6, .long z17)]) hx hb dX7_shoe_146 hl (k := 7) rfl rfl (by decide) rfl (fun ls hl => ?_)
                    refine lv_goto (tgt := 63) hx hb dX7_shoe_149 (by decide) ?_
                    exact hin _ (Option.some.inj h).symm ls (lv_sub hl [1, 2, 3, 4, 5, 6, 7, 0] rfl)
                  clear h
                  have h := hz17
                  clear hz17
                  refine lv_if_ne (tgt := 146) hx hb dX7_shoe_111 (by decide) (fun c18 => ?_) (fun c18 => ?_)
                  · have h := jf c18 h
                    obtain rfl := Option.some.inj h
                    exact hk17 ls (lv_sub hl [1, 2, 3, 4, 5, 6, 7, 8] rfl)
                  · have h := jt c18 h
                    refine lv_lload hx hb dX7_shoe_114 (lv_at hl 7 rfl) ?_
                    refine lv_iload_n hx hb dX7_shoe_116 rfl (lv_at hl 4 rfl) ?_
                    refine lv_iload hx hb dX7_shoe_117 (lv_at hl 8 rfl) ?_
                    obtain ⟨z19, hz19, h⟩ := jb h
                    refine jkl (jrS (As := [.int a3, .int z11.2]) (rest := [.long z11.1]) ⟨hx, hb, hml, hown, hts⟩ (c_X7_waysToChoose l D cyI cyZ cyT   N a3 z11.2 z19 hz19) (va_cwS 2 hts gX7_shoe_X7_waysToChoose rfl rfl rfl (by decide +kernel) ⟨Nat.le_of_ble_eq_true rfl, Nat.le_of_ble_eq_true rfl⟩) hK jP0 rfl rfl hl.1 (Nat.le_of_ble_eq_true rfl) dX7_shoe_119 ⟨Nat.le_of_ble_eq_true rfl, Nat.le_of_ble_eq_true rfl⟩) ?_
                    clear hz19
                    refine lv_iload hx hb dX7_shoe_122 (lv_at hl 5 rfl) ?_
                    refine lv_iload hx hb dX7_shoe_124 (lv_at hl 8 rfl) ?_
                    obtain ⟨z20, hz20, h⟩ := jb h
                    refine jkl (jrS (As := [.int a4, .int z11.2]) (rest := [.long z19, .long z11.1]) ⟨hx, hb, hml, hown, hts⟩ (c_X7_power l D cyI cyZ cyT   N a4 z11.2 z20 hz20) (va_cwS 2 hts gX7_shoe_X7_power rfl rfl rfl (by decide +kernel) ⟨Nat.le_of_ble_eq_true rfl, Nat.le_of_ble_eq_true rfl⟩) hK jP0 rfl rfl hl.1 (Nat.le_of_ble_eq_true rfl) dX7_shoe_126 ⟨Nat.le_of_ble_eq_true rfl, Nat.le_of_ble_eq_true rfl⟩) ?_
                    clear hz20
                    refine lv_lmul hx hb dX7_shoe_129 ?_
                    refine lv_bipush (v := (10 : Int32)) hx hb dX7_shoe_130 (by decide) ?_
                    refine lv_iload hx hb dX7_shoe_132 (lv_at hl 5 rfl) ?_
                    refine lv_isub hx hb dX7_shoe_134 ?_
                    refine lv_iload_n hx hb dX7_shoe_135 rfl (lv_at hl 4 rfl) ?_
                    refine lv_iload hx hb dX7_shoe_136 (lv_at hl 8 rfl) ?_
                    refine lv_isub hx hb dX7_shoe_138 ?_
                    obtain ⟨z21, hz21, h⟩ := jb h
                    refine jkl (jrS (As := [.int ((10 : Int32) - a4), .int (a3 - z11.2)]) (rest := [.long (z19 * z20), .long z11.1]) ⟨hx, hb, hml, hown, hts⟩ (c_X7_power l D cyI cyZ cyT   N ((10 : Int32) - a4) (a3 - z11.2) z21 hz21) (va_cwS 2 hts gX7_shoe_X7_power rfl rfl rfl (by decide +kernel) ⟨Nat.le_of_ble_eq_true rfl, Nat.le_of_ble_eq_true rfl⟩) hK jP0 rfl rfl hl.1 (Nat.le_of_ble_eq_true rfl) dX7_shoe_139 ⟨Nat.le_of_ble_eq_true rfl, Nat.le_of_ble_eq_true rfl⟩) ?_
                    clear hz21
                    refine lv_lmul hx hb dX7_shoe_142 ?_
                    refine lv_ladd hx hb dX7_shoe_143 ?_
                    refine lv_lstore (lv' := [(6, .long (z11.1 + ((z19 * z20) * z21))), (9, .int (if ((((X.1 1).1 1) a1.toNatClampNeg) + z11.2) < (9 : Int32) then ((((X.1 1).1 1) a1.toNatClampNeg) + z11.2) else (9 : Int32))), (0, .ref (qa 0)), (1, .int a1), (2, .int a2), (3, .int a3), (4, .int a4), (5, .int a5), (8, .int z11.2)]) hx hb dX7_shoe_144 hl (by decide) rfl (fun ls hl => ?_)
                    obtain rfl := Option.some.inj h
                    exact hk17 ls (lv_sub hl [2, 3, 4, 5, 6, 7, 0, 8] rfl)
              exact hlp11 _ _ hz11 ls (lv_sub hl [2, 3, 4, 5, 6, 7, 1, 0] rfl)
            · have h := jt c10 h
              refine lv_ldc2 (v := (-3 : Int64)) hx hb hown (hts _ kw_X7_shoe_3) dX7_shoe_53 ?_
              exact W.lret hx hb hr (fun t ht _ => ⟨_, rfl, Option.some.inj h, ht.trans hH⟩) (fun q h => by cases h) dX7_shoe_56 hlocks
      · have h := jt c4 h
        refine lv_ldc2 (v := (-2 : Int64)) hx hb hown (hts _ kw_X7_shoe_2) dX7_shoe_22 ?_
        exact W.lret hx hb hr (fun t ht _ => ⟨_, rfl, Option.some.inj h, ht.trans hH⟩) (fun q h => by cases h) dX7_shoe_25 hlocks
  exact key s.heap hP rfl
theorem kw_X7_step_1 : (.fieldLink RX7 19 "BellTheCat" "told" "LBellTheCat$House;" : Cond) ∈ wsX7_step := List.mem_of_getElem? (i := 1) rfl
theorem kw_X7_step_2 : (.fieldLink RX7 131 "BellTheCat$House" "noises" "[I" : Cond) ∈ wsX7_step := List.mem_of_getElem? (i := 2) rfl
theorem kw_X7_step_3 : (.fieldLink RX7 29 "BellTheCat" "now" "LBellTheCat$Team;" : Cond) ∈ wsX7_step := List.mem_of_getElem? (i := 3) rfl
theorem in_X7_step_X0 : ∀ w ∈ wsX00, w ∈ wsX7_step := fun w h => List.mem_cons_of_mem _ (List.mem_append_left _ (List.mem_append_right _ h))
theorem in_X7_step_X7 : ∀ w ∈ wsX70, w ∈ wsX7_step := fun w h => List.mem_cons_of_mem _ (List.mem_append_left _ (List.mem_append_left _ (List.mem_append_right _ h)))
abbrev rm_X7_step : Room := { frames := 1, cells := 0, slots := 0, locals := 21 }
set_option maxHeartbeats 4000000 in
set_option maxRecDepth 100000 in
theorem c_X7_step (l : Launch) (D : va_G) (cyI cyZ cyT : ClassId) (qa : Nat → Nat) (a1 : Int32) (a2 : Int32) (X : BX) (o : Int32) (hf : f_X7_step a1 a2 X = some o) : Met l yX7_step wsX7_step rm_X7_step (va_Pc [.ref (qa 0), .int a1, .int a2] (jB D cyI cyZ cyT (wX cyI cyZ cyT qa X))) (jSi o) 0 0 (fun _ => False) := by
  refine Met.ofW (cc := cX7_step) (maxL := 3) (ret := (some .int)) (by decide) rfl ?_
  intro p e s m args below meth c s₁ B hml hv
  obtain ⟨rfl, hP, hK⟩ := hv
  have hx := B.exec
  have hb := B.bytes
  have hr := B.returns
  have hts := atoms_spec (ws := wsX7_step) B.pre
  have hown : s.vm.findClass RX7 = some m.cls := findClass_of_methodNamed B.named
  have hlocks := B.notSynchronized
  have hl := lv_entry ([.ref (qa 0), .int a1, .int a2]) (n := 3) (Nat.le_of_ble_eq_true rfl)
  rw [lg_entry_eq]
  generalize (lg_sl ([.ref (qa 0), .int a1, .int a2]) ++ List.replicate (3 - (lg_sl ([.ref (qa 0), .int a1, .int a2])).length) Slot.unset).toArray = ls at hl ⊢
  have hl : lv_has ls 3 [(0, .ref (qa 0)), (1, .int a1), (2, .int a2)] := hl
  clear B
  generalize ([.ref (qa 0), .int a1, .int a2] : List Value).toArray = args at hts ⊢
  have key : ∀ (H : Heap), va_P D vwCl (wX cyI cyZ cyT qa X) H → H = s.heap → W p l e rm_X7_step s m args below meth c H [] 0 0 (MQ below (jSi o) args s 0 0 (fun _ => False)) (F0 m 0 ls []) := by
    intro H hP hH
    have h := hf
    unfold f_X7_step at h
    refine lv_aload_n hx hb dX7_step_0 rfl (lv_at hl 0 rfl) ?_
    refine va_get (D := D) (ci := 7) (v := .ref (qa 4)) (C := RX7) (T := TX7) (N := 10) hx hb hts in_X7_step_X7 hown hK.1 hP 0 rfl rfl 1 (by decide) (hts _ kw_X7_step_1) (fun _ h9 => h9) rfl dX7_step_1 ?_
    refine lv_iload_n hx hb dX7_step_4 rfl (lv_at hl 1 rfl) ?_
    obtain ⟨z1, hz1, h⟩ := jb h
    refine jki (jrV (As := [.int a1]) (rest := []) ⟨hx, hb, hml, hown, hts⟩ (c_X0_hasStep l D cyI cyZ cyT (fun k => qa (4 + k))  a1 (X.1 1) z1 hz1) (cwV 1 hts gX7_step_X0_hasStep rfl rfl rfl (by decide +kernel) ⟨Nat.le_of_ble_eq_true rfl, Nat.le_of_ble_eq_true rfl⟩) hK (hP.sub (ws' := wH cyI (fun k => qa (4 + k)) (X.1 1)) [4, 5, 6, 7, 8, 9, 10, 11, 12] rfl) rfl 0 0 rfl rfl rfl hl.1 (Nat.le_of_ble_eq_true rfl) dX7_step_5 ⟨Nat.le_of_ble_eq_true rfl, Nat.le_of_ble_eq_true rfl⟩) ?_
    clear hz1
    refine lv_if_ne (tgt := 14) hx hb dX7_step_8 (by decide) (fun c2 => ?_) (fun c2 => ?_)
    · have h := jf c2 h
      refine lv_iload_n hx hb dX7_step_14 rfl (lv_at hl 2 rfl) ?_
      by_cases c3 : a2 = (0 : Int32)
      · have h := jt c3 h
        refine lv_lookup (off := 25) (tgt := 40) hx hb dX7_step_15 (by decide) (by rw [c3]; rfl) (by decide) ?_
        refine lv_aload_n hx hb dX7_step_40 rfl (lv_at hl 0 rfl) ?_
        refine va_get (D := D) (ci := 7) (v := .ref (qa 4)) (C := RX7) (T := TX7) (N := 10) hx hb hts in_X7_step_X7 hown hK.1 hP 0 rfl rfl 1 (by decide) (hts _ kw_X7_step_1) (fun _ h9 => h9) rfl dX7_step_41 ?_
        refine va_get (D := D) (ci := 0) (v := .ref (qa 9)) (C := RX0) (T := TX0) (N := 12) hx hb hts in_X7_step_X0 hown hK.1 hP 4 rfl rfl 4 (by decide) (hts _ kw_X7_step_2) (fun _ h9 => h9) rfl dX7_step_44 ?_
        refine lv_iload_n hx hb dX7_step_47 rfl (lv_at hl 1 rfl) ?_
        obtain ⟨g4, h⟩ := jn h
        refine jald hx hb hK hP 9 rfl _ rfl g4 dX7_step_48 ?_
        exact W.iret hx hb hr (fun t ht _ => ⟨_, rfl, Option.some.inj h, ht.trans hH⟩) (fun q h => by cases h) dX7_step_49 hlocks
      have h := jf c3 h
      by_cases c5 : a2 = (1 : Int32)
      · have h := jt c5 h
        refine lv_lookup (off := 35) (tgt := 50) hx hb dX7_step_15 (by decide) (by rw [c5]; rfl) (by decide) ?_
        refine lv_aload_n hx hb dX7_step_50 rfl (lv_at hl 0 rfl) ?_
        refine va_get (D := D) (ci := 7) (v := .ref (qa 22)) (C := RX7) (T := TX7) (N := 10) hx hb hts in_X7_step_X7 hown hK.1 hP 0 rfl rfl 3 (by decide) (hts _ kw_X7_step_3) (fun _ h9 => h9) rfl dX7_step_51 ?_
        refine lv_iload_n hx hb dX7_step_54 rfl (lv_at hl 1 rfl) ?_
        obtain ⟨z6, hz6, h⟩ := jb h
        refine jki (jrV (As := [.int a1]) (rest := []) ⟨hx, hb, hml, hown, hts⟩ (c_X4_doerOf l D cyI cyZ cyT (fun k => qa (22 + k))  a1 (X.1 3) z6 hz6) (cwV 1 hts gX7_step_X4_doerOf rfl rfl rfl (by decide +kernel) ⟨Nat.le_of_ble_eq_true rfl, Nat.le_of_ble_eq_true rfl⟩) hK (hP.sub (ws' := wT cyI (fun k => qa (22 + k)) (X.1 3)) [22, 23] rfl) rfl 4 0 rfl rfl rfl hl.1 (Nat.le_of_ble_eq_true rfl) dX7_step_55 ⟨Nat.le_of_ble_eq_true rfl, Nat.le_of_ble_eq_true rfl⟩) ?_
        clear hz6
        exact W.iret hx hb hr (fun t ht _ => ⟨_, rfl, Option.some.inj h, ht.trans hH⟩) (fun q h => by cases h) dX7_step_58 hlocks
      have h := jf c5 h
      refine lv_lookup (off := 44) (tgt := 59) hx hb dX7_step_15 (by decide) (by have d0 := jne (z := 0) rfl c3; have d1 := jne (z := 1) rfl c5; simp [Op.lookupswitch.offset, d0.symm, d1.symm]) (by decide) ?_
      refine lv_bipush (v := (-3 : Int32)) hx hb dX7_step_59 (by decide) ?_
      exact W.iret hx hb hr (fun t ht _ => ⟨_, rfl, Option.some.inj h, ht.trans hH⟩) (fun q h => by cases h) dX7_step_61 hlocks
    · have h := jt c2 h
      refine lv_bipush (v := (-2 : Int32)) hx hb dX7_step_11 (by decide) ?_
      exact W.iret hx hb hr (fun t ht _ => ⟨_, rfl, Option.some.inj h, ht.trans hH⟩) (fun q h => by cases h) dX7_step_13 hlocks
  exact key s.heap hP rfl
theorem kw_X7_teamOf_1 : (.fieldLink RX7 19 "BellTheCat" "told" "LBellTheCat$House;" : Cond) ∈ wsX7_teamOf := List.mem_of_getElem? (i := 1) rfl
theorem kw_X7_teamOf_2 : (.fieldLink RX7 51 "BellTheCat" "sightings" "LBellTheCat$Sightings;" : Cond) ∈ wsX7_teamOf := List.mem_of_getElem? (i := 2) rfl
theorem in_X7_teamOf_X7 : ∀ w ∈ wsX70, w ∈ wsX7_teamOf := fun w h => List.mem_cons_of_mem _ (List.mem_append_left _ (List.mem_append_left _ (List.mem_append_right _ h)))
abbrev rm_X7_teamOf : Room := { frames := 5, cells := 0, slots := 0, locals := 156 }
set_option maxHeartbeats 4000000 in
set_option maxRecDepth 100000 in
theorem c_X7_teamOf (l : Launch) (D : va_G) (cyI cyZ cyT : ClassId) (qa : Nat → Nat) (N : Nat) (a1 : Int32) (X : BX) (o : Int32) (hf : f_X7_teamOf N a1 X = some o) : Met l yX7_teamOf wsX7_teamOf rm_X7_teamOf (va_Pc [.ref (qa 0), .int a1] (jB D cyI cyZ cyT (wX cyI cyZ cyT qa X))) (jSi o) 0 0 (fun _ => False) := by
  refine Met.ofW (cc := cX7_teamOf) (maxL := 2) (ret := (some .int)) (by decide) rfl ?_
  intro p e s m args below meth c s₁ B hml hv
  obtain ⟨rfl, hP, hK⟩ := hv
  have hx := B.exec
  have hb := B.bytes
  have hr := B.returns
  have hts := atoms_spec (ws := wsX7_teamOf) B.pre
  have hown : s.vm.findClass RX7 = some m.cls := findClass_of_methodNamed B.named
  have hlocks := B.notSynchronized
  have hl := lv_entry ([.ref (qa 0), .int a1]) (n := 2) (Nat.le_of_ble_eq_true rfl)
  rw [lg_entry_eq]
  generalize (lg_sl ([.ref (qa 0), .int a1]) ++ List.replicate (2 - (lg_sl ([.ref (qa 0), .int a1])).length) Slot.unset).toArray = ls at hl ⊢
  have hl : lv_has ls 2 [(0, .ref (qa 0)), (1, .int a1)] := hl
  clear B
  generalize ([.ref (qa 0), .int a1] : List Value).toArray = args at hts ⊢
  have key : ∀ (H : Heap), va_P D vwCl (wX cyI cyZ cyT qa X) H → H = s.heap → W p l e rm_X7_teamOf s m args below meth c H [] 0 0 (MQ below (jSi o) args s 0 0 (fun _ => False)) (F0 m 0 ls []) := by
    intro H hP hH
    have h := hf
    unfold f_X7_teamOf at h
    refine lv_aload_n hx hb dX7_teamOf_0 rfl (lv_at hl 0 rfl) ?_
    refine va_get (D := D) (ci := 7) (v := .ref (qa 4)) (C := RX7) (T := TX7) (N := 10) hx hb hts in_X7_teamOf_X7 hown hK.1 hP 0 rfl rfl 1 (by decide) (hts _ kw_X7_teamOf_1) (fun _ h9 => h9) rfl dX7_teamOf_1 ?_
    refine lv_iload_n hx hb dX7_teamOf_4 rfl (lv_at hl 1 rfl) ?_
    obtain ⟨z1, hz1, h⟩ := jb h
    refine jki (jrV (As := [.int a1]) (rest := []) ⟨hx, hb, hml, hown, hts⟩ (c_X0_hasStep l D cyI cyZ cyT (fun k => qa (4 + k))  a1 (X.1 1) z1 hz1) (cwV 1 hts gX7_teamOf_X0_hasStep rfl rfl rfl (by decide +kernel) ⟨Nat.le_of_ble_eq_true rfl, Nat.le_of_ble_eq_true rfl⟩) hK (hP.sub (ws' := wH cyI (fun k => qa (4 + k)) (X.1 1)) [4, 5, 6, 7, 8, 9, 10, 11, 12] rfl) rfl 0 0 rfl rfl rfl hl.1 (Nat.le_of_ble_eq_true rfl) dX7_teamOf_5 ⟨Nat.le_of_ble_eq_true rfl, Nat.le_of_ble_eq_true rfl⟩) ?_
    clear hz1
    refine lv_if_ne (tgt := 14) hx hb dX7_teamOf_8 (by decide) (fun c2 => ?_) (fun c2 => ?_)
    · have h := jf c2 h
      refine lv_aload_n hx hb dX7_teamOf_14 rfl (lv_at hl 0 rfl) ?_
      refine va_get (D := D) (ci := 7) (v := .ref (qa 48)) (C := RX7) (T := TX7) (N := 10) hx hb hts in_X7_teamOf_X7 hown hK.1 hP 0 rfl rfl 7 (by decide) (hts _ kw_X7_teamOf_2) (fun _ h9 => h9) rfl dX7_teamOf_15 ?_
      refine lv_aload_n hx hb dX7_teamOf_18 rfl (lv_at hl 0 rfl) ?_
      refine va_get (D := D) (ci := 7) (v := .ref (qa 4)) (C := RX7) (T := TX7) (N := 10) hx hb hts in_X7_teamOf_X7 hown hK.1 hP 0 rfl rfl 1 (by decide) (hts _ kw_X7_teamOf_1) (fun _ h9 => h9) rfl dX7_teamOf_19 ?_
      obtain ⟨z3, hz3, h⟩ := jb h
      refine jki (jrV (As := [.ref (qa 4)]) (rest := []) ⟨hx, hb, hml, hown, hts⟩ (c_X3_rowCount l D cyI cyZ cyT (fun k => qa (48 + k)) (fun k => qa (4 + k))  N (X.1 6) (X.1 1) z3 hz3) (cwV 1 hts gX7_teamOf_X3_rowCount rfl rfl rfl (by decide +kernel) ⟨Nat.le_of_ble_eq_true rfl, Nat.le_of_ble_eq_true rfl⟩) hK (hP.sub (ws' := wG cyI (fun k => qa (48 + k)) (X.1 6) ++ wH cyI (fun k => qa (4 + k)) (X.1 1)) [48, 49, 50, 4, 5, 6, 7, 8, 9, 10, 11, 12] rfl) rfl 3 0 rfl rfl rfl hl.1 (Nat.le_of_ble_eq_true rfl) dX7_teamOf_22 ⟨Nat.le_of_ble_eq_true rfl, Nat.le_of_ble_eq_true rfl⟩) ?_
      clear hz3
      refine lv_if_ne (tgt := 30) hx hb dX7_teamOf_25 (by decide) (fun c4 => ?_) (fun c4 => ?_)
      · have h := jf c4 h
        refine lv_aload_n hx hb dX7_teamOf_30 rfl (lv_at hl 0 rfl) ?_
        refine va_get (D := D) (ci := 7) (v := .ref (qa 48)) (C := RX7) (T := TX7) (N := 10) hx hb hts in_X7_teamOf_X7 hown hK.1 hP 0 rfl rfl 7 (by decide) (hts _ kw_X7_teamOf_2) (fun _ h9 => h9) rfl dX7_teamOf_31 ?_
        refine lv_aload_n hx hb dX7_teamOf_34 rfl (lv_at hl 0 rfl) ?_
        refine va_get (D := D) (ci := 7) (v := .ref (qa 4)) (C := RX7) (T := TX7) (N := 10) hx hb hts in_X7_teamOf_X7 hown hK.1 hP 0 rfl rfl 1 (by decide) (hts _ kw_X7_teamOf_1) (fun _ h9 => h9) rfl dX7_teamOf_35 ?_
        refine lv_iload_n hx hb dX7_teamOf_38 rfl (lv_at hl 1 rfl) ?_
        obtain ⟨z5, hz5, h⟩ := jb h
        refine jki (jrV (As := [.ref (qa 4), .int a1]) (rest := []) ⟨hx, hb, hml, hown, hts⟩ (c_X3_possibleAt l D cyI cyZ cyT (fun k => qa (48 + k)) (fun k => qa (4 + k))  N a1 (X.1 6) (X.1 1) z5 hz5) (cwV 2 hts gX7_teamOf_X3_possibleAt rfl rfl rfl (by decide +kernel) ⟨Nat.le_of_ble_eq_true rfl, Nat.le_of_ble_eq_true rfl⟩) hK (hP.sub (ws' := wG cyI (fun k => qa (48 + k)) (X.1 6) ++ wH cyI (fun k => qa (4 + k)) (X.1 1)) [48, 49, 50, 4, 5, 6, 7, 8, 9, 10, 11, 12] rfl) rfl 3 0 rfl rfl rfl hl.1 (Nat.le_of_ble_eq_true rfl) dX7_teamOf_39 ⟨Nat.le_of_ble_eq_true rfl, Nat.le_of_ble_eq_true rfl⟩) ?_
        clear hz5
        obtain ⟨z6, hz6, h⟩ := jb h
        refine jki (jrS (As := [.int z5]) (rest := []) ⟨hx, hb, hml, hown, hts⟩ (c_X7_leastOf l D cyI cyZ cyT   N z5 z6 hz6) (va_cwS 1 hts gX7_teamOf_X7_leastOf rfl rfl rfl (by decide +kernel) ⟨Nat.le_of_ble_eq_true rfl, Nat.le_of_ble_eq_true rfl⟩) hK jP0 rfl rfl hl.1 (Nat.le_of_ble_eq_true rfl) dX7_teamOf_42 ⟨Nat.le_of_ble_eq_true rfl, Nat.le_of_ble_eq_true rfl⟩) ?_
        clear hz6
        exact W.iret hx hb hr (fun t ht _ => ⟨_, rfl, Option.some.inj h, ht.trans hH⟩) (fun q h => by cases h) dX7_teamOf_45 hlocks
      · have h := jt c4 h
        refine lv_iconst (v := (-1 : Int32)) hx hb dX7_teamOf_28 (by decide) ?_
        exact W.iret hx hb hr (fun t ht _ => ⟨_, rfl, Option.some.inj h, ht.trans hH⟩) (fun q h => by cases h) dX7_teamOf_29 hlocks
    · have h := jt c2 h
      refine lv_bipush (v := (-2 : Int32)) hx hb dX7_teamOf_11 (by decide) ?_
      exact W.iret hx hb hr (fun t ht _ => ⟨_, rfl, Option.some.inj h, ht.trans hH⟩) (fun q h => by cases h) dX7_teamOf_13 hlocks
  exact key s.heap hP rfl
theorem kw_X7_teams_1 : (.fieldLink RX7 51 "BellTheCat" "sightings" "LBellTheCat$Sightings;" : Cond) ∈ wsX7_teams := List.mem_of_getElem? (i := 1) rfl
theorem kw_X7_teams_2 : (.fieldLink RX7 19 "BellTheCat" "told" "LBellTheCat$House;" : Cond) ∈ wsX7_teams := List.mem_of_getElem? (i := 2) rfl
theorem in_X7_teams_X7 : ∀ w ∈ wsX70, w ∈ wsX7_teams := fun w h => List.mem_cons_of_mem _ (List.mem_append_left _ (List.mem_append_left _ (List.mem_append_right _ h)))
abbrev rm_X7_teams : Room := { frames := 6, cells := 0, slots := 0, locals := 180 }
set_option maxHeartbeats 4000000 in
set_option maxRecDepth 100000 in
theorem c_X7_teams (l : Launch) (D : va_G) (cyI cyZ cyT : ClassId) (qa : Nat → Nat) (N : Nat) (a1 : Int32) (X : BX) (o : Int32) (hf : f_X7_teams N a1 X = some o) : Met l yX7_teams wsX7_teams rm_X7_teams (va_Pc [.ref (qa 0), .int a1] (jB D cyI cyZ cyT (wX cyI cyZ cyT qa X))) (jSi o) 0 0 (fun _ => False) := by
  refine Met.ofW (cc := cX7_teams) (maxL := 2) (ret := (some .int)) (by decide) rfl ?_
  intro p e s m args below meth c s₁ B hml hv
  obtain ⟨rfl, hP, hK⟩ := hv
  have hx := B.exec
  have hb := B.bytes
  have hr := B.returns
  have hts := atoms_spec (ws := wsX7_teams) B.pre
  have hown : s.vm.findClass RX7 = some m.cls := findClass_of_methodNamed B.named
  have hlocks := B.notSynchronized
  have hl := lv_entry ([.ref (qa 0), .int a1]) (n := 2) (Nat.le_of_ble_eq_true rfl)
  rw [lg_entry_eq]
  generalize (lg_sl ([.ref (qa 0), .int a1]) ++ List.replicate (2 - (lg_sl ([.ref (qa 0), .int a1])).length) Slot.unset).toArray = ls at hl ⊢
  have hl : lv_has ls 2 [(0, .ref (qa 0)), (1, .int a1)] := hl
  clear B
  generalize ([.ref (qa 0), .int a1] : List Value).toArray = args at hts ⊢
  have key : ∀ (H : Heap), va_P D vwCl (wX cyI cyZ cyT qa X) H → H = s.heap → W p l e rm_X7_teams s m args below meth c H [] 0 0 (MQ below (jSi o) args s 0 0 (fun _ => False)) (F0 m 0 ls []) := by
    intro H hP hH
    have h := hf
    unfold f_X7_teams at h
    refine lv_iload_n hx hb dX7_teams_0 rfl (lv_at hl 1 rfl) ?_
    refine lv_iconst (v := (1 : Int32)) hx hb dX7_teams_1 (by decide) ?_
    obtain ⟨z1, hz1, h⟩ := jb h
    refine jki (jrS (As := [.int a1, .int (1 : Int32)]) (rest := []) ⟨hx, hb, hml, hown, hts⟩ (c_X7_within l D cyI cyZ cyT   a1 (1 : Int32) z1 hz1) (va_cwS 2 hts gX7_teams_X7_within rfl rfl rfl (by decide +kernel) ⟨Nat.le_of_ble_eq_true rfl, Nat.le_of_ble_eq_true rfl⟩) hK jP0 rfl rfl hl.1 (Nat.le_of_ble_eq_true rfl) dX7_teams_2 ⟨Nat.le_of_ble_eq_true rfl, Nat.le_of_ble_eq_true rfl⟩) ?_
    clear hz1
    refine lv_if_ne (tgt := 11) hx hb dX7_teams_5 (by decide) (fun c2 => ?_) (fun c2 => ?_)
    · have h := jf c2 h
      refine lv_iload_n hx hb dX7_teams_11 rfl (lv_at hl 1 rfl) ?_
      refine lv_if_ne (tgt := 29) hx hb dX7_teams_12 (by decide) (fun c3 => ?_) (fun c3 => ?_)
      · have h := jf c3 h
        refine lv_aload_n hx hb dX7_teams_29 rfl (lv_at hl 0 rfl) ?_
        refine va_get (D := D) (ci := 7) (v := .ref (qa 48)) (C := RX7) (T := TX7) (N := 10) hx hb hts in_X7_teams_X7 hown hK.1 hP 0 rfl rfl 7 (by decide) (hts _ kw_X7_teams_1) (fun _ h9 => h9) rfl dX7_teams_30 ?_
        refine lv_aload_n hx hb dX7_teams_33 rfl (lv_at hl 0 rfl) ?_
        refine va_get (D := D) (ci := 7) (v := .ref (qa 4)) (C := RX7) (T := TX7) (N := 10) hx hb hts in_X7_teams_X7 hown hK.1 hP 0 rfl rfl 1 (by decide) (hts _ kw_X7_teams_2) (fun _ h9 => h9) rfl dX7_teams_34 ?_
        obtain ⟨z4, hz4, h⟩ := jb h
        refine jki (jrV (As := [.ref (qa 4)]) (rest := []) ⟨hx, hb, hml, hown, hts⟩ (c_X3_inAllRows l D cyI cyZ cyT (fun k => qa (48 + k)) (fun k => qa (4 + k))  N (X.1 6) (X.1 1) z4 hz4) (cwV 1 hts gX7_teams_X3_inAllRows rfl rfl rfl (by decide +kernel) ⟨Nat.le_of_ble_eq_true rfl, Nat.le_of_ble_eq_true rfl⟩) hK (hP.sub (ws' := wG cyI (fun k => qa (48 + k)) (X.1 6) ++ wH cyI (fun k => qa (4 + k)) (X.1 1)) [48, 49, 50, 4, 5, 6, 7, 8, 9, 10, 11, 12] rfl) rfl 3 0 rfl rfl rfl hl.1 (Nat.le_of_ble_eq_true rfl) dX7_teams_37 ⟨Nat.le_of_ble_eq_true rfl, Nat.le_of_ble_eq_true rfl⟩) ?_
        clear hz4
        exact W.iret hx hb hr (fun t ht _ => ⟨_, rfl, Option.some.inj h, ht.trans hH⟩) (fun q h => by cases h) dX7_teams_40 hlocks
      · have h := jt c3 h
        refine lv_aload_n hx hb dX7_teams_15 rfl (lv_at hl 0 rfl) ?_
        refine va_get (D := D) (ci := 7) (v := .ref (qa 48)) (C := RX7) (T := TX7) (N := 10) hx hb hts in_X7_teams_X7 hown hK.1 hP 0 rfl rfl 7 (by decide) (hts _ kw_X7_teams_1) (fun _ h9 => h9) rfl dX7_teams_16 ?_
        refine lv_aload_n hx hb dX7_teams_19 rfl (lv_at hl 0 rfl) ?_
        refine va_get (D := D) (ci := 7) (v := .ref (qa 4)) (C := RX7) (T := TX7) (N := 10) hx hb hts in_X7_teams_X7 hown hK.1 hP 0 rfl rfl 1 (by decide) (hts _ kw_X7_teams_2) (fun _ h9 => h9) rfl dX7_teams_20 ?_
        obtain ⟨z5, hz5, h⟩ := jb h
        refine jki (jrV (As := [.ref (qa 4)]) (rest := []) ⟨hx, hb, hml, hown, hts⟩ (c_X3_rowCount l D cyI cyZ cyT (fun k => qa (48 + k)) (fun k => qa (4 + k))  N (X.1 6) (X.1 1) z5 hz5) (cwV 1 hts gX7_teams_X3_rowCount rfl rfl rfl (by decide +kernel) ⟨Nat.le_of_ble_eq_true rfl, Nat.le_of_ble_eq_true rfl⟩) hK (hP.sub (ws' := wG cyI (fun k => qa (48 + k)) (X.1 6) ++ wH cyI (fun k => qa (4 + k)) (X.1 1)) [48, 49, 50, 4, 5, 6, 7, 8, 9, 10, 11, 12] rfl) rfl 3 0 rfl rfl rfl hl.1 (Nat.le_of_ble_eq_true rfl) dX7_teams_23 ⟨Nat.le_of_ble_eq_true rfl, Nat.le_of_ble_eq_true rfl⟩) ?_
        clear hz5
        refine lv_goto (tgt := 40) hx hb dX7_teams_26 (by decide) ?_
        exact W.iret hx hb hr (fun t ht _ => ⟨_, rfl, Option.some.inj h, ht.trans hH⟩) (fun q h => by cases h) dX7_teams_40 hlocks
    · have h := jt c2 h
      refine lv_bipush (v := (-3 : Int32)) hx hb dX7_teams_8 (by decide) ?_
      exact W.iret hx hb hr (fun t ht _ => ⟨_, rfl, Option.some.inj h, ht.trans hH⟩) (fun q h => by cases h) dX7_teams_10 hlocks
  exact key s.heap hP rfl
theorem kw_X7_through_1 : (.fieldLink RX7 29 "BellTheCat" "now" "LBellTheCat$Team;" : Cond) ∈ wsX7_through := List.mem_of_getElem? (i := 1) rfl
theorem kw_X7_through_2 : (.fieldLink RX7 19 "BellTheCat" "told" "LBellTheCat$House;" : Cond) ∈ wsX7_through := List.mem_of_getElem? (i := 2) rfl
theorem kw_X7_through_3 : (.fieldLink RX7 178 "BellTheCat$House" "stepCount" "I" : Cond) ∈ wsX7_through := List.mem_of_getElem? (i := 3) rfl
theorem in_X7_through_X0 : ∀ w ∈ wsX00, w ∈ wsX7_through := fun w h => List.mem_cons_of_mem _ (List.mem_append_left _ (List.mem_append_right _ h))
theorem in_X7_through_X7 : ∀ w ∈ wsX70, w ∈ wsX7_through := fun w h => List.mem_cons_of_mem _ (List.mem_append_left _ (List.mem_append_left _ (List.mem_append_right _ h)))
abbrev rm_X7_through : Room := { frames := 4, cells := 0, slots := 0, locals := 133 }
set_option maxHeartbeats 4000000 in
set_option maxRecDepth 100000 in
theorem c_X7_through (l : Launch) (D : va_G) (cyI cyZ cyT : ClassId) (qa : Nat → Nat) (N : Nat) (a1 : Int32) (X : BX) (o : Int32) (hf : f_X7_through N a1 X = some o) : Met l yX7_through wsX7_through rm_X7_through (va_Pc [.ref (qa 0), .int a1] (jB D cyI cyZ cyT (wX cyI cyZ cyT qa X))) (jSi o) 0 0 (fun _ => False) := by
  refine Met.ofW (cc := cX7_through) (maxL := 2) (ret := (some .int)) (by decide) rfl ?_
  intro p e s m args below meth c s₁ B hml hv
  obtain ⟨rfl, hP, hK⟩ := hv
  have hx := B.exec
  have hb := B.bytes
  have hr := B.returns
  have hts := atoms_spec (ws := wsX7_through) B.pre
  have hown : s.vm.findClass RX7 = some m.cls := findClass_of_methodNamed B.named
  have hlocks := B.notSynchronized
  have hl := lv_entry ([.ref (qa 0), .int a1]) (n := 2) (Nat.le_of_ble_eq_true rfl)
  rw [lg_entry_eq]
  generalize (lg_sl ([.ref (qa 0), .int a1]) ++ List.replicate (2 - (lg_sl ([.ref (qa 0), .int a1])).length) Slot.unset).toArray = ls at hl ⊢
  have hl : lv_has ls 2 [(0, .ref (qa 0)), (1, .int a1)] := hl
  clear B
  generalize ([.ref (qa 0), .int a1] : List Value).toArray = args at hts ⊢
  have key : ∀ (H : Heap), va_P D vwCl (wX cyI cyZ cyT qa X) H → H = s.heap → W p l e rm_X7_through s m args below meth c H [] 0 0 (MQ below (jSi o) args s 0 0 (fun _ => False)) (F0 m 0 ls []) := by
    intro H hP hH
    have h := hf
    unfold f_X7_through at h
    refine lv_iload_n hx hb dX7_through_0 rfl (lv_at hl 1 rfl) ?_
    obtain ⟨z1, hz1, h⟩ := jb h
    refine jki (jrS (As := [.int a1]) (rest := []) ⟨hx, hb, hml, hown, hts⟩ (c_X7_isPart l D cyI cyZ cyT   a1 z1 hz1) (va_cwS 1 hts gX7_through_X7_isPart rfl rfl rfl (by decide +kernel) ⟨Nat.le_of_ble_eq_true rfl, Nat.le_of_ble_eq_true rfl⟩) hK jP0 rfl rfl hl.1 (Nat.le_of_ble_eq_true rfl) dX7_through_1 ⟨Nat.le_of_ble_eq_true rfl, Nat.le_of_ble_eq_true rfl⟩) ?_
    clear hz1
    refine lv_if_ne (tgt := 10) hx hb dX7_through_4 (by decide) (fun c2 => ?_) (fun c2 => ?_)
    · have h := jf c2 h
      refine lv_aload_n hx hb dX7_through_10 rfl (lv_at hl 0 rfl) ?_
      refine va_get (D := D) (ci := 7) (v := .ref (qa 22)) (C := RX7) (T := TX7) (N := 10) hx hb hts in_X7_through_X7 hown hK.1 hP 0 rfl rfl 3 (by decide) (hts _ kw_X7_through_1) (fun _ h9 => h9) rfl dX7_through_11 ?_
      refine lv_aload_n hx hb dX7_through_14 rfl (lv_at hl 0 rfl) ?_
      refine va_get (D := D) (ci := 7) (v := .ref (qa 4)) (C := RX7) (T := TX7) (N := 10) hx hb hts in_X7_through_X7 hown hK.1 hP 0 rfl rfl 1 (by decide) (hts _ kw_X7_through_2) (fun _ h9 => h9) rfl dX7_through_15 ?_
      refine va_get (D := D) (ci := 0) (v := .int ((X.1 1).2 1)) (C := RX0) (T := TX0) (N := 12) hx hb hts in_X7_through_X0 hown hK.1 hP 4 rfl rfl 9 (by decide) (hts _ kw_X7_through_3) (fun _ h9 => h9) rfl dX7_through_18 ?_
      obtain ⟨z3, hz3, h⟩ := jb h
      refine jki (jrV (As := [.int ((X.1 1).2 1)]) (rest := []) ⟨hx, hb, hml, hown, hts⟩ (c_X4_isWhole l D cyI cyZ cyT (fun k => qa (22 + k))  N ((X.1 1).2 1) (X.1 3) z3 hz3) (cwV 1 hts gX7_through_X4_isWhole rfl rfl rfl (by decide +kernel) ⟨Nat.le_of_ble_eq_true rfl, Nat.le_of_ble_eq_true rfl⟩) hK (hP.sub (ws' := wT cyI (fun k => qa (22 + k)) (X.1 3)) [22, 23] rfl) rfl 4 0 rfl rfl rfl hl.1 (Nat.le_of_ble_eq_true rfl) dX7_through_21 ⟨Nat.le_of_ble_eq_true rfl, Nat.le_of_ble_eq_true rfl⟩) ?_
      clear hz3
      refine lv_if_ne (tgt := 30) hx hb dX7_through_24 (by decide) (fun c4 => ?_) (fun c4 => ?_)
      · have h := jf c4 h
        refine lv_aload_n hx hb dX7_through_30 rfl (lv_at hl 0 rfl) ?_
        refine lv_aload_n hx hb dX7_through_31 rfl (lv_at hl 0 rfl) ?_
        refine va_get (D := D) (ci := 7) (v := .ref (qa 4)) (C := RX7) (T := TX7) (N := 10) hx hb hts in_X7_through_X7 hown hK.1 hP 0 rfl rfl 1 (by decide) (hts _ kw_X7_through_2) (fun _ h9 => h9) rfl dX7_through_32 ?_
        refine va_get (D := D) (ci := 0) (v := .int ((X.1 1).2 1)) (C := RX0) (T := TX0) (N := 12) hx hb hts in_X7_through_X0 hown hK.1 hP 4 rfl rfl 9 (by decide) (hts _ kw_X7_through_3) (fun _ h9 => h9) rfl dX7_through_35 ?_
        obtain ⟨z5, hz5, h⟩ := jb h
        refine jkl (jrV (As := [.int ((X.1 1).2 1)]) (rest := []) ⟨hx, hb, hml, hown, hts⟩ (c_X7_comeUpTo l D cyI cyZ cyT qa  N ((X.1 1).2 1) X z5 hz5) (cwV 1 hts gX7_through_X7_comeUpTo rfl rfl rfl (by decide +kernel) ⟨Nat.le_of_ble_eq_true rfl, Nat.le_of_ble_eq_true rfl⟩) hK hP rfl 7 0 rfl rfl rfl hl.1 (Nat.le_of_ble_eq_true rfl) dX7_through_38 ⟨Nat.le_of_ble_eq_true rfl, Nat.le_of_ble_eq_true rfl⟩) ?_
        clear hz5
        refine lv_aload_n hx hb dX7_through_41 rfl (lv_at hl 0 rfl) ?_
        refine va_get (D := D) (ci := 7) (v := .ref (qa 4)) (C := RX7) (T := TX7) (N := 10) hx hb hts in_X7_through_X7 hown hK.1 hP 0 rfl rfl 1 (by decide) (hts _ kw_X7_through_2) (fun _ h9 => h9) rfl dX7_through_42 ?_
        refine va_get (D := D) (ci := 0) (v := .int ((X.1 1).2 1)) (C := RX0) (T := TX0) (N := 12) hx hb hts in_X7_through_X0 hown hK.1 hP 4 rfl rfl 9 (by decide) (hts _ kw_X7_through_3) (fun _ h9 => h9) rfl dX7_through_45 ?_
        obtain ⟨z6, hz6, h⟩ := jb h
        refine jkl (jrS (As := [.int ((X.1 1).2 1)]) (rest := [.long z5]) ⟨hx, hb, hml, hown, hts⟩ (c_X7_tenTo l D cyI cyZ cyT   N ((X.1 1).2 1) z6 hz6) (va_cwS 1 hts gX7_through_X7_tenTo rfl rfl rfl (by decide +kernel) ⟨Nat.le_of_ble_eq_true rfl, Nat.le_of_ble_eq_true rfl⟩) hK jP0 rfl rfl hl.1 (Nat.le_of_ble_eq_true rfl) dX7_through_48 ⟨Nat.le_of_ble_eq_true rfl, Nat.le_of_ble_eq_true rfl⟩) ?_
        clear hz6
        refine lv_iload_n hx hb dX7_through_51 rfl (lv_at hl 1 rfl) ?_
        obtain ⟨z7, hz7, h⟩ := jb h
        refine jkl (jrS (As := [.long z5, .long z6, .int a1]) (rest := []) ⟨hx, hb, hml, hown, hts⟩ (c_X7_partOf l D cyI cyZ cyT   N z5 z6 a1 z7 hz7) (va_cwS 3 hts gX7_through_X7_partOf rfl rfl rfl (by decide +kernel) ⟨Nat.le_of_ble_eq_true rfl, Nat.le_of_ble_eq_true rfl⟩) hK jP0 rfl rfl hl.1 (Nat.le_of_ble_eq_true rfl) dX7_through_52 ⟨Nat.le_of_ble_eq_true rfl, Nat.le_of_ble_eq_true rfl⟩) ?_
        clear hz7
        refine lv_l2i (v := z7.toInt32) hx hb dX7_through_55 rfl ?_
        exact W.iret hx hb hr (fun t ht _ => ⟨_, rfl, Option.some.inj h, ht.trans hH⟩) (fun q h => by cases h) dX7_through_56 hlocks
      · have h := jt c4 h
        refine lv_bipush (v := (-4 : Int32)) hx hb dX7_through_27 (by decide) ?_
        exact W.iret hx hb hr (fun t ht _ => ⟨_, rfl, Option.some.inj h, ht.trans hH⟩) (fun q h => by cases h) dX7_through_29 hlocks
    · have h := jt c2 h
      refine lv_bipush (v := (-3 : Int32)) hx hb dX7_through_7 (by decide) ?_
      exact W.iret hx hb hr (fun t ht _ => ⟨_, rfl, Option.some.inj h, ht.trans hH⟩) (fun q h => by cases h) dX7_through_9 hlocks
  exact key s.heap hP rfl
theorem kw_X7_undo_1 : (.fieldLink RX7 36 "BellTheCat" "latest" "LBellTheCat$Undo;" : Cond) ∈ wsX7_undo := List.mem_of_getElem? (i := 1) rfl
theorem kw_X7_undo_2 : (.fieldLink RX7 29 "BellTheCat" "now" "LBellTheCat$Team;" : Cond) ∈ wsX7_undo := List.mem_of_getElem? (i := 2) rfl
theorem kw_X7_undo_3 : (.fieldLink RX7 96 "BellTheCat$Undo" "depth" "I" : Cond) ∈ wsX7_undo := List.mem_of_getElem? (i := 3) rfl
theorem in_X7_undo_X6 : ∀ w ∈ wsX60, w ∈ wsX7_undo := fun w h => List.mem_cons_of_mem _ (List.mem_append_left _ (List.mem_append_right _ h))
theorem in_X7_undo_X7 : ∀ w ∈ wsX70, w ∈ wsX7_undo := fun w h => List.mem_cons_of_mem _ (List.mem_append_left _ (List.mem_append_left _ (List.mem_append_right _ h)))
abbrev rm_X7_undo : Room := { frames := 2, cells := 0, slots := 0, locals := 43 }
set_option maxHeartbeats 4000000 in
set_option maxRecDepth 100000 in
theorem c_X7_undo (l : Launch) (D : va_G) (cyI cyZ cyT : ClassId) (qa : Nat → Nat) (sz : Nat) (N : Nat) (X : BX) (o : (Int32 × BX)) (hf : f_X7_undo N X = some o) : Met l yX7_undo wsX7_undo rm_X7_undo (va_Pc [.ref (qa 0)] (jM D cyI cyZ cyT (wX cyI cyZ cyT qa X) sz)) (jQi D (va_A (wX cyI cyZ cyT qa X) sz) (fun u : BX => wX cyI cyZ cyT qa u) o) 0 0 (va_A (wX cyI cyZ cyT qa X) sz) := by
  refine Met.ofW (cc := cX7_undo) (maxL := 1) (ret := (some .int)) (by decide) rfl ?_
  intro p e s m args below meth c s₁ B hml hv
  obtain ⟨rfl, hsz, hP, hK, hD0⟩ := hv
  have hx := B.exec
  have hb := B.bytes
  have hr := B.returns
  have hts := atoms_spec (ws := wsX7_undo) B.pre
  have hown : s.vm.findClass RX7 = some m.cls := findClass_of_methodNamed B.named
  have hlocks := B.notSynchronized
  subst hsz
  have hD := hD0.self (sz := s.heap.size)
  generalize hAe : va_A (wX cyI cyZ cyT qa X) s.heap.size = A at hD ⊢
  have hA : ∀ q : Nat, s.heap.size ≤ q → A q := fun q h => by rw [← hAe]; exact Or.inr h
  have hS : va_S A s.heap s.heap [] := va_S.rf
  have hl := lv_entry ([.ref (qa 0)]) (n := 1) (Nat.le_of_ble_eq_true rfl)
  rw [lg_entry_eq]
  generalize (lg_sl ([.ref (qa 0)]) ++ List.replicate (1 - (lg_sl ([.ref (qa 0)])).length) Slot.unset).toArray = ls at hl ⊢
  have hl : lv_has ls 1 [(0, .ref (qa 0))] := hl
  clear B
  generalize ([.ref (qa 0)] : List Value).toArray = args at hts ⊢
  have key : ∀ (H : Heap) (locs : List Loc), va_P D vwCl (wX cyI cyZ cyT qa X) H → va_D A (wX cyI cyZ cyT qa X) → va_S A s.heap H locs → W p l e rm_X7_undo s m args below meth c H locs 0 0 (MQ below (jQi D A (fun u : BX => wX cyI cyZ cyT qa u) o) args s 0 0 A) (F0 m 0 ls []) := by
    intro H locs hP hD hS
    have h := hf
    unfold f_X7_undo at h
    refine lv_aload_n hx hb dX7_undo_0 rfl (lv_at hl 0 rfl) ?_
    refine va_get (D := D) (ci := 7) (v := .ref (qa 24)) (C := RX7) (T := TX7) (N := 10) hx hb hts in_X7_undo_X7 hown hK.1 hP 0 rfl rfl 4 (by decide) (hts _ kw_X7_undo_1) (fun _ h9 => h9) rfl dX7_undo_1 ?_
    refine lv_aload_n hx hb dX7_undo_4 rfl (lv_at hl 0 rfl) ?_
    refine va_get (D := D) (ci := 7) (v := .ref (qa 22)) (C := RX7) (T := TX7) (N := 10) hx hb hts in_X7_undo_X7 hown hK.1 hP 0 rfl rfl 3 (by decide) (hts _ kw_X7_undo_2) (fun _ h9 => h9) rfl dX7_undo_5 ?_
    obtain ⟨z1, hz1, h⟩ := jb h
    refine jgi (w1 := fun u : (Mo × Mo) => wU cyI cyT (fun k => qa (24 + k)) u.1 X.2.1 ++ wT cyI (fun k => qa (22 + k)) u.2) (wn := wX cyI cyZ cyT qa (va_up (va_up X.1 3 z1.2.2) 4 z1.2.1, X.2.1, X.2.2.1, X.2.2.2)) (jmV (As := [.ref (qa 22)]) (rest := []) ⟨hx, hb, hml, hown, hts⟩ (c_X6_restore l D cyI cyZ cyT (fun k => qa (24 + k)) (fun k => qa (22 + k)) H.size N (X.1 4) X.2.1 (X.1 3) z1 hz1) (cwV 1 hts gX7_undo_X6_restore rfl rfl rfl (by decide +kernel) ⟨Nat.le_of_ble_eq_true rfl, Nat.le_of_ble_eq_true rfl⟩) hK (hP.sub (ws' := wU cyI cyT (fun k => qa (24 + k)) (X.1 4) X.2.1 ++ wT cyI (fun k => qa (22 + k)) (X.1 3)) [24, 25, 26, 27, 28, 29, 30, 31, 32, 33, 34, 35, 36, 37, 38, 39, 40, 41, 22, 23] rfl) (hD.sub (ws' := wU cyI cyT (fun k => qa (24 + k)) (X.1 4) X.2.1 ++ wT cyI (fun k => qa (22 + k)) (X.1 3)) [24, 25, 26, 27, 28, 29, 30, 31, 32, 33, 34, 35, 36, 37, 38, 39, 40, 41, 22, 23] (by decide) rfl) rfl 6 0 rfl rfl rfl hl.1 (Nat.le_of_ble_eq_true rfl) dX7_undo_8 ⟨Nat.le_of_ble_eq_true rfl, Nat.le_of_ble_eq_true rfl⟩) hP hD hS hA [24, 25, 26, 27, 28, 29, 30, 31, 32, 33, 34, 35, 36, 37, 38, 39, 40, 41, 22, 23] [0, 1, 2, 3, 4, 5, 6, 7, 8, 9, 10, 11, 12, 13, 14, 15, 16, 17, 18, 19, 20, 21, 42, 43, 44, 45, 46, 47, 48, 49, 50, 51, 52, 53, 54] [0, 1, 2, 3, 4, 5, 6, 7, 8, 9, 10, 11, 12, 13, 14, 15, 16, 17, 18, 19, 20, 21, 53, 54, 35, 36, 37, 38, 39, 40, 41, 42, 43, 44, 45, 46, 47, 48, 49, 50, 51, 52, 22, 23, 24, 25, 26, 27, 28, 29, 30, 31, 32, 33, 34] rfl rfl (by decide) (by decide) rfl (by decide) (fun H locs hP hD hS => ?_)
    clear hz1
    refine lv_if_eq (tgt := 24) hx hb dX7_undo_11 (by decide) (fun c2 => ?_) (fun c2 => ?_)
    · have h := jt c2 h
      refine lv_bipush (v := (-4 : Int32)) hx hb dX7_undo_24 (by decide) ?_
      exact W.iret hx hb hr (fun t ht _ => ⟨⟨_, _, rfl, Option.some.inj h, by rw [ht]; exact hP, hD⟩, hS.F ht⟩) hS.2.2 dX7_undo_26 hlocks
    · have h := jf c2 h
      refine lv_aload_n hx hb dX7_undo_14 rfl (lv_at hl 0 rfl) ?_
      refine va_get (D := D) (ci := 7) (v := .ref (qa 24)) (C := RX7) (T := TX7) (N := 10) hx hb hts in_X7_undo_X7 hown hK.1 hP 0 rfl rfl 4 (by decide) (hts _ kw_X7_undo_1) (fun _ h9 => h9) rfl dX7_undo_15 ?_
      refine va_get (D := D) (ci := 6) (v := .int (z1.2.1.2 1)) (C := RX6) (T := TX6) (N := 3) hx hb hts in_X7_undo_X6 hown hK.1 hP 24 rfl rfl 2 (by decide) (hts _ kw_X7_undo_3) (fun _ h9 => h9) rfl dX7_undo_18 ?_
      refine lv_goto (tgt := 26) hx hb dX7_undo_21 (by decide) ?_
      exact W.iret hx hb hr (fun t ht _ => ⟨⟨_, _, rfl, Option.some.inj h, by rw [ht]; exact hP, hD⟩, hS.F ht⟩) hS.2.2 dX7_undo_26 hlocks
  exact key s.heap [] hP hD hS
theorem kw_X7_write_1 : (.fieldLink RX7 10 "BellTheCat" "text" "LBellTheCat$Text;" : Cond) ∈ wsX7_write := List.mem_of_getElem? (i := 1) rfl
theorem kw_X7_write_2 : (.fieldLink RX7 77 "BellTheCat$Text" "length" "I" : Cond) ∈ wsX7_write := List.mem_of_getElem? (i := 2) rfl
theorem in_X7_write_X5 : ∀ w ∈ wsX50, w ∈ wsX7_write := fun w h => List.mem_cons_of_mem _ (List.mem_append_right _ h)
theorem in_X7_write_X7 : ∀ w ∈ wsX70, w ∈ wsX7_write := fun w h => List.mem_cons_of_mem _ (List.mem_append_left _ (List.mem_append_right _ h))
abbrev rm_X7_write : Room := { frames := 1, cells := 0, slots := 0, locals := 21 }
set_option maxHeartbeats 4000000 in
set_option maxRecDepth 100000 in
theorem c_X7_write (l : Launch) (D : va_G) (cyI cyZ cyT : ClassId) (qa : Nat → Nat) (sz : Nat) (a1 : Int32) (X : BX) (o : (Int32 × BX)) (hf : f_X7_write a1 X = some o) : Met l yX7_write wsX7_write rm_X7_write (va_Pc [.ref (qa 0), .int a1] (jM D cyI cyZ cyT (wX cyI cyZ cyT qa X) sz)) (jQi D (va_A (wX cyI cyZ cyT qa X) sz) (fun u : BX => wX cyI cyZ cyT qa u) o) 0 0 (va_A (wX cyI cyZ cyT qa X) sz) := by
  refine Met.ofW (cc := cX7_write) (maxL := 2) (ret := (some .int)) (by decide) rfl ?_
  intro p e s m args below meth c s₁ B hml hv
  obtain ⟨rfl, hsz, hP, hK, hD0⟩ := hv
  have hx := B.exec
  have hb := B.bytes
  have hr := B.returns
  have hts := atoms_spec (ws := wsX7_write) B.pre
  have hown : s.vm.findClass RX7 = some m.cls := findClass_of_methodNamed B.named
  have hlocks := B.notSynchronized
  subst hsz
  have hD := hD0.self (sz := s.heap.size)
  generalize hAe : va_A (wX cyI cyZ cyT qa X) s.heap.size = A at hD ⊢
  have hA : ∀ q : Nat, s.heap.size ≤ q → A q := fun q h => by rw [← hAe]; exact Or.inr h
  have hS : va_S A s.heap s.heap [] := va_S.rf
  have hl := lv_entry ([.ref (qa 0), .int a1]) (n := 2) (Nat.le_of_ble_eq_true rfl)
  rw [lg_entry_eq]
  generalize (lg_sl ([.ref (qa 0), .int a1]) ++ List.replicate (2 - (lg_sl ([.ref (qa 0), .int a1])).length) Slot.unset).toArray = ls at hl ⊢
  have hl : lv_has ls 2 [(0, .ref (qa 0)), (1, .int a1)] := hl
  clear B
  generalize ([.ref (qa 0), .int a1] : List Value).toArray = args at hts ⊢
  have key : ∀ (H : Heap) (locs : List Loc), va_P D vwCl (wX cyI cyZ cyT qa X) H → va_D A (wX cyI cyZ cyT qa X) → va_S A s.heap H locs → W p l e rm_X7_write s m args below meth c H locs 0 0 (MQ below (jQi D A (fun u : BX => wX cyI cyZ cyT qa u) o) args s 0 0 A) (F0 m 0 ls []) := by
    intro H locs hP hD hS
    have h := hf
    unfold f_X7_write at h
    refine lv_iload_n hx hb dX7_write_0 rfl (lv_at hl 1 rfl) ?_
    refine lv_sipush (v := (255 : Int32)) hx hb dX7_write_1 (by decide) ?_
    obtain ⟨z1, hz1, h⟩ := jb h
    refine jki (jrS (As := [.int a1, .int (255 : Int32)]) (rest := []) ⟨hx, hb, hml, hown, hts⟩ (c_X7_within l D cyI cyZ cyT   a1 (255 : Int32) z1 hz1) (va_cwS 2 hts gX7_write_X7_within rfl rfl rfl (by decide +kernel) ⟨Nat.le_of_ble_eq_true rfl, Nat.le_of_ble_eq_true rfl⟩) hK jP0 rfl rfl hl.1 (Nat.le_of_ble_eq_true rfl) dX7_write_4 ⟨Nat.le_of_ble_eq_true rfl, Nat.le_of_ble_eq_true rfl⟩) ?_
    clear hz1
    refine lv_if_ne (tgt := 13) hx hb dX7_write_7 (by decide) (fun c2 => ?_) (fun c2 => ?_)
    · have h := jf c2 h
      refine lv_aload_n hx hb dX7_write_13 rfl (lv_at hl 0 rfl) ?_
      refine va_get (D := D) (ci := 7) (v := .ref (qa 1)) (C := RX7) (T := TX7) (N := 10) hx hb hts in_X7_write_X7 hown hK.1 hP 0 rfl rfl 0 (by decide) (hts _ kw_X7_write_1) (fun _ h9 => h9) rfl dX7_write_14 ?_
      refine lv_iload_n hx hb dX7_write_17 rfl (lv_at hl 1 rfl) ?_
      obtain ⟨z3, hz3, h⟩ := jb h
      refine jgi (w1 := fun u : Mo => wTx cyI (fun k => qa (1 + k)) u) (wn := wX cyI cyZ cyT qa (va_up X.1 0 z3.2, X.2.1, X.2.2.1, X.2.2.2)) (jmV (As := [.int a1]) (rest := []) ⟨hx, hb, hml, hown, hts⟩ (c_X5_append l D cyI cyZ cyT (fun k => qa (1 + k)) H.size a1 (X.1 0) z3 hz3) (cwV 1 hts gX7_write_X5_append rfl rfl rfl (by decide +kernel) ⟨Nat.le_of_ble_eq_true rfl, Nat.le_of_ble_eq_true rfl⟩) hK (hP.sub (ws' := wTx cyI (fun k => qa (1 + k)) (X.1 0)) [1, 2, 3] rfl) (hD.sub (ws' := wTx cyI (fun k => qa (1 + k)) (X.1 0)) [1, 2, 3] (by decide) rfl) rfl 5 0 rfl rfl rfl hl.1 (Nat.le_of_ble_eq_true rfl) dX7_write_18 ⟨Nat.le_of_ble_eq_true rfl, Nat.le_of_ble_eq_true rfl⟩) hP hD hS hA [1, 2, 3] [0, 4, 5, 6, 7, 8, 9, 10, 11, 12, 13, 14, 15, 16, 17, 18, 19, 20, 21, 22, 23, 24, 25, 26, 27, 28, 29, 30, 31, 32, 33, 34, 35, 36, 37, 38, 39, 40, 41, 42, 43, 44, 45, 46, 47, 48, 49, 50, 51, 52, 53, 54] [0, 52, 53, 54, 1, 2, 3, 4, 5, 6, 7, 8, 9, 10, 11, 12, 13, 14, 15, 16, 17, 18, 19, 20, 21, 22, 23, 24, 25, 26, 27, 28, 29, 30, 31, 32, 33, 34, 35, 36, 37, 38, 39, 40, 41, 42, 43, 44, 45, 46, 47, 48, 49, 50, 51] rfl rfl (by decide) (by decide) rfl (by decide) (fun H locs hP hD hS => ?_)
      clear hz3
      refine lv_if_eq (tgt := 34) hx hb dX7_write_21 (by decide) (fun c4 => ?_) (fun c4 => ?_)
      · have h := jt c4 h
        refine lv_bipush (v := (-5 : Int32)) hx hb dX7_write_34 (by decide) ?_
        exact W.iret hx hb hr (fun t ht _ => ⟨⟨_, _, rfl, Option.some.inj h, by rw [ht]; exact hP, hD⟩, hS.F ht⟩) hS.2.2 dX7_write_36 hlocks
      · have h := jf c4 h
        refine lv_aload_n hx hb dX7_write_24 rfl (lv_at hl 0 rfl) ?_
        refine va_get (D := D) (ci := 7) (v := .ref (qa 1)) (C := RX7) (T := TX7) (N := 10) hx hb hts in_X7_write_X7 hown hK.1 hP 0 rfl rfl 0 (by decide) (hts _ kw_X7_write_1) (fun _ h9 => h9) rfl dX7_write_25 ?_
        refine va_get (D := D) (ci := 5) (v := .int (z3.2.2 0)) (C := RX5) (T := TX5) (N := 6) hx hb hts in_X7_write_X5 hown hK.1 hP 1 rfl rfl 2 (by decide) (hts _ kw_X7_write_2) (fun _ h9 => h9) rfl dX7_write_28 ?_
        refine lv_goto (tgt := 36) hx hb dX7_write_31 (by decide) ?_
        exact W.iret hx hb hr (fun t ht _ => ⟨⟨_, _, rfl, Option.some.inj h, by rw [ht]; exact hP, hD⟩, hS.F ht⟩) hS.2.2 dX7_write_36 hlocks
    · have h := jt c2 h
      refine lv_bipush (v := (-3 : Int32)) hx hb dX7_write_10 (by decide) ?_
      exact W.iret hx hb hr (fun t ht _ => ⟨⟨_, _, rfl, Option.some.inj h, by rw [ht]; exact hP, hD⟩, hS.F ht⟩) hS.2.2 dX7_write_12 hlocks
  exact key s.heap [] hP hD hS

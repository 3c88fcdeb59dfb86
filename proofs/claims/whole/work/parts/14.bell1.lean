abbrev rm_X7_commonDivisor : Room := { frames := 0, cells := 0, slots := 0, locals := 0 }
set_option maxHeartbeats 4000000 in
set_option maxRecDepth 100000 in
theorem c_X7_commonDivisor (l : Launch) (D : va_G) (cyI cyZ cyT : ClassId) (N : Nat) (a0 : Int64) (a2 : Int64) (o : Int64) (hf : f_X7_commonDivisor N a0 a2 = some o) : Met l yX7_commonDivisor wsX7_commonDivisor rm_X7_commonDivisor (va_Pc [.long a0, .long a2] (jB D cyI cyZ cyT ([]))) (jSl o) 0 0 (fun _ => False) := by
  refine Met.ofW (cc := cX7_commonDivisor) (maxL := 11) (ret := (some .long)) (by decide) rfl ?_
  intro p e s m args below meth c s₁ B hml hv
  obtain ⟨rfl, hP, hK⟩ := hv
  have hx := B.exec
  have hb := B.bytes
  have hr := B.returns
  have hts := atoms_spec (ws := wsX7_commonDivisor) B.pre
  have hown : s.vm.findClass RX7 = some m.cls := findClass_of_methodNamed B.named
  have hlocks := B.notSynchronized
  have hl := lv_entry ([.long a0, .long a2]) (n := 11) (Nat.le_of_ble_eq_true rfl)
  rw [lg_entry_eq]
  generalize (lg_sl ([.long a0, .long a2]) ++ List.replicate (11 - (lg_sl ([.long a0, .long a2])).length) Slot.unset).toArray = ls at hl ⊢
  have hl : lv_has ls 11 [(0, .long a0), (2, .long a2)] := hl
  clear B
  generalize ([.long a0, .long a2] : List Value).toArray = args at hts ⊢
  have key : ∀ (H : Heap), va_P D vwCl ([]) H → H = s.heap → W p l e rm_X7_commonDivisor s m args below meth c H [] 0 0 (MQ below (jSl o) args s 0 0 (fun _ => False)) (F0 m 0 ls []) := by
    intro H hP hH
    have h := hf
    unfold f_X7_commonDivisor at h
    refine lv_lload_n hx hb dX7_commonDivisor_0 rfl (lv_at hl 0 rfl) ?_
    refine lv_lstore (lv' := [(4, .long a0), (0, .long a0), (2, .long a2)]) hx hb dX7_commonDivisor_1 hl (by decide) rfl (fun ls hl => ?_)
    refine lv_lload_n hx hb dX7_commonDivisor_3 rfl (lv_at hl 2 rfl) ?_
    refine lv_lstore (lv' := [(6, .long a2), (4, .long a0), (0, .long a0), (2, .long a2)]) hx hb dX7_commonDivisor_4 hl (by decide) rfl (fun ls hl => ?_)
    refine lv_iconst (v := (0 : Int32)) hx hb dX7_commonDivisor_6 (by decide) ?_
    refine lv_istore (lv' := [(8, .int (0 : Int32)), (6, .long a2), (4, .long a0), (0, .long a0), (2, .long a2)]) hx hb dX7_commonDivisor_7 hl (by decide) rfl (fun ls hl => ?_)
    obtain ⟨r1, hz1, h1_⟩ := jb h
    have hex1 : ∀ e1 : Int64, r1 = e1 → ∀ (ls : Array Slot), lv_has ls 11 [(4, .long e1)] → W p l e rm_X7_commonDivisor s m args below meth c H [] 0 0 (MQ below (jSl o) args s 0 0 (fun _ => False)) (F0 m 45 ls []) := by
      intro e1 he ls hl
      rw [he] at h1_
      have h := h1_
      clear hz1
      refine lv_lload hx hb dX7_commonDivisor_45 (lv_at hl 0 rfl) ?_
      exact W.lret hx hb hr (fun t ht _ => ⟨_, rfl, Option.some.inj h, ht.trans hH⟩) (fun q h => by cases h) dX7_commonDivisor_47 hlocks
    have hlp1 : ∀ (nn : Nat) (z1 : (Int64 × Int64 × Int32)), jw (X7_commonDivisor_s9) nn z1 = some r1 → ∀ (ls : Array Slot), lv_has ls 11 [(4, .long z1.1), (6, .long z1.2.1), (8, .int z1.2.2)] → W p l e rm_X7_commonDivisor s m args below meth c H [] 0 0 (MQ below (jSl o) args s 0 0 (fun _ => False)) (F0 m 9 ls []) := by
      refine jw_P (r := r1) (P := fun z1 : (Int64 × Int64 × Int32) => ∀ (ls : Array Slot), lv_has ls 11 [(4, .long z1.1), (6, .long z1.2.1), (8, .int z1.2.2)] → W p l e rm_X7_commonDivisor s m args below meth c H [] 0 0 (MQ below (jSl o) args s 0 0 (fun _ => False)) (F0 m 9 ls [])) ?_
      intro z1 x1 h hin hout ls hl
      unfold X7_commonDivisor_s9 at h
      refine lv_iload hx hb dX7_commonDivisor_9 (lv_at hl 2 rfl) ?_
      refine lv_sipush (v := (200 : Int32)) hx hb dX7_commonDivisor_11 (by decide) ?_
      refine lv_icmp_ge (tgt := 45) hx hb dX7_commonDivisor_14 (by decide) (fun c2 => ?_) (fun c2 => ?_)
      · have h := jt c2 h
        exact hex1 _ (hout _ (Option.some.inj h).symm).symm ls (lv_sub hl [0] rfl)
      · have h := jf c2 h
        refine lv_lload hx hb dX7_commonDivisor_17 (lv_at hl 1 rfl) ?_
        refine lv_lconst (v := (0 : Int64)) hx hb dX7_commonDivisor_19 (by decide) ?_
        refine W.lcmp hx hb dX7_commonDivisor_20 ?_
        refine lv_if_eq (tgt := 45) hx hb dX7_commonDivisor_21 (by decide) (fun c3 => ?_) (fun c3 => ?_)
        · have h := jt ((lg_cmp_eq _ _).mp c3) h
          exact hex1 _ (hout _ (Option.some.inj h).symm).symm ls (lv_sub hl [0] rfl)
        · have h := jf (fun e => c3 ((lg_cmp_eq _ _).mpr e)) h
          refine lv_lload hx hb dX7_commonDivisor_24 (lv_at hl 0 rfl) ?_
          refine lv_lload hx hb dX7_commonDivisor_26 (lv_at hl 1 rfl) ?_
          obtain ⟨g4, h⟩ := jn h
          refine lv_lrem hx hb dX7_commonDivisor_28 g4 ?_
          refine lv_lstore (lv' := [(9, .long (z1.1 - z1.1 / z1.2.1 * z1.2.1)), (4, .long z1.1), (6, .long z1.2.1), (8, .int z1.2.2)]) hx hb dX7_commonDivisor_29 hl (by decide) rfl (fun ls hl => ?_)
          refine lv_lload hx hb dX7_commonDivisor_31 (lv_at hl 2 rfl) ?_
          refine lv_lstore (lv' := [(4, .long z1.2.1), (9, .long (z1.1 - z1.1 / z1.2.1 * z1.2.1)), (6, .long z1.2.1), (8, .int z1.2.2)]) hx hb dX7_commonDivisor_33 hl (by decide) rfl (fun ls hl => ?_)
          refine lv_lload hx hb dX7_commonDivisor_35 (lv_at hl 1 rfl) ?_
          refine lv_lstore (lv' := [(6, .long (z1.1 - z1.1 / z1.2.1 * z1.2.1)), (4, .long z1.2.1), (9, .long (z1.1 - z1.1 / z1.2.1 * z1.2.1)), (8, .int z1.2.2)]) hx hb dX7_commonDivisor_37 hl (by decide) rfl (fun ls hl => ?_)
          refine lv_iinc (v := z1.2.2 + (1 : Int32)) (lv' := [(8, .int (z1.2.2 + (1 : Int32))), (6, .long (z1.1 - z1.1 / z1.2.1 * z1.2.1)), (4, .long z1.2.1), (9, .long (z1.1 - z1.1 / z1.2.1 * z1.2.1))]) hx hb dX7_commonDivisor_39 hl (k := 3) rfl rfl (by decide) rfl (fun ls hl => ?_)
          refine lv_goto (tgt := 9) hx hb dX7_commonDivisor_42 (by decide) ?_
          exact hin _ (Option.some.inj h).symm ls (lv_sub hl [2, 1, 0] rfl)
    exact hlp1 _ _ hz1 ls (lv_sub hl [2, 1, 0] rfl)
  exact key s.heap hP rfl
abbrev rm_X7_within : Room := { frames := 0, cells := 0, slots := 0, locals := 0 }
set_option maxHeartbeats 4000000 in
set_option maxRecDepth 100000 in
theorem c_X7_within (l : Launch) (D : va_G) (cyI cyZ cyT : ClassId) (a0 : Int32) (a1 : Int32) (o : Int32) (hf : f_X7_within a0 a1 = some o) : Met l yX7_within wsX7_within rm_X7_within (va_Pc [.int a0, .int a1] (jB D cyI cyZ cyT ([]))) (jSi o) 0 0 (fun _ => False) := by
  refine Met.ofW (cc := cX7_within) (maxL := 2) (ret := (some .boolean)) (by decide) rfl ?_
  intro p e s m args below meth c s₁ B hml hv
  obtain ⟨rfl, hP, hK⟩ := hv
  have hx := B.exec
  have hb := B.bytes
  have hr := B.returns
  have hts := atoms_spec (ws := wsX7_within) B.pre
  have hown : s.vm.findClass RX7 = some m.cls := findClass_of_methodNamed B.named
  have hlocks := B.notSynchronized
  have hl := lv_entry ([.int a0, .int a1]) (n := 2) (Nat.le_of_ble_eq_true rfl)
  rw [lg_entry_eq]
  generalize (lg_sl ([.int a0, .int a1]) ++ List.replicate (2 - (lg_sl ([.int a0, .int a1])).length) Slot.unset).toArray = ls at hl ⊢
  have hl : lv_has ls 2 [(0, .int a0), (1, .int a1)] := hl
  clear B
  generalize ([.int a0, .int a1] : List Value).toArray = args at hts ⊢
  have key : ∀ (H : Heap), va_P D vwCl ([]) H → H = s.heap → W p l e rm_X7_within s m args below meth c H [] 0 0 (MQ below (jSi o) args s 0 0 (fun _ => False)) (F0 m 0 ls []) := by
    intro H hP hH
    have h := hf
    unfold f_X7_within at h
    refine lv_iload_n hx hb dX7_within_0 rfl (lv_at hl 0 rfl) ?_
    refine lv_if_lt (tgt := 13) hx hb dX7_within_1 (by decide) (fun c1 => ?_) (fun c1 => ?_)
    · have h := jt c1 h
      refine lv_iconst (v := (0 : Int32)) hx hb dX7_within_13 (by decide) ?_
      exact W.zret hx hb hr rfl (fun t ht _ => ⟨_, rfl, Option.some.inj h, ht.trans hH⟩) (fun q h => by cases h) dX7_within_14 hlocks
    · have h := jf c1 h
      refine lv_iload_n hx hb dX7_within_4 rfl (lv_at hl 0 rfl) ?_
      refine lv_iload_n hx hb dX7_within_5 rfl (lv_at hl 1 rfl) ?_
      refine lv_icmp_gt (tgt := 13) hx hb dX7_within_6 (by decide) (fun c2 => ?_) (fun c2 => ?_)
      · have h := jt c2 h
        refine lv_iconst (v := (0 : Int32)) hx hb dX7_within_13 (by decide) ?_
        exact W.zret hx hb hr rfl (fun t ht _ => ⟨_, rfl, Option.some.inj h, ht.trans hH⟩) (fun q h => by cases h) dX7_within_14 hlocks
      · have h := jf c2 h
        refine lv_iconst (v := (1 : Int32)) hx hb dX7_within_9 (by decide) ?_
        refine lv_goto (tgt := 14) hx hb dX7_within_10 (by decide) ?_
        exact W.zret hx hb hr rfl (fun t ht _ => ⟨_, rfl, Option.some.inj h, ht.trans hH⟩) (fun q h => by cases h) dX7_within_14 hlocks
  exact key s.heap hP rfl
abbrev rm_X7_isPart : Room := { frames := 1, cells := 0, slots := 0, locals := 21 }
set_option maxHeartbeats 4000000 in
set_option maxRecDepth 100000 in
theorem c_X7_isPart (l : Launch) (D : va_G) (cyI cyZ cyT : ClassId) (a0 : Int32) (o : Int32) (hf : f_X7_isPart a0 = some o) : Met l yX7_isPart wsX7_isPart rm_X7_isPart (va_Pc [.int a0] (jB D cyI cyZ cyT ([]))) (jSi o) 0 0 (fun _ => False) := by
  refine Met.ofW (cc := cX7_isPart) (maxL := 1) (ret := (some .boolean)) (by decide) rfl ?_
  intro p e s m args below meth c s₁ B hml hv
  obtain ⟨rfl, hP, hK⟩ := hv
  have hx := B.exec
  have hb := B.bytes
  have hr := B.returns
  have hts := atoms_spec (ws := wsX7_isPart) B.pre
  have hown : s.vm.findClass RX7 = some m.cls := findClass_of_methodNamed B.named
  have hlocks := B.notSynchronized
  have hl := lv_entry ([.int a0]) (n := 1) (Nat.le_of_ble_eq_true rfl)
  rw [lg_entry_eq]
  generalize (lg_sl ([.int a0]) ++ List.replicate (1 - (lg_sl ([.int a0])).length) Slot.unset).toArray = ls at hl ⊢
  have hl : lv_has ls 1 [(0, .int a0)] := hl
  clear B
  generalize ([.int a0] : List Value).toArray = args at hts ⊢
  have key : ∀ (H : Heap), va_P D vwCl ([]) H → H = s.heap → W p l e rm_X7_isPart s m args below meth c H [] 0 0 (MQ below (jSi o) args s 0 0 (fun _ => False)) (F0 m 0 ls []) := by
    intro H hP hH
    have h := hf
    unfold f_X7_isPart at h
    refine lv_iload_n hx hb dX7_isPart_0 rfl (lv_at hl 0 rfl) ?_
    refine lv_iconst (v := (1 : Int32)) hx hb dX7_isPart_1 (by decide) ?_
    obtain ⟨z1, hz1, h⟩ := jb h
    refine jki (jrS (As := [.int a0, .int (1 : Int32)]) (rest := []) ⟨hx, hb, hml, hown, hts⟩ (c_X7_within l D cyI cyZ cyT   a0 (1 : Int32) z1 hz1) (va_cwS 2 hts gX7_isPart_X7_within rfl rfl rfl (by decide +kernel) ⟨Nat.le_of_ble_eq_true rfl, Nat.le_of_ble_eq_true rfl⟩) hK jP0 rfl rfl hl.1 (Nat.le_of_ble_eq_true rfl) dX7_isPart_2 ⟨Nat.le_of_ble_eq_true rfl, Nat.le_of_ble_eq_true rfl⟩) ?_
    clear hz1
    obtain ⟨gz, h⟩ := jn h
    exact W.zret hx hb hr (jz_n gz) (fun t ht _ => ⟨_, rfl, Option.some.inj h, ht.trans hH⟩) (fun q h => by cases h) dX7_isPart_5 hlocks
  exact key s.heap hP rfl
abbrev rm_X7_partOf : Room := { frames := 1, cells := 0, slots := 0, locals := 30 }
set_option maxHeartbeats 4000000 in
set_option maxRecDepth 100000 in
theorem c_X7_partOf (l : Launch) (D : va_G) (cyI cyZ cyT : ClassId) (N : Nat) (a0 : Int64) (a2 : Int64) (a4 : Int32) (o : Int64) (hf : f_X7_partOf N a0 a2 a4 = some o) : Met l yX7_partOf wsX7_partOf rm_X7_partOf (va_Pc [.long a0, .long a2, .int a4] (jB D cyI cyZ cyT ([]))) (jSl o) 0 0 (fun _ => False) := by
  refine Met.ofW (cc := cX7_partOf) (maxL := 7) (ret := (some .long)) (by decide) rfl ?_
  intro p e s m args below meth c s₁ B hml hv
  obtain ⟨rfl, hP, hK⟩ := hv
  have hx := B.exec
  have hb := B.bytes
  have hr := B.returns
  have hts := atoms_spec (ws := wsX7_partOf) B.pre
  have hown : s.vm.findClass RX7 = some m.cls := findClass_of_methodNamed B.named
  have hlocks := B.notSynchronized
  have hl := lv_entry ([.long a0, .long a2, .int a4]) (n := 7) (Nat.le_of_ble_eq_true rfl)
  rw [lg_entry_eq]
  generalize (lg_sl ([.long a0, .long a2, .int a4]) ++ List.replicate (7 - (lg_sl ([.long a0, .long a2, .int a4])).length) Slot.unset).toArray = ls at hl ⊢
  have hl : lv_has ls 7 [(0, .long a0), (2, .long a2), (4, .int a4)] := hl
  clear B
  generalize ([.long a0, .long a2, .int a4] : List Value).toArray = args at hts ⊢
  have key : ∀ (H : Heap), va_P D vwCl ([]) H → H = s.heap → W p l e rm_X7_partOf s m args below meth c H [] 0 0 (MQ below (jSl o) args s 0 0 (fun _ => False)) (F0 m 0 ls []) := by
    intro H hP hH
    have h := hf
    unfold f_X7_partOf at h
    refine lv_lload_n hx hb dX7_partOf_0 rfl (lv_at hl 0 rfl) ?_
    refine lv_lload_n hx hb dX7_partOf_1 rfl (lv_at hl 1 rfl) ?_
    obtain ⟨z1, hz1, h⟩ := jb h
    refine jkl (jrS (As := [.long a0, .long a2]) (rest := []) ⟨hx, hb, hml, hown, hts⟩ (c_X7_commonDivisor l D cyI cyZ cyT   N a0 a2 z1 hz1) (va_cwS 2 hts gX7_partOf_X7_commonDivisor rfl rfl rfl (by decide +kernel) ⟨Nat.le_of_ble_eq_true rfl, Nat.le_of_ble_eq_true rfl⟩) hK jP0 rfl rfl hl.1 (Nat.le_of_ble_eq_true rfl) dX7_partOf_2 ⟨Nat.le_of_ble_eq_true rfl, Nat.le_of_ble_eq_true rfl⟩) ?_
    clear hz1
    refine lv_lstore (lv' := [(5, .long z1), (0, .long a0), (2, .long a2), (4, .int a4)]) hx hb dX7_partOf_5 hl (by decide) rfl (fun ls hl => ?_)
    refine lv_lload hx hb dX7_partOf_7 (lv_at hl 0 rfl) ?_
    refine lv_lconst (v := (0 : Int64)) hx hb dX7_partOf_9 (by decide) ?_
    refine W.lcmp hx hb dX7_partOf_10 ?_
    refine lv_if_ne (tgt := 16) hx hb dX7_partOf_11 (by decide) (fun c2 => ?_) (fun c2 => ?_)
    · have h := jf (fun e => c2 ((lg_cmp_eq _ _).mpr e)) h
      refine lv_iload hx hb dX7_partOf_16 (lv_at hl 3 rfl) ?_
      obtain ⟨z3, hz3, h⟩ := jb h
      have hk3 : ∀ (ls : Array Slot), lv_has ls 7 [(5, .long z1)] → W p l e rm_X7_partOf s m args below meth c H [] 0 0 (MQ below (jSl o) args s 0 0 (fun _ => False)) (F0 m 26 ls [.long z3]) := by
        intro ls hl
        refine lv_lload hx hb dX7_partOf_26 (lv_at hl 0 rfl) ?_
        obtain ⟨g5, h⟩ := jn h
        refine lv_ldiv hx hb dX7_partOf_28 g5 ?_
        exact W.lret hx hb hr (fun t ht _ => ⟨_, rfl, Option.some.inj h, ht.trans hH⟩) (fun q h => by cases h) dX7_partOf_29 hlocks
      clear h
      have h := hz3
      clear hz3
      refine lv_if_ne (tgt := 25) hx hb dX7_partOf_18 (by decide) (fun c4 => ?_) (fun c4 => ?_)
      · have h := jf c4 h
        refine lv_lload_n hx hb dX7_partOf_25 rfl (lv_at hl 2 rfl) ?_
        obtain rfl := Option.some.inj h
        exact hk3 ls (lv_sub hl [0] rfl)
      · have h := jt c4 h
        refine lv_lload_n hx hb dX7_partOf_21 rfl (lv_at hl 1 rfl) ?_
        refine lv_goto (tgt := 26) hx hb dX7_partOf_22 (by decide) ?_
        obtain rfl := Option.some.inj h
        exact hk3 ls (lv_sub hl [0] rfl)
    · have h := jt ((lg_cmp_eq _ _).mp c2) h
      refine lv_lconst (v := (0 : Int64)) hx hb dX7_partOf_14 (by decide) ?_
      exact W.lret hx hb hr (fun t ht _ => ⟨_, rfl, Option.some.inj h, ht.trans hH⟩) (fun q h => by cases h) dX7_partOf_15 hlocks
  exact key s.heap hP rfl
theorem kw_X7_alone_1 : (.fieldLink RX7 19 "BellTheCat" "told" "LBellTheCat$House;" : Cond) ∈ wsX7_alone := List.mem_of_getElem? (i := 1) rfl
theorem kw_X7_alone_2 : (.fieldLink RX7 178 "BellTheCat$House" "stepCount" "I" : Cond) ∈ wsX7_alone := List.mem_of_getElem? (i := 2) rfl
theorem in_X7_alone_X0 : ∀ w ∈ wsX00, w ∈ wsX7_alone := fun w h => List.mem_cons_of_mem _ (List.mem_append_right _ h)
theorem in_X7_alone_X7 : ∀ w ∈ wsX70, w ∈ wsX7_alone := fun w h => List.mem_cons_of_mem _ (List.mem_append_left _ (List.mem_append_right _ h))
abbrev rm_X7_alone : Room := { frames := 4, cells := 0, slots := 0, locals := 135 }
set_option maxHeartbeats 4000000 in
set_option maxRecDepth 100000 in
theorem c_X7_alone (l : Launch) (D : va_G) (cyI cyZ cyT : ClassId) (qa : Nat → Nat) (N : Nat) (a1 : Int32) (a2 : Int32) (X : BX) (o : Int32) (hf : f_X7_alone N a1 a2 X = some o) : Met l yX7_alone wsX7_alone rm_X7_alone (va_Pc [.ref (qa 0), .int a1, .int a2] (jB D cyI cyZ cyT (wX cyI cyZ cyT qa X))) (jSi o) 0 0 (fun _ => False) := by
  refine Met.ofW (cc := cX7_alone) (maxL := 3) (ret := (some .int)) (by decide) rfl ?_
  intro p e s m args below meth c s₁ B hml hv
  obtain ⟨rfl, hP, hK⟩ := hv
  have hx := B.exec
  have hb := B.bytes
  have hr := B.returns
  have hts := atoms_spec (ws := wsX7_alone) B.pre
  have hown : s.vm.findClass RX7 = some m.cls := findClass_of_methodNamed B.named
  have hlocks := B.notSynchronized
  have hl := lv_entry ([.ref (qa 0), .int a1, .int a2]) (n := 3) (Nat.le_of_ble_eq_true rfl)
  rw [lg_entry_eq]
  generalize (lg_sl ([.ref (qa 0), .int a1, .int a2]) ++ List.replicate (3 - (lg_sl ([.ref (qa 0), .int a1, .int a2])).length) Slot.unset).toArray = ls at hl ⊢
  have hl : lv_has ls 3 [(0, .ref (qa 0)), (1, .int a1), (2, .int a2)] := hl
  clear B
  generalize ([.ref (qa 0), .int a1, .int a2] : List Value).toArray = args at hts ⊢
  have key : ∀ (H : Heap), va_P D vwCl (wX cyI cyZ cyT qa X) H → H = s.heap → W p l e rm_X7_alone s m args below meth c H [] 0 0 (MQ below (jSi o) args s 0 0 (fun _ => False)) (F0 m 0 ls []) := by
    intro H hP hH
    have h := hf
    unfold f_X7_alone at h
    refine lv_aload_n hx hb dX7_alone_0 rfl (lv_at hl 0 rfl) ?_
    refine va_get (D := D) (ci := 7) (v := .ref (qa 4)) (C := RX7) (T := TX7) (N := 10) hx hb hts in_X7_alone_X7 hown hK.1 hP 0 rfl rfl 1 (by decide) (hts _ kw_X7_alone_1) (fun _ h9 => h9) rfl dX7_alone_1 ?_
    refine lv_iload_n hx hb dX7_alone_4 rfl (lv_at hl 1 rfl) ?_
    obtain ⟨z1, hz1, h⟩ := jb h
    refine jki (jrV (As := [.int a1]) (rest := []) ⟨hx, hb, hml, hown, hts⟩ (c_X0_hasMouse l D cyI cyZ cyT (fun k => qa (4 + k))  a1 (X.1 1) z1 hz1) (cwV 1 hts gX7_alone_X0_hasMouse rfl rfl rfl (by decide +kernel) ⟨Nat.le_of_ble_eq_true rfl, Nat.le_of_ble_eq_true rfl⟩) hK (hP.sub (ws' := wH cyI (fun k => qa (4 + k)) (X.1 1)) [4, 5, 6, 7, 8, 9, 10, 11, 12] rfl) rfl 0 0 rfl rfl rfl hl.1 (Nat.le_of_ble_eq_true rfl) dX7_alone_5 ⟨Nat.le_of_ble_eq_true rfl, Nat.le_of_ble_eq_true rfl⟩) ?_
    clear hz1
    refine lv_if_ne (tgt := 14) hx hb dX7_alone_8 (by decide) (fun c2 => ?_) (fun c2 => ?_)
    · have h := jf c2 h
      refine lv_iload_n hx hb dX7_alone_14 rfl (lv_at hl 2 rfl) ?_
      obtain ⟨z3, hz3, h⟩ := jb h
      refine jki (jrS (As := [.int a2]) (rest := []) ⟨hx, hb, hml, hown, hts⟩ (c_X7_isPart l D cyI cyZ cyT   a2 z3 hz3) (va_cwS 1 hts gX7_alone_X7_isPart rfl rfl rfl (by decide +kernel) ⟨Nat.le_of_ble_eq_true rfl, Nat.le_of_ble_eq_true rfl⟩) hK jP0 rfl rfl hl.1 (Nat.le_of_ble_eq_true rfl) dX7_alone_15 ⟨Nat.le_of_ble_eq_true rfl, Nat.le_of_ble_eq_true rfl⟩) ?_
      clear hz3
      refine lv_if_ne (tgt := 24) hx hb dX7_alone_18 (by decide) (fun c4 => ?_) (fun c4 => ?_)
      · have h := jf c4 h
        refine lv_aload_n hx hb dX7_alone_24 rfl (lv_at hl 0 rfl) ?_
        refine va_get (D := D) (ci := 7) (v := .ref (qa 4)) (C := RX7) (T := TX7) (N := 10) hx hb hts in_X7_alone_X7 hown hK.1 hP 0 rfl rfl 1 (by decide) (hts _ kw_X7_alone_1) (fun _ h9 => h9) rfl dX7_alone_25 ?_
        refine lv_iload_n hx hb dX7_alone_28 rfl (lv_at hl 1 rfl) ?_
        obtain ⟨z5, hz5, h⟩ := jb h
        refine jkl (jrV (As := [.int a1]) (rest := []) ⟨hx, hb, hml, hown, hts⟩ (c_X0_aloneAbove l D cyI cyZ cyT (fun k => qa (4 + k))  N a1 (X.1 1) z5 hz5) (cwV 1 hts gX7_alone_X0_aloneAbove rfl rfl rfl (by decide +kernel) ⟨Nat.le_of_ble_eq_true rfl, Nat.le_of_ble_eq_true rfl⟩) hK (hP.sub (ws' := wH cyI (fun k => qa (4 + k)) (X.1 1)) [4, 5, 6, 7, 8, 9, 10, 11, 12] rfl) rfl 0 0 rfl rfl rfl hl.1 (Nat.le_of_ble_eq_true rfl) dX7_alone_29 ⟨Nat.le_of_ble_eq_true rfl, Nat.le_of_ble_eq_true rfl⟩) ?_
        clear hz5
        refine lv_aload_n hx hb dX7_alone_32 rfl (lv_at hl 0 rfl) ?_
        refine va_get (D := D) (ci := 7) (v := .ref (qa 4)) (C := RX7) (T := TX7) (N := 10) hx hb hts in_X7_alone_X7 hown hK.1 hP 0 rfl rfl 1 (by decide) (hts _ kw_X7_alone_1) (fun _ h9 => h9) rfl dX7_alone_33 ?_
        refine va_get (D := D) (ci := 0) (v := .int ((X.1 1).2 1)) (C := RX0) (T := TX0) (N := 12) hx hb hts in_X7_alone_X0 hown hK.1 hP 4 rfl rfl 9 (by decide) (hts _ kw_X7_alone_2) (fun _ h9 => h9) rfl dX7_alone_36 ?_
        obtain ⟨z6, hz6, h⟩ := jb h
        refine jkl (jrS (As := [.int ((X.1 1).2 1)]) (rest := [.long z5]) ⟨hx, hb, hml, hown, hts⟩ (c_X7_tenTo l D cyI cyZ cyT   N ((X.1 1).2 1) z6 hz6) (va_cwS 1 hts gX7_alone_X7_tenTo rfl rfl rfl (by decide +kernel) ⟨Nat.le_of_ble_eq_true rfl, Nat.le_of_ble_eq_true rfl⟩) hK jP0 rfl rfl hl.1 (Nat.le_of_ble_eq_true rfl) dX7_alone_39 ⟨Nat.le_of_ble_eq_true rfl, Nat.le_of_ble_eq_true rfl⟩) ?_
        clear hz6
        refine lv_iload_n hx hb dX7_alone_42 rfl (lv_at hl 2 rfl) ?_
        obtain ⟨z7, hz7, h⟩ := jb h
        refine jkl (jrS (As := [.long z5, .long z6, .int a2]) (rest := []) ⟨hx, hb, hml, hown, hts⟩ (c_X7_partOf l D cyI cyZ cyT   N z5 z6 a2 z7 hz7) (va_cwS 3 hts gX7_alone_X7_partOf rfl rfl rfl (by decide +kernel) ⟨Nat.le_of_ble_eq_true rfl, Nat.le_of_ble_eq_true rfl⟩) hK jP0 rfl rfl hl.1 (Nat.le_of_ble_eq_true rfl) dX7_alone_43 ⟨Nat.le_of_ble_eq_true rfl, Nat.le_of_ble_eq_true rfl⟩) ?_
        clear hz7
        refine lv_l2i (v := z7.toInt32) hx hb dX7_alone_46 rfl ?_
        exact W.iret hx hb hr (fun t ht _ => ⟨_, rfl, Option.some.inj h, ht.trans hH⟩) (fun q h => by cases h) dX7_alone_47 hlocks
      · have h := jt c4 h
        refine lv_bipush (v := (-3 : Int32)) hx hb dX7_alone_21 (by decide) ?_
        exact W.iret hx hb hr (fun t ht _ => ⟨_, rfl, Option.some.inj h, ht.trans hH⟩) (fun q h => by cases h) dX7_alone_23 hlocks
    · have h := jt c2 h
      refine lv_bipush (v := (-2 : Int32)) hx hb dX7_alone_11 (by decide) ?_
      exact W.iret hx hb hr (fun t ht _ => ⟨_, rfl, Option.some.inj h, ht.trans hH⟩) (fun q h => by cases h) dX7_alone_13 hlocks
  exact key s.heap hP rfl
abbrev rm_X7_canBeTakenAs : Room := { frames := 0, cells := 0, slots := 0, locals := 0 }
set_option maxHeartbeats 4000000 in
set_option maxRecDepth 100000 in
theorem c_X7_canBeTakenAs (l : Launch) (D : va_G) (cyI cyZ cyT : ClassId) (a0 : Int32) (a1 : Int32) (o : Int32) (hf : f_X7_canBeTakenAs a0 a1 = some o) : Met l yX7_canBeTakenAs wsX7_canBeTakenAs rm_X7_canBeTakenAs (va_Pc [.int a0, .int a1] (jB D cyI cyZ cyT ([]))) (jSi o) 0 0 (fun _ => False) := by
  refine Met.ofW (cc := cX7_canBeTakenAs) (maxL := 2) (ret := (some .boolean)) (by decide) rfl ?_
  intro p e s m args below meth c s₁ B hml hv
  obtain ⟨rfl, hP, hK⟩ := hv
  have hx := B.exec
  have hb := B.bytes
  have hr := B.returns
  have hts := atoms_spec (ws := wsX7_canBeTakenAs) B.pre
  have hown : s.vm.findClass RX7 = some m.cls := findClass_of_methodNamed B.named
  have hlocks := B.notSynchronized
  have hl := lv_entry ([.int a0, .int a1]) (n := 2) (Nat.le_of_ble_eq_true rfl)
  rw [lg_entry_eq]
  generalize (lg_sl ([.int a0, .int a1]) ++ List.replicate (2 - (lg_sl ([.int a0, .int a1])).length) Slot.unset).toArray = ls at hl ⊢
  have hl : lv_has ls 2 [(0, .int a0), (1, .int a1)] := hl
  clear B
  generalize ([.int a0, .int a1] : List Value).toArray = args at hts ⊢
  have key : ∀ (H : Heap), va_P D vwCl ([]) H → H = s.heap → W p l e rm_X7_canBeTakenAs s m args below meth c H [] 0 0 (MQ below (jSi o) args s 0 0 (fun _ => False)) (F0 m 0 ls []) := by
    intro H hP hH
    have h := hf
    unfold f_X7_canBeTakenAs at h
    refine lv_iload_n hx hb dX7_canBeTakenAs_0 rfl (lv_at hl 1 rfl) ?_
    by_cases c1 : a1 = (0 : Int32)
    · have h := jt c1 h
      refine lv_lookup (off := 27) (tgt := 28) hx hb dX7_canBeTakenAs_1 (by decide) (by rw [c1]; rfl) (by decide) ?_
      refine lv_iconst (v := (1 : Int32)) hx hb dX7_canBeTakenAs_28 (by decide) ?_
      exact W.zret hx hb hr rfl (fun t ht _ => ⟨_, rfl, Option.some.inj h, ht.trans hH⟩) (fun q h => by cases h) dX7_canBeTakenAs_29 hlocks
    have h := jf c1 h
    by_cases c2 : a1 = (1 : Int32)
    · have h := jt c2 h
      refine lv_lookup (off := 29) (tgt := 30) hx hb dX7_canBeTakenAs_1 (by decide) (by rw [c2]; rfl) (by decide) ?_
      refine lv_iload_n hx hb dX7_canBeTakenAs_30 rfl (lv_at hl 0 rfl) ?_
      refine lv_iconst (v := (2 : Int32)) hx hb dX7_canBeTakenAs_31 (by decide) ?_
      refine lv_icmp_eq (tgt := 39) hx hb dX7_canBeTakenAs_32 (by decide) (fun c3 => ?_) (fun c3 => ?_)
      · have h := jt c3 h
        refine lv_iconst (v := (0 : Int32)) hx hb dX7_canBeTakenAs_39 (by decide) ?_
        exact W.zret hx hb hr rfl (fun t ht _ => ⟨_, rfl, Option.some.inj h, ht.trans hH⟩) (fun q h => by cases h) dX7_canBeTakenAs_40 hlocks
      · have h := jf c3 h
        refine lv_iconst (v := (1 : Int32)) hx hb dX7_canBeTakenAs_35 (by decide) ?_
        refine lv_goto (tgt := 40) hx hb dX7_canBeTakenAs_36 (by decide) ?_
        exact W.zret hx hb hr rfl (fun t ht _ => ⟨_, rfl, Option.some.inj h, ht.trans hH⟩) (fun q h => by cases h) dX7_canBeTakenAs_40 hlocks
    have h := jf c2 h
    refine lv_lookup (off := 40) (tgt := 41) hx hb dX7_canBeTakenAs_1 (by decide) (by have d0 := jne (z := 0) rfl c1; have d1 := jne (z := 1) rfl c2; simp [Op.lookupswitch.offset, d0.symm, d1.symm]) (by decide) ?_
    refine lv_iload_n hx hb dX7_canBeTakenAs_41 rfl (lv_at hl 0 rfl) ?_
    refine lv_iload_n hx hb dX7_canBeTakenAs_42 rfl (lv_at hl 1 rfl) ?_
    refine lv_iconst (v := (1 : Int32)) hx hb dX7_canBeTakenAs_43 (by decide) ?_
    refine lv_isub hx hb dX7_canBeTakenAs_44 ?_
    refine lv_icmp_ne (tgt := 52) hx hb dX7_canBeTakenAs_45 (by decide) (fun c4 => ?_) (fun c4 => ?_)
    · have h := jf c4 h
      refine lv_iconst (v := (0 : Int32)) hx hb dX7_canBeTakenAs_52 (by decide) ?_
      exact W.zret hx hb hr rfl (fun t ht _ => ⟨_, rfl, Option.some.inj h, ht.trans hH⟩) (fun q h => by cases h) dX7_canBeTakenAs_53 hlocks
    · have h := jt c4 h
      refine lv_iconst (v := (1 : Int32)) hx hb dX7_canBeTakenAs_48 (by decide) ?_
      refine lv_goto (tgt := 53) hx hb dX7_canBeTakenAs_49 (by decide) ?_
      exact W.zret hx hb hr rfl (fun t ht _ => ⟨_, rfl, Option.some.inj h, ht.trans hH⟩) (fun q h => by cases h) dX7_canBeTakenAs_53 hlocks
  exact key s.heap hP rfl
theorem kw_X7_as_1 : (.fieldLink RX7 19 "BellTheCat" "told" "LBellTheCat$House;" : Cond) ∈ wsX7_as := List.mem_of_getElem? (i := 1) rfl
theorem kw_X7_as_2 : (.fieldLink RX7 108 "BellTheCat$House" "kinds" "[I" : Cond) ∈ wsX7_as := List.mem_of_getElem? (i := 2) rfl
theorem kw_X7_as_3 : (.fieldLink RX7 112 "BellTheCat$House" "speeds" "[I" : Cond) ∈ wsX7_as := List.mem_of_getElem? (i := 3) rfl
theorem in_X7_as_X0 : ∀ w ∈ wsX00, w ∈ wsX7_as := fun w h => List.mem_cons_of_mem _ (List.mem_append_right _ h)
theorem in_X7_as_X7 : ∀ w ∈ wsX70, w ∈ wsX7_as := fun w h => List.mem_cons_of_mem _ (List.mem_append_left _ (List.mem_append_right _ h))
abbrev rm_X7_as : Room := { frames := 2, cells := 0, slots := 0, locals := 87 }
set_option maxHeartbeats 4000000 in
set_option maxRecDepth 100000 in
theorem c_X7_as (l : Launch) (D : va_G) (cyI cyZ cyT : ClassId) (qa : Nat → Nat) (a1 : Int32) (a2 : Int32) (X : BX) (o : Int32) (hf : f_X7_as a1 a2 X = some o) : Met l yX7_as wsX7_as rm_X7_as (va_Pc [.ref (qa 0), .int a1, .int a2] (jB D cyI cyZ cyT (wX cyI cyZ cyT qa X))) (jSi o) 0 0 (fun _ => False) := by
  refine Met.ofW (cc := cX7_as) (maxL := 3) (ret := (some .int)) (by decide) rfl ?_
  intro p e s m args below meth c s₁ B hml hv
  obtain ⟨rfl, hP, hK⟩ := hv
  have hx := B.exec
  have hb := B.bytes
  have hr := B.returns
  have hts := atoms_spec (ws := wsX7_as) B.pre
  have hown : s.vm.findClass RX7 = some m.cls := findClass_of_methodNamed B.named
  have hlocks := B.notSynchronized
  have hl := lv_entry ([.ref (qa 0), .int a1, .int a2]) (n := 3) (Nat.le_of_ble_eq_true rfl)
  rw [lg_entry_eq]
  generalize (lg_sl ([.ref (qa 0), .int a1, .int a2]) ++ List.replicate (3 - (lg_sl ([.ref (qa 0), .int a1, .int a2])).length) Slot.unset).toArray = ls at hl ⊢
  have hl : lv_has ls 3 [(0, .ref (qa 0)), (1, .int a1), (2, .int a2)] := hl
  clear B
  generalize ([.ref (qa 0), .int a1, .int a2] : List Value).toArray = args at hts ⊢
  have key : ∀ (H : Heap), va_P D vwCl (wX cyI cyZ cyT qa X) H → H = s.heap → W p l e rm_X7_as s m args below meth c H [] 0 0 (MQ below (jSi o) args s 0 0 (fun _ => False)) (F0 m 0 ls []) := by
    intro H hP hH
    have h := hf
    unfold f_X7_as at h
    refine lv_aload_n hx hb dX7_as_0 rfl (lv_at hl 0 rfl) ?_
    refine va_get (D := D) (ci := 7) (v := .ref (qa 4)) (C := RX7) (T := TX7) (N := 10) hx hb hts in_X7_as_X7 hown hK.1 hP 0 rfl rfl 1 (by decide) (hts _ kw_X7_as_1) (fun _ h9 => h9) rfl dX7_as_1 ?_
    refine lv_iload_n hx hb dX7_as_4 rfl (lv_at hl 1 rfl) ?_
    obtain ⟨z1, hz1, h⟩ := jb h
    refine jki (jrV (As := [.int a1]) (rest := []) ⟨hx, hb, hml, hown, hts⟩ (c_X0_hasMouse l D cyI cyZ cyT (fun k => qa (4 + k))  a1 (X.1 1) z1 hz1) (cwV 1 hts gX7_as_X0_hasMouse rfl rfl rfl (by decide +kernel) ⟨Nat.le_of_ble_eq_true rfl, Nat.le_of_ble_eq_true rfl⟩) hK (hP.sub (ws' := wH cyI (fun k => qa (4 + k)) (X.1 1)) [4, 5, 6, 7, 8, 9, 10, 11, 12] rfl) rfl 0 0 rfl rfl rfl hl.1 (Nat.le_of_ble_eq_true rfl) dX7_as_5 ⟨Nat.le_of_ble_eq_true rfl, Nat.le_of_ble_eq_true rfl⟩) ?_
    clear hz1
    refine lv_if_ne (tgt := 14) hx hb dX7_as_8 (by decide) (fun c2 => ?_) (fun c2 => ?_)
    · have h := jf c2 h
      refine lv_iload_n hx hb dX7_as_14 rfl (lv_at hl 2 rfl) ?_
      refine lv_iconst (v := (4 : Int32)) hx hb dX7_as_15 (by decide) ?_
      obtain ⟨z3, hz3, h⟩ := jb h
      refine jki (jrS (As := [.int a2, .int (4 : Int32)]) (rest := []) ⟨hx, hb, hml, hown, hts⟩ (c_X7_within l D cyI cyZ cyT   a2 (4 : Int32) z3 hz3) (va_cwS 2 hts gX7_as_X7_within rfl rfl rfl (by decide +kernel) ⟨Nat.le_of_ble_eq_true rfl, Nat.le_of_ble_eq_true rfl⟩) hK jP0 rfl rfl hl.1 (Nat.le_of_ble_eq_true rfl) dX7_as_16 ⟨Nat.le_of_ble_eq_true rfl, Nat.le_of_ble_eq_true rfl⟩) ?_
      clear hz3
      refine lv_if_ne (tgt := 25) hx hb dX7_as_19 (by decide) (fun c4 => ?_) (fun c4 => ?_)
      · have h := jf c4 h
        refine lv_aload_n hx hb dX7_as_25 rfl (lv_at hl 0 rfl) ?_
        refine va_get (D := D) (ci := 7) (v := .ref (qa 4)) (C := RX7) (T := TX7) (N := 10) hx hb hts in_X7_as_X7 hown hK.1 hP 0 rfl rfl 1 (by decide) (hts _ kw_X7_as_1) (fun _ h9 => h9) rfl dX7_as_26 ?_
        refine va_get (D := D) (ci := 0) (v := .ref (qa 5)) (C := RX0) (T := TX0) (N := 12) hx hb hts in_X7_as_X0 hown hK.1 hP 4 rfl rfl 0 (by decide) (hts _ kw_X7_as_2) (fun _ h9 => h9) rfl dX7_as_29 ?_
        refine lv_iload_n hx hb dX7_as_32 rfl (lv_at hl 1 rfl) ?_
        obtain ⟨g5, h⟩ := jn h
        refine jald hx hb hK hP 5 rfl _ rfl g5 dX7_as_33 ?_
        refine lv_iload_n hx hb dX7_as_34 rfl (lv_at hl 2 rfl) ?_
        obtain ⟨z6, hz6, h⟩ := jb h
        refine jki (jrS (As := [.int (((X.1 1).1 0) a1.toNatClampNeg), .int a2]) (rest := []) ⟨hx, hb, hml, hown, hts⟩ (c_X7_canBeTakenAs l D cyI cyZ cyT   (((X.1 1).1 0) a1.toNatClampNeg) a2 z6 hz6) (va_cwS 2 hts gX7_as_X7_canBeTakenAs rfl rfl rfl (by decide +kernel) ⟨Nat.le_of_ble_eq_true rfl, Nat.le_of_ble_eq_true rfl⟩) hK jP0 rfl rfl hl.1 (Nat.le_of_ble_eq_true rfl) dX7_as_35 ⟨Nat.le_of_ble_eq_true rfl, Nat.le_of_ble_eq_true rfl⟩) ?_
        clear hz6
        refine lv_if_ne (tgt := 44) hx hb dX7_as_38 (by decide) (fun c7 => ?_) (fun c7 => ?_)
        · have h := jf c7 h
          refine lv_bipush (v := (6 : Int32)) hx hb dX7_as_44 (by decide) ?_
          refine lv_aload_n hx hb dX7_as_46 rfl (lv_at hl 0 rfl) ?_
          refine va_get (D := D) (ci := 7) (v := .ref (qa 4)) (C := RX7) (T := TX7) (N := 10) hx hb hts in_X7_as_X7 hown hK.1 hP 0 rfl rfl 1 (by decide) (hts _ kw_X7_as_1) (fun _ h9 => h9) rfl dX7_as_47 ?_
          refine va_get (D := D) (ci := 0) (v := .ref (qa 5)) (C := RX0) (T := TX0) (N := 12) hx hb hts in_X7_as_X0 hown hK.1 hP 4 rfl rfl 0 (by decide) (hts _ kw_X7_as_2) (fun _ h9 => h9) rfl dX7_as_50 ?_
          refine lv_iload_n hx hb dX7_as_53 rfl (lv_at hl 1 rfl) ?_
          obtain ⟨g8, h⟩ := jn h
          refine jald hx hb hK hP 5 rfl _ rfl g8 dX7_as_54 ?_
          refine lv_aload_n hx hb dX7_as_55 rfl (lv_at hl 0 rfl) ?_
          refine va_get (D := D) (ci := 7) (v := .ref (qa 4)) (C := RX7) (T := TX7) (N := 10) hx hb hts in_X7_as_X7 hown hK.1 hP 0 rfl rfl 1 (by decide) (hts _ kw_X7_as_1) (fun _ h9 => h9) rfl dX7_as_56 ?_
          refine va_get (D := D) (ci := 0) (v := .ref (qa 6)) (C := RX0) (T := TX0) (N := 12) hx hb hts in_X7_as_X0 hown hK.1 hP 4 rfl rfl 1 (by decide) (hts _ kw_X7_as_3) (fun _ h9 => h9) rfl dX7_as_59 ?_
          refine lv_iload_n hx hb dX7_as_62 rfl (lv_at hl 1 rfl) ?_
          obtain ⟨g9, h⟩ := jn h
          refine jald hx hb hK hP 6 rfl _ rfl g9 dX7_as_63 ?_
          obtain ⟨z10, hz10, h⟩ := jb h
          refine jki (jrS (As := [.int (6 : Int32), .int (((X.1 1).1 0) a1.toNatClampNeg), .int (((X.1 1).1 1) a1.toNatClampNeg)]) (rest := []) ⟨hx, hb, hml, hown, hts⟩ (c_X7_dangerOf l D cyI cyZ cyT   (6 : Int32) (((X.1 1).1 0) a1.toNatClampNeg) (((X.1 1).1 1) a1.toNatClampNeg) z10 hz10) (va_cwS 3 hts gX7_as_X7_dangerOf rfl rfl rfl (by decide +kernel) ⟨Nat.le_of_ble_eq_true rfl, Nat.le_of_ble_eq_true rfl⟩) hK jP0 rfl rfl hl.1 (Nat.le_of_ble_eq_true rfl) dX7_as_64 ⟨Nat.le_of_ble_eq_true rfl, Nat.le_of_ble_eq_true rfl⟩) ?_
          clear hz10
          exact W.iret hx hb hr (fun t ht _ => ⟨_, rfl, Option.some.inj h, ht.trans hH⟩) (fun q h => by cases h) dX7_as_67 hlocks
        · have h := jt c7 h
          refine lv_bipush (v := (-4 : Int32)) hx hb dX7_as_41 (by decide) ?_
          exact W.iret hx hb hr (fun t ht _ => ⟨_, rfl, Option.some.inj h, ht.trans hH⟩) (fun q h => by cases h) dX7_as_43 hlocks
      · have h := jt c4 h
        refine lv_bipush (v := (-3 : Int32)) hx hb dX7_as_22 (by decide) ?_
        exact W.iret hx hb hr (fun t ht _ => ⟨_, rfl, Option.some.inj h, ht.trans hH⟩) (fun q h => by cases h) dX7_as_24 hlocks
    · have h := jt c2 h
      refine lv_bipush (v := (-2 : Int32)) hx hb dX7_as_11 (by decide) ?_
      exact W.iret hx hb hr (fun t ht _ => ⟨_, rfl, Option.some.inj h, ht.trans hH⟩) (fun q h => by cases h) dX7_as_13 hlocks
  exact key s.heap hP rfl
theorem kw_X7_back_1 : (.fieldLink RX7 44 "BellTheCat" "isKept" "[Z" : Cond) ∈ wsX7_back := List.mem_of_getElem? (i := 1) rfl
theorem kw_X7_back_2 : (.fieldLink RX7 40 "BellTheCat" "kept" "[LBellTheCat$Team;" : Cond) ∈ wsX7_back := List.mem_of_getElem? (i := 2) rfl
theorem kw_X7_back_3 : (.fieldLink RX7 29 "BellTheCat" "now" "LBellTheCat$Team;" : Cond) ∈ wsX7_back := List.mem_of_getElem? (i := 3) rfl
theorem kw_X7_back_4 : (.fieldLink RX7 36 "BellTheCat" "latest" "LBellTheCat$Undo;" : Cond) ∈ wsX7_back := List.mem_of_getElem? (i := 4) rfl
theorem kw_X7_back_5 : (.fieldLink RX7 96 "BellTheCat$Undo" "depth" "I" : Cond) ∈ wsX7_back := List.mem_of_getElem? (i := 5) rfl
theorem kw_X7_back_6 : (.fieldLink RX7 184 "BellTheCat$Team" "nights" "I" : Cond) ∈ wsX7_back := List.mem_of_getElem? (i := 6) rfl
theorem in_X7_back_X4 : ∀ w ∈ wsX40, w ∈ wsX7_back := fun w h => List.mem_cons_of_mem _ (List.mem_append_right _ h)
theorem in_X7_back_X6 : ∀ w ∈ wsX60, w ∈ wsX7_back := fun w h => List.mem_cons_of_mem _ (List.mem_append_left _ (List.mem_append_right _ h))
theorem in_X7_back_X7 : ∀ w ∈ wsX70, w ∈ wsX7_back := fun w h => List.mem_cons_of_mem _ (List.mem_append_left _ (List.mem_append_left _ (List.mem_append_right _ h)))
abbrev rm_X7_back : Room := { frames := 1, cells := 0, slots := 0, locals := 22 }
set_option maxHeartbeats 4000000 in
set_option maxRecDepth 100000 in
theorem c_X7_back (l : Launch) (D : va_G) (cyI cyZ cyT : ClassId) (qa : Nat → Nat) (sz : Nat) (N : Nat) (a1 : Int32) (X : BX) (o : (Int32 × BX)) (hf : f_X7_back N a1 X = some o) : Met l yX7_back wsX7_back rm_X7_back (va_Pc [.ref (qa 0), .int a1] (jM D cyI cyZ cyT (wX cyI cyZ cyT qa X) sz)) (jQi D (va_A (wX cyI cyZ cyT qa X) sz) (fun u : BX => wX cyI cyZ cyT qa u) o) 0 0 (va_A (wX cyI cyZ cyT qa X) sz) := by
  refine Met.ofW (cc := cX7_back) (maxL := 2) (ret := (some .int)) (by decide) rfl ?_
  intro p e s m args below meth c s₁ B hml hv
  obtain ⟨rfl, hsz, hP, hK, hD0⟩ := hv
  have hx := B.exec
  have hb := B.bytes
  have hr := B.returns
  have hts := atoms_spec (ws := wsX7_back) B.pre
  have hown : s.vm.findClass RX7 = some m.cls := findClass_of_methodNamed B.named
  have hlocks := B.notSynchronized
  subst hsz
  have hD := hD0.self (sz := s.heap.size)
  generalize hAe : va_A (wX cyI cyZ cyT qa X) s.heap.size = A at hD ⊢
  have hA : ∀ q : Nat, s.heap.size ≤ q → A q := fun q h => by rw [← hAe]; exact Or.inr h
  have hS : va_S A s.heap s.heap [] := va_S.rf
  have hl := lv_entry ([.ref (qa 0), .int a1]) (n := 2) (Nat.le_of_ble_eq_true rfl)
  rw [lg_entry_eq]
  generalize (lg_sl ([.ref (qa 0), .int a1]) ++ List.replicate (2 - (lg_sl ([.ref (qa 0), .int a1])).length) Slot.unset).toArray = ls at hl ⊢
  have hl : lv_has ls 2 [(0, .ref (qa 0)), (1, .int a1)] := hl
  clear B
  generalize ([.ref (qa 0), .int a1] : List Value).toArray = args at hts ⊢
  have key : ∀ (H : Heap) (locs : List Loc), va_P D vwCl (wX cyI cyZ cyT qa X) H → va_D A (wX cyI cyZ cyT qa X) → va_S A s.heap H locs → W p l e rm_X7_back s m args below meth c H locs 0 0 (MQ below (jQi D A (fun u : BX => wX cyI cyZ cyT qa u) o) args s 0 0 A) (F0 m 0 ls []) := by
    intro H locs hP hD hS
    have h := hf
    unfold f_X7_back at h
    refine lv_iload_n hx hb dX7_back_0 rfl (lv_at hl 1 rfl) ?_
    refine lv_iconst (v := (1 : Int32)) hx hb dX7_back_1 (by decide) ?_
    obtain ⟨z1, hz1, h⟩ := jb h
    refine jki (jrS (As := [.int a1, .int (1 : Int32)]) (rest := []) ⟨hx, hb, hml, hown, hts⟩ (c_X7_within l D cyI cyZ cyT   a1 (1 : Int32) z1 hz1) (va_cwS 2 hts gX7_back_X7_within rfl rfl rfl (by decide +kernel) ⟨Nat.le_of_ble_eq_true rfl, Nat.le_of_ble_eq_true rfl⟩) hK jP0 rfl rfl hl.1 (Nat.le_of_ble_eq_true rfl) dX7_back_2 ⟨Nat.le_of_ble_eq_true rfl, Nat.le_of_ble_eq_true rfl⟩) ?_
    clear hz1
    refine lv_if_ne (tgt := 11) hx hb dX7_back_5 (by decide) (fun c2 => ?_) (fun c2 => ?_)
    · have h := jf c2 h
      refine lv_aload_n hx hb dX7_back_11 rfl (lv_at hl 0 rfl) ?_
      refine va_get (D := D) (ci := 7) (v := .ref (qa 43)) (C := RX7) (T := TX7) (N := 10) hx hb hts in_X7_back_X7 hown hK.1 hP 0 rfl rfl 6 (by decide) (hts _ kw_X7_back_1) (fun _ h9 => h9) rfl dX7_back_12 ?_
      refine lv_iload_n hx hb dX7_back_15 rfl (lv_at hl 1 rfl) ?_
      obtain ⟨g3, h⟩ := jn h
      refine jzld hx hb hK hP 43 rfl _ rfl g3 dX7_back_16 ?_
      refine lv_if_ne (tgt := 23) hx hb dX7_back_17 (by decide) (fun c4 => ?_) (fun c4 => ?_)
      · have h := jf c4 h
        refine lv_aload_n hx hb dX7_back_23 rfl (lv_at hl 0 rfl) ?_
        refine va_get (D := D) (ci := 7) (v := .ref (qa 42)) (C := RX7) (T := TX7) (N := 10) hx hb hts in_X7_back_X7 hown hK.1 hP 0 rfl rfl 5 (by decide) (hts _ kw_X7_back_2) (fun _ h9 => h9) rfl dX7_back_24 ?_
        refine lv_iload_n hx hb dX7_back_27 rfl (lv_at hl 1 rfl) ?_
        obtain ⟨g5, h⟩ := jn h
        refine va_aldq hx hb hK.1 hP 42 2 rfl rfl g5 dX7_back_28 ?_
        by_cases c7 : a1.toNatClampNeg = 0
        · have h := jt c7 h
          rw [c7]
          refine lv_aload_n hx hb dX7_back_29 rfl (lv_at hl 0 rfl) ?_
          refine va_get (D := D) (ci := 7) (v := .ref (qa 22)) (C := RX7) (T := TX7) (N := 10) hx hb hts in_X7_back_X7 hown hK.1 hP 0 rfl rfl 3 (by decide) (hts _ kw_X7_back_3) (fun _ h9 => h9) rfl dX7_back_30 ?_
          obtain ⟨z6, hz6, h⟩ := jb h
          refine jgv (w1 := fun u : Mo => wT cyI (fun k => qa (44 + k)) (X.2.2.1 0) ++ wT cyI (fun k => qa (22 + k)) u) (wn := wX cyI cyZ cyT qa (va_up X.1 3 z6, X.2.1, X.2.2.1, X.2.2.2)) (jmS (As := [.ref (qa 44), .ref (qa 22)]) (rest := []) ⟨hx, hb, hml, hown, hts⟩ (c_X7_copyTeam l D cyI cyZ cyT (fun k => qa (44 + k)) (fun k => qa (22 + k)) H.size N (X.2.2.1 0) (X.1 3) z6 hz6) (va_cwS 2 hts gX7_back_X7_copyTeam rfl rfl rfl (by decide +kernel) ⟨Nat.le_of_ble_eq_true rfl, Nat.le_of_ble_eq_true rfl⟩) hK (hP.sub (ws' := wT cyI (fun k => qa (44 + k)) (X.2.2.1 0) ++ wT cyI (fun k => qa (22 + k)) (X.1 3)) [44, 45, 22, 23] rfl) (hD.sub (ws' := wT cyI (fun k => qa (44 + k)) (X.2.2.1 0) ++ wT cyI (fun k => qa (22 + k)) (X.1 3)) [44, 45, 22, 23] (by decide) rfl) rfl rfl hl.1 (Nat.le_of_ble_eq_true rfl) dX7_back_33 ⟨Nat.le_of_ble_eq_true rfl, Nat.le_of_ble_eq_true rfl⟩) hP hD hS hA [44, 45, 22, 23] [0, 1, 2, 3, 4, 5, 6, 7, 8, 9, 10, 11, 12, 13, 14, 15, 16, 17, 18, 19, 20, 21, 24, 25, 26, 27, 28, 29, 30, 31, 32, 33, 34, 35, 36, 37, 38, 39, 40, 41, 42, 43, 46, 47, 48, 49, 50, 51, 52, 53, 54] [0, 1, 2, 3, 4, 5, 6, 7, 8, 9, 10, 11, 12, 13, 14, 15, 16, 17, 18, 19, 20, 21, 53, 54, 22, 23, 24, 25, 26, 27, 28, 29, 30, 31, 32, 33, 34, 35, 36, 37, 38, 39, 40, 41, 51, 52, 42, 43, 44, 45, 46, 47, 48, 49, 50] rfl rfl (by decide) (by decide) rfl (by decide) (fun H locs hP hD hS => ?_)
          clear hz6
          refine lv_aload_n hx hb dX7_back_36 rfl (lv_at hl 0 rfl) ?_
          refine va_get (D := D) (ci := 7) (v := .ref (qa 24)) (C := RX7) (T := TX7) (N := 10) hx hb hts in_X7_back_X7 hown hK.1 hP 0 rfl rfl 4 (by decide) (hts _ kw_X7_back_4) (fun _ h9 => h9) rfl dX7_back_37 ?_
          refine lv_iconst (v := (0 : Int32)) hx hb dX7_back_40 (by decide) ?_
          refine va_put (D := D) (ci := 6) (v := .int (0 : Int32)) (ty := .int) (C := RX6) (T := TX6) (N := 3) hx hb hts in_X7_back_X6 tyX6 tyX6_ok nmX6 hown hK.1 hP hD hS 24 rfl rfl 2 (by decide) (hts _ kw_X7_back_5) (fun _ h9 => h9) rfl (tyX6_ok 2 (by decide)) rfl rfl (Nat.le_of_ble_eq_true rfl) dX7_back_41 (fun H locs hP hD hS => ?_)
          have hP : va_P D vwCl (wX cyI cyZ cyT qa (va_up (va_up X.1 3 z6) 4 ((X.1 4).1, va_up ((X.1 4).2) 1 (0 : Int32)), X.2.1, X.2.2.1, X.2.2.2)) H := hP
          have hD : va_D A (wX cyI cyZ cyT qa (va_up (va_up X.1 3 z6) 4 ((X.1 4).1, va_up ((X.1 4).2) 1 (0 : Int32)), X.2.1, X.2.2.1, X.2.2.2)) := hD
          refine lv_aload_n hx hb dX7_back_44 rfl (lv_at hl 0 rfl) ?_
          refine va_get (D := D) (ci := 7) (v := .ref (qa 22)) (C := RX7) (T := TX7) (N := 10) hx hb hts in_X7_back_X7 hown hK.1 hP 0 rfl rfl 3 (by decide) (hts _ kw_X7_back_3) (fun _ h9 => h9) rfl dX7_back_45 ?_
          refine va_get (D := D) (ci := 4) (v := .int (z6.2 0)) (C := RX4) (T := TX4) (N := 4) hx hb hts in_X7_back_X4 hown hK.1 hP 22 rfl rfl 1 (by decide) (hts _ kw_X7_back_6) (fun _ h9 => h9) rfl dX7_back_48 ?_
          exact W.iret hx hb hr (fun t ht _ => ⟨⟨_, _, rfl, Option.some.inj h, by rw [ht]; exact hP, hD⟩, hS.F ht⟩) hS.2.2 dX7_back_51 hlocks
        have h := jf c7 h
        by_cases c9 : a1.toNatClampNeg = 1
        · have h := jt c9 h
          rw [c9]
          refine lv_aload_n hx hb dX7_back_29 rfl (lv_at hl 0 rfl) ?_
          refine va_get (D := D) (ci := 7) (v := .ref (qa 22)) (C := RX7) (T := TX7) (N := 10) hx hb hts in_X7_back_X7 hown hK.1 hP 0 rfl rfl 3 (by decide) (hts _ kw_X7_back_3) (fun _ h9 => h9) rfl dX7_back_30 ?_
          obtain ⟨z8, hz8, h⟩ := jb h
          refine jgv (w1 := fun u : Mo => wT cyI (fun k => qa (46 + k)) (X.2.2.1 1) ++ wT cyI (fun k => qa (22 + k)) u) (wn := wX cyI cyZ cyT qa (va_up X.1 3 z8, X.2.1, X.2.2.1, X.2.2.2)) (jmS (As := [.ref (qa 46), .ref (qa 22)]) (rest := []) ⟨hx, hb, hml, hown, hts⟩ (c_X7_copyTeam l D cyI cyZ cyT (fun k => qa (46 + k)) (fun k => qa (22 + k)) H.size N (X.2.2.1 1) (X.1 3) z8 hz8) (va_cwS 2 hts gX7_back_X7_copyTeam rfl rfl rfl (by decide +kernel) ⟨Nat.le_of_ble_eq_true rfl, Nat.le_of_ble_eq_true rfl⟩) hK (hP.sub (ws' := wT cyI (fun k => qa (46 + k)) (X.2.2.1 1) ++ wT cyI (fun k => qa (22 + k)) (X.1 3)) [46, 47, 22, 23] rfl) (hD.sub (ws' := wT cyI (fun k => qa (46 + k)) (X.2.2.1 1) ++ wT cyI (fun k => qa (22 + k)) (X.1 3)) [46, 47, 22, 23] (by decide) rfl) rfl rfl hl.1 (Nat.le_of_ble_eq_true rfl) dX7_back_33 ⟨Nat.le_of_ble_eq_true rfl, Nat.le_of_ble_eq_true rfl⟩) hP hD hS hA [46, 47, 22, 23] [0, 1, 2, 3, 4, 5, 6, 7, 8, 9, 10, 11, 12, 13, 14, 15, 16, 17, 18, 19, 20, 21, 24, 25, 26, 27, 28, 29, 30, 31, 32, 33, 34, 35, 36, 37, 38, 39, 40, 41, 42, 43, 44, 45, 48, 49, 50, 51, 52, 53, 54] [0, 1, 2, 3, 4, 5, 6, 7, 8, 9, 10, 11, 12, 13, 14, 15, 16, 17, 18, 19, 20, 21, 53, 54, 22, 23, 24, 25, 26, 27, 28, 29, 30, 31, 32, 33, 34, 35, 36, 37, 38, 39, 40, 41, 42, 43, 51, 52, 44, 45, 46, 47, 48, 49, 50] rfl rfl (by decide) (by decide) rfl (by decide) (fun H locs hP hD hS => ?_)
          clear hz8
          refine lv_aload_n hx hb dX7_back_36 rfl (lv_at hl 0 rfl) ?_
          refine va_get (D := D) (ci := 7) (v := .ref (qa 24)) (C := RX7) (T := TX7) (N := 10) hx hb hts in_X7_back_X7 hown hK.1 hP 0 rfl rfl 4 (by decide) (hts _ kw_X7_back_4) (fun _ h9 => h9) rfl dX7_back_37 ?_
          refine lv_iconst (v := (0 : Int32)) hx hb dX7_back_40 (by decide) ?_
          refine va_put (D := D) (ci := 6) (v := .int (0 : Int32)) (ty := .int) (C := RX6) (T := TX6) (N := 3) hx hb hts in_X7_back_X6 tyX6 tyX6_ok nmX6 hown hK.1 hP hD hS 24 rfl rfl 2 (by decide) (hts _ kw_X7_back_5) (fun _ h9 => h9) rfl (tyX6_ok 2 (by decide)) rfl rfl (Nat.le_of_ble_eq_true rfl) dX7_back_41 (fun H locs hP hD hS => ?_)
          have hP : va_P D vwCl (wX cyI cyZ cyT qa (va_up (va_up X.1 3 z8) 4 ((X.1 4).1, va_up ((X.1 4).2) 1 (0 : Int32)), X.2.1, X.2.2.1, X.2.2.2)) H := hP
          have hD : va_D A (wX cyI cyZ cyT qa (va_up (va_up X.1 3 z8) 4 ((X.1 4).1, va_up ((X.1 4).2) 1 (0 : Int32)), X.2.1, X.2.2.1, X.2.2.2)) := hD
          refine lv_aload_n hx hb dX7_back_44 rfl (lv_at hl 0 rfl) ?_
          refine va_get (D := D) (ci := 7) (v := .ref (qa 22)) (C := RX7) (T := TX7) (N := 10) hx hb hts in_X7_back_X7 hown hK.1 hP 0 rfl rfl 3 (by decide) (hts _ kw_X7_back_3) (fun _ h9 => h9) rfl dX7_back_45 ?_
          refine va_get (D := D) (ci := 4) (v := .int (z8.2 0)) (C := RX4) (T := TX4) (N := 4) hx hb hts in_X7_back_X4 hown hK.1 hP 22 rfl rfl 1 (by decide) (hts _ kw_X7_back_6) (fun _ h9 => h9) rfl dX7_back_48 ?_
          exact W.iret hx hb hr (fun t ht _ => ⟨⟨_, _, rfl, Option.some.inj h, by rw [ht]; exact hP, hD⟩, hS.F ht⟩) hS.2.2 dX7_back_51 hlocks
        have h := jf c9 h
        cases h
      · have h := jt c4 h
        refine lv_bipush (v := (-4 : Int32)) hx hb dX7_back_20 (by decide) ?_
        exact W.iret hx hb hr (fun t ht _ => ⟨⟨_, _, rfl, Option.some.inj h, by rw [ht]; exact hP, hD⟩, hS.F ht⟩) hS.2.2 dX7_back_22 hlocks
    · have h := jt c2 h
      refine lv_bipush (v := (-2 : Int32)) hx hb dX7_back_8 (by decide) ?_
      exact W.iret hx hb hr (fun t ht _ => ⟨⟨_, _, rfl, Option.some.inj h, by rw [ht]; exact hP, hD⟩, hS.F ht⟩) hS.2.2 dX7_back_10 hlocks
  exact key s.heap [] hP hD hS
theorem kw_X7_best_1 : (.fieldLink RX7 58 "BellTheCat" "search" "LBellTheCat$Search;" : Cond) ∈ wsX7_best := List.mem_of_getElem? (i := 1) rfl
theorem kw_X7_best_2 : (.fieldLink RX7 19 "BellTheCat" "told" "LBellTheCat$House;" : Cond) ∈ wsX7_best := List.mem_of_getElem? (i := 2) rfl
theorem kw_X7_best_3 : (.fieldLink RX7 29 "BellTheCat" "now" "LBellTheCat$Team;" : Cond) ∈ wsX7_best := List.mem_of_getElem? (i := 3) rfl
theorem kw_X7_best_4 : (.fieldLink RX7 223 "BellTheCat$Team" "living" "I" : Cond) ∈ wsX7_best := List.mem_of_getElem? (i := 4) rfl
theorem kw_X7_best_5 : (.fieldLink RX7 230 "BellTheCat$Search" "bestAbove" "J" : Cond) ∈ wsX7_best := List.mem_of_getElem? (i := 5) rfl
theorem kw_X7_best_6 : (.fieldLink RX7 178 "BellTheCat$House" "stepCount" "I" : Cond) ∈ wsX7_best := List.mem_of_getElem? (i := 6) rfl
theorem in_X7_best_X0 : ∀ w ∈ wsX00, w ∈ wsX7_best := fun w h => List.mem_cons_of_mem _ (List.mem_append_right _ h)
theorem in_X7_best_X2 : ∀ w ∈ wsX20, w ∈ wsX7_best := fun w h => List.mem_cons_of_mem _ (List.mem_append_left _ (List.mem_append_right _ h))
theorem in_X7_best_X4 : ∀ w ∈ wsX40, w ∈ wsX7_best := fun w h => List.mem_cons_of_mem _ (List.mem_append_left _ (List.mem_append_left _ (List.mem_append_right _ h)))
theorem in_X7_best_X7 : ∀ w ∈ wsX70, w ∈ wsX7_best := fun w h => List.mem_cons_of_mem _ (List.mem_append_left _ (List.mem_append_left _ (List.mem_append_left _ (List.mem_append_right _ h))))
abbrev rm_X7_best : Room := { frames := 21, cells := 0, slots := 0, locals := 929 }
set_option maxHeartbeats 4000000 in
set_option maxRecDepth 100000 in
theorem c_X7_best (l : Launch) (D : va_G) (cyI cyZ cyT : ClassId) (qa : Nat → Nat) (sz : Nat) (N : Nat) (a1 : Int32) (X : BX) (o : (Int32 × BX)) (hf : f_X7_best N a1 X = some o) : Met l yX7_best wsX7_best rm_X7_best (va_Pc [.ref (qa 0), .int a1] (jM D cyI cyZ cyT (wX cyI cyZ cyT qa X) sz)) (jQi D (va_A (wX cyI cyZ cyT qa X) sz) (fun u : BX => wX cyI cyZ cyT qa u) o) 0 0 (va_A (wX cyI cyZ cyT qa X) sz) := by
  refine Met.ofW (cc := cX7_best) (maxL := 2) (ret := (some .int)) (by decide) rfl ?_
  intro p e s m args below meth c s₁ B hml hv
  obtain ⟨rfl, hsz, hP, hK, hD0⟩ := hv
  have hx := B.exec
  have hb := B.bytes
  have hr := B.returns
  have hts := atoms_spec (ws := wsX7_best) B.pre
  have hown : s.vm.findClass RX7 = some m.cls := findClass_of_methodNamed B.named
  have hlocks := B.notSynchronized
  subst hsz
  have hD := hD0.self (sz := s.heap.size)
  generalize hAe : va_A (wX cyI cyZ cyT qa X) s.heap.size = A at hD ⊢
  have hA : ∀ q : Nat, s.heap.size ≤ q → A q := fun q h => by rw [← hAe]; exact Or.inr h
  have hS : va_S A s.heap s.heap [] := va_S.rf
  have hl := lv_entry ([.ref (qa 0), .int a1]) (n := 2) (Nat.le_of_ble_eq_true rfl)
  rw [lg_entry_eq]
  generalize (lg_sl ([.ref (qa 0), .int a1]) ++ List.replicate (2 - (lg_sl ([.ref (qa 0), .int a1])).length) Slot.unset).toArray = ls at hl ⊢
  have hl : lv_has ls 2 [(0, .ref (qa 0)), (1, .int a1)] := hl
  clear B
  generalize ([.ref (qa 0), .int a1] : List Value).toArray = args at hts ⊢
  have key : ∀ (H : Heap) (locs : List Loc), va_P D vwCl (wX cyI cyZ cyT qa X) H → va_D A (wX cyI cyZ cyT qa X) → va_S A s.heap H locs → W p l e rm_X7_best s m args below meth c H locs 0 0 (MQ below (jQi D A (fun u : BX => wX cyI cyZ cyT qa u) o) args s 0 0 A) (F0 m 0 ls []) := by
    intro H locs hP hD hS
    have h := hf
    unfold f_X7_best at h
    refine lv_iload_n hx hb dX7_best_0 rfl (lv_at hl 1 rfl) ?_
    obtain ⟨z1, hz1, h⟩ := jb h
    refine jki (jrS (As := [.int a1]) (rest := []) ⟨hx, hb, hml, hown, hts⟩ (c_X7_isPart l D cyI cyZ cyT   a1 z1 hz1) (va_cwS 1 hts gX7_best_X7_isPart rfl rfl rfl (by decide +kernel) ⟨Nat.le_of_ble_eq_true rfl, Nat.le_of_ble_eq_true rfl⟩) hK jP0 rfl rfl hl.1 (Nat.le_of_ble_eq_true rfl) dX7_best_1 ⟨Nat.le_of_ble_eq_true rfl, Nat.le_of_ble_eq_true rfl⟩) ?_
    clear hz1
    refine lv_if_ne (tgt := 10) hx hb dX7_best_4 (by decide) (fun c2 => ?_) (fun c2 => ?_)
    · have h := jf c2 h
      refine lv_aload_n hx hb dX7_best_10 rfl (lv_at hl 0 rfl) ?_
      refine va_get (D := D) (ci := 7) (v := .ref (qa 51)) (C := RX7) (T := TX7) (N := 10) hx hb hts in_X7_best_X7 hown hK.1 hP 0 rfl rfl 8 (by decide) (hts _ kw_X7_best_1) (fun _ h9 => h9) rfl dX7_best_11 ?_
      refine lv_aload_n hx hb dX7_best_14 rfl (lv_at hl 0 rfl) ?_
      refine va_get (D := D) (ci := 7) (v := .ref (qa 4)) (C := RX7) (T := TX7) (N := 10) hx hb hts in_X7_best_X7 hown hK.1 hP 0 rfl rfl 1 (by decide) (hts _ kw_X7_best_2) (fun _ h9 => h9) rfl dX7_best_15 ?_
      refine lv_aload_n hx hb dX7_best_18 rfl (lv_at hl 0 rfl) ?_
      refine va_get (D := D) (ci := 7) (v := .ref (qa 22)) (C := RX7) (T := TX7) (N := 10) hx hb hts in_X7_best_X7 hown hK.1 hP 0 rfl rfl 3 (by decide) (hts _ kw_X7_best_3) (fun _ h9 => h9) rfl dX7_best_19 ?_
      refine va_get (D := D) (ci := 4) (v := .int ((X.1 3).2 1)) (C := RX4) (T := TX4) (N := 4) hx hb hts in_X7_best_X4 hown hK.1 hP 22 rfl rfl 2 (by decide) (hts _ kw_X7_best_4) (fun _ h9 => h9) rfl dX7_best_22 ?_
      obtain ⟨z3, hz3, h⟩ := jb h
      refine jgv (w1 := fun u : (Mo × Int64) => wS cyI (fun k => qa (51 + k)) u.1 u.2 ++ wH cyI (fun k => qa (4 + k)) (X.1 1)) (wn := wX cyI cyZ cyT qa (va_up X.1 7 z3.1, X.2.1, X.2.2.1, z3.2)) (jmV (As := [.ref (qa 4), .int ((X.1 3).2 1)]) (rest := []) ⟨hx, hb, hml, hown, hts⟩ (c_X2_run l D cyI cyZ cyT (fun k => qa (51 + k)) (fun k => qa (4 + k)) H.size N ((X.1 3).2 1) (X.1 7) X.2.2.2 (X.1 1) z3 hz3) (cwV 2 hts gX7_best_X2_run rfl rfl rfl (by decide +kernel) ⟨Nat.le_of_ble_eq_true rfl, Nat.le_of_ble_eq_true rfl⟩) hK (hP.sub (ws' := wS cyI (fun k => qa (51 + k)) (X.1 7) X.2.2.2 ++ wH cyI (fun k => qa (4 + k)) (X.1 1)) [51, 52, 53, 4, 5, 6, 7, 8, 9, 10, 11, 12] rfl) (hD.sub (ws' := wS cyI (fun k => qa (51 + k)) (X.1 7) X.2.2.2 ++ wH cyI (fun k => qa (4 + k)) (X.1 1)) [51, 52, 53, 4, 5, 6, 7, 8, 9, 10, 11, 12] (by decide) rfl) rfl 2 0 rfl rfl rfl hl.1 (Nat.le_of_ble_eq_true rfl) dX7_best_25 ⟨Nat.le_of_ble_eq_true rfl, Nat.le_of_ble_eq_true rfl⟩) hP hD hS hA [51, 52, 53, 4, 5, 6, 7, 8, 9, 10, 11, 12] [0, 1, 2, 3, 13, 14, 15, 16, 17, 18, 19, 20, 21, 22, 23, 24, 25, 26, 27, 28, 29, 30, 31, 32, 33, 34, 35, 36, 37, 38, 39, 40, 41, 42, 43, 44, 45, 46, 47, 48, 49, 50, 54] [0, 1, 2, 3, 46, 47, 48, 49, 50, 51, 52, 53, 54, 4, 5, 6, 7, 8, 9, 10, 11, 12, 13, 14, 15, 16, 17, 18, 19, 20, 21, 22, 23, 24, 25, 26, 27, 28, 29, 30, 31, 32, 33, 34, 35, 36, 37, 38, 39, 40, 41, 43, 44, 45, 42] rfl rfl (by decide) (by decide) rfl (by decide) (fun H locs hP hD hS => ?_)
      clear hz3
      refine lv_aload_n hx hb dX7_best_28 rfl (lv_at hl 0 rfl) ?_
      refine va_get (D := D) (ci := 7) (v := .ref (qa 51)) (C := RX7) (T := TX7) (N := 10) hx hb hts in_X7_best_X7 hown hK.1 hP 0 rfl rfl 8 (by decide) (hts _ kw_X7_best_1) (fun _ h9 => h9) rfl dX7_best_29 ?_
      refine va_get (D := D) (ci := 2) (v := .long z3.2) (C := RX2) (T := TX2) (N := 4) hx hb hts in_X7_best_X2 hown hK.1 hP 51 rfl rfl 2 (by decide) (hts _ kw_X7_best_5) (fun _ h9 => h9) rfl dX7_best_32 ?_
      refine lv_lconst (v := (0 : Int64)) hx hb dX7_best_35 (by decide) ?_
      refine W.lcmp hx hb dX7_best_36 ?_
      refine lv_if_ge (tgt := 43) hx hb dX7_best_37 (by decide) (fun c4 => ?_) (fun c4 => ?_)
      · have h := jt ((lg_cmp_ge _ _).mp c4) h
        refine lv_aload_n hx hb dX7_best_43 rfl (lv_at hl 0 rfl) ?_
        refine va_get (D := D) (ci := 7) (v := .ref (qa 51)) (C := RX7) (T := TX7) (N := 10) hx hb hts in_X7_best_X7 hown hK.1 hP 0 rfl rfl 8 (by decide) (hts _ kw_X7_best_1) (fun _ h9 => h9) rfl dX7_best_44 ?_
        refine va_get (D := D) (ci := 2) (v := .long z3.2) (C := RX2) (T := TX2) (N := 4) hx hb hts in_X7_best_X2 hown hK.1 hP 51 rfl rfl 2 (by decide) (hts _ kw_X7_best_5) (fun _ h9 => h9) rfl dX7_best_47 ?_
        refine lv_aload_n hx hb dX7_best_50 rfl (lv_at hl 0 rfl) ?_
        refine va_get (D := D) (ci := 7) (v := .ref (qa 4)) (C := RX7) (T := TX7) (N := 10) hx hb hts in_X7_best_X7 hown hK.1 hP 0 rfl rfl 1 (by decide) (hts _ kw_X7_best_2) (fun _ h9 => h9) rfl dX7_best_51 ?_
        refine va_get (D := D) (ci := 0) (v := .int ((X.1 1).2 1)) (C := RX0) (T := TX0) (N := 12) hx hb hts in_X7_best_X0 hown hK.1 hP 4 rfl rfl 9 (by decide) (hts _ kw_X7_best_6) (fun _ h9 => h9) rfl dX7_best_54 ?_
        obtain ⟨z5, hz5, h⟩ := jb h
        refine jkl (jrS (As := [.int ((X.1 1).2 1)]) (rest := [.long z3.2]) ⟨hx, hb, hml, hown, hts⟩ (c_X7_tenTo l D cyI cyZ cyT   N ((X.1 1).2 1) z5 hz5) (va_cwS 1 hts gX7_best_X7_tenTo rfl rfl rfl (by decide +kernel) ⟨Nat.le_of_ble_eq_true rfl, Nat.le_of_ble_eq_true rfl⟩) hK jP0 rfl rfl hl.1 (Nat.le_of_ble_eq_true rfl) dX7_best_57 ⟨Nat.le_of_ble_eq_true rfl, Nat.le_of_ble_eq_true rfl⟩) ?_
        clear hz5
        refine lv_iload_n hx hb dX7_best_60 rfl (lv_at hl 1 rfl) ?_
        obtain ⟨z6, hz6, h⟩ := jb h
        refine jkl (jrS (As := [.long z3.2, .long z5, .int a1]) (rest := []) ⟨hx, hb, hml, hown, hts⟩ (c_X7_partOf l D cyI cyZ cyT   N z3.2 z5 a1 z6 hz6) (va_cwS 3 hts gX7_best_X7_partOf rfl rfl rfl (by decide +kernel) ⟨Nat.le_of_ble_eq_true rfl, Nat.le_of_ble_eq_true rfl⟩) hK jP0 rfl rfl hl.1 (Nat.le_of_ble_eq_true rfl) dX7_best_61 ⟨Nat.le_of_ble_eq_true rfl, Nat.le_of_ble_eq_true rfl⟩) ?_
        clear hz6
        refine lv_l2i (v := z6.toInt32) hx hb dX7_best_64 rfl ?_
        exact W.iret hx hb hr (fun t ht _ => ⟨⟨_, _, rfl, Option.some.inj h, by rw [ht]; exact hP, hD⟩, hS.F ht⟩) hS.2.2 dX7_best_65 hlocks
      · have h := jf (fun e => c4 ((lg_cmp_ge _ _).mpr e)) h
        refine lv_bipush (v := (-4 : Int32)) hx hb dX7_best_40 (by decide) ?_
        exact W.iret hx hb hr (fun t ht _ => ⟨⟨_, _, rfl, Option.some.inj h, by rw [ht]; exact hP, hD⟩, hS.F ht⟩) hS.2.2 dX7_best_42 hlocks
    · have h := jt c2 h
      refine lv_bipush (v := (-3 : Int32)) hx hb dX7_best_7 (by decide) ?_
      exact W.iret hx hb hr (fun t ht _ => ⟨⟨_, _, rfl, Option.some.inj h, by rw [ht]; exact hP, hD⟩, hS.F ht⟩) hS.2.2 dX7_best_9 hlocks
  exact key s.heap [] hP hD hS
theorem kw_X7_bestOf_1 : (.fieldLink RX7 19 "BellTheCat" "told" "LBellTheCat$House;" : Cond) ∈ wsX7_bestOf := List.mem_of_getElem? (i := 1) rfl
theorem kw_X7_bestOf_2 : (.fieldLink RX7 58 "BellTheCat" "search" "LBellTheCat$Search;" : Cond) ∈ wsX7_bestOf := List.mem_of_getElem? (i := 2) rfl
theorem kw_X7_bestOf_3 : (.fieldLink RX7 29 "BellTheCat" "now" "LBellTheCat$Team;" : Cond) ∈ wsX7_bestOf := List.mem_of_getElem? (i := 3) rfl
theorem kw_X7_bestOf_4 : (.fieldLink RX7 223 "BellTheCat$Team" "living" "I" : Cond) ∈ wsX7_bestOf := List.mem_of_getElem? (i := 4) rfl
theorem kw_X7_bestOf_5 : (.fieldLink RX7 234 "BellTheCat$Search" "bestRow" "[I" : Cond) ∈ wsX7_bestOf := List.mem_of_getElem? (i := 5) rfl
theorem in_X7_bestOf_X2 : ∀ w ∈ wsX20, w ∈ wsX7_bestOf := fun w h => List.mem_cons_of_mem _ (List.mem_append_left _ (List.mem_append_right _ h))
theorem in_X7_bestOf_X4 : ∀ w ∈ wsX40, w ∈ wsX7_bestOf := fun w h => List.mem_cons_of_mem _ (List.mem_append_left _ (List.mem_append_left _ (List.mem_append_right _ h)))
theorem in_X7_bestOf_X7 : ∀ w ∈ wsX70, w ∈ wsX7_bestOf := fun w h => List.mem_cons_of_mem _ (List.mem_append_left _ (List.mem_append_left _ (List.mem_append_left _ (List.mem_append_right _ h))))
abbrev rm_X7_bestOf : Room := { frames := 21, cells := 0, slots := 0, locals := 929 }
set_option maxHeartbeats 4000000 in
set_option maxRecDepth 100000 in
theorem c_X7_bestOf (l : Launch) (D : va_G) (cyI cyZ cyT : ClassId) (qa : Nat → Nat) (sz : Nat) (N : Nat) (a1 : Int32) (X : BX) (o : (Int32 × BX)) (hf : f_X7_bestOf N a1 X = some o) : Met l yX7_bestOf wsX7_bestOf rm_X7_bestOf (va_Pc [.ref (qa 0), .int a1] (jM D cyI cyZ cyT (wX cyI cyZ cyT qa X) sz)) (jQi D (va_A (wX cyI cyZ cyT qa X) sz) (fun u : BX => wX cyI cyZ cyT qa u) o) 0 0 (va_A (wX cyI cyZ cyT qa X) sz) := by
  refine Met.ofW (cc := cX7_bestOf) (maxL := 2) (ret := (some .int)) (by decide) rfl ?_
  intro p e s m args below meth c s₁ B hml hv
  obtain ⟨rfl, hsz, hP, hK, hD0⟩ := hv
  have hx := B.exec
  have hb := B.bytes
  have hr := B.returns
  have hts := atoms_spec (ws := wsX7_bestOf) B.pre
  have hown : s.vm.findClass RX7 = some m.cls := findClass_of_methodNamed B.named
  have hlocks := B.notSynchronized
  subst hsz
  have hD := hD0.self (sz := s.heap.size)
  generalize hAe : va_A (wX cyI cyZ cyT qa X) s.heap.size = A at hD ⊢
  have hA : ∀ q : Nat, s.heap.size ≤ q → A q := fun q h => by rw [← hAe]; exact Or.inr h
  have hS : va_S A s.heap s.heap [] := va_S.rf
  have hl := lv_entry ([.ref (qa 0), .int a1]) (n := 2) (Nat.le_of_ble_eq_true rfl)
  rw [lg_entry_eq]
  generalize (lg_sl ([.ref (qa 0), .int a1]) ++ List.replicate (2 - (lg_sl ([.ref (qa 0), .int a1])).length) Slot.unset).toArray = ls at hl ⊢
  have hl : lv_has ls 2 [(0, .ref (qa 0)), (1, .int a1)] := hl
  clear B
  generalize ([.ref (qa 0), .int a1] : List Value).toArray = args at hts ⊢
  have key : ∀ (H : Heap) (locs : List Loc), va_P D vwCl (wX cyI cyZ cyT qa X) H → va_D A (wX cyI cyZ cyT qa X) → va_S A s.heap H locs → W p l e rm_X7_bestOf s m args below meth c H locs 0 0 (MQ below (jQi D A (fun u : BX => wX cyI cyZ cyT qa u) o) args s 0 0 A) (F0 m 0 ls []) := by
    intro H locs hP hD hS
    have h := hf
    unfold f_X7_bestOf at h
    refine lv_aload_n hx hb dX7_bestOf_0 rfl (lv_at hl 0 rfl) ?_
    refine va_get (D := D) (ci := 7) (v := .ref (qa 4)) (C := RX7) (T := TX7) (N := 10) hx hb hts in_X7_bestOf_X7 hown hK.1 hP 0 rfl rfl 1 (by decide) (hts _ kw_X7_bestOf_1) (fun _ h9 => h9) rfl dX7_bestOf_1 ?_
    refine lv_iload_n hx hb dX7_bestOf_4 rfl (lv_at hl 1 rfl) ?_
    obtain ⟨z1, hz1, h⟩ := jb h
    refine jki (jrV (As := [.int a1]) (rest := []) ⟨hx, hb, hml, hown, hts⟩ (c_X0_hasStep l D cyI cyZ cyT (fun k => qa (4 + k))  a1 (X.1 1) z1 hz1) (cwV 1 hts gX7_bestOf_X0_hasStep rfl rfl rfl (by decide +kernel) ⟨Nat.le_of_ble_eq_true rfl, Nat.le_of_ble_eq_true rfl⟩) hK (hP.sub (ws' := wH cyI (fun k => qa (4 + k)) (X.1 1)) [4, 5, 6, 7, 8, 9, 10, 11, 12] rfl) rfl 0 0 rfl rfl rfl hl.1 (Nat.le_of_ble_eq_true rfl) dX7_bestOf_5 ⟨Nat.le_of_ble_eq_true rfl, Nat.le_of_ble_eq_true rfl⟩) ?_
    clear hz1
    refine lv_if_ne (tgt := 14) hx hb dX7_bestOf_8 (by decide) (fun c2 => ?_) (fun c2 => ?_)
    · have h := jf c2 h
      refine lv_aload_n hx hb dX7_bestOf_14 rfl (lv_at hl 0 rfl) ?_
      refine va_get (D := D) (ci := 7) (v := .ref (qa 51)) (C := RX7) (T := TX7) (N := 10) hx hb hts in_X7_bestOf_X7 hown hK.1 hP 0 rfl rfl 8 (by decide) (hts _ kw_X7_bestOf_2) (fun _ h9 => h9) rfl dX7_bestOf_15 ?_
      refine lv_aload_n hx hb dX7_bestOf_18 rfl (lv_at hl 0 rfl) ?_
      refine va_get (D := D) (ci := 7) (v := .ref (qa 4)) (C := RX7) (T := TX7) (N := 10) hx hb hts in_X7_bestOf_X7 hown hK.1 hP 0 rfl rfl 1 (by decide) (hts _ kw_X7_bestOf_1) (fun _ h9 => h9) rfl dX7_bestOf_19 ?_
      refine lv_aload_n hx hb dX7_bestOf_22 rfl (lv_at hl 0 rfl) ?_
      refine va_get (D := D) (ci := 7) (v := .ref (qa 22)) (C := RX7) (T := TX7) (N := 10) hx hb hts in_X7_bestOf_X7 hown hK.1 hP 0 rfl rfl 3 (by decide) (hts _ kw_X7_bestOf_3) (fun _ h9 => h9) rfl dX7_bestOf_23 ?_
      refine va_get (D := D) (ci := 4) (v := .int ((X.1 3).2 1)) (C := RX4) (T := TX4) (N := 4) hx hb hts in_X7_bestOf_X4 hown hK.1 hP 22 rfl rfl 2 (by decide) (hts _ kw_X7_bestOf_4) (fun _ h9 => h9) rfl dX7_bestOf_26 ?_
      obtain ⟨z3, hz3, h⟩ := jb h
      refine jgv (w1 := fun u : (Mo × Int64) => wS cyI (fun k => qa (51 + k)) u.1 u.2 ++ wH cyI (fun k => qa (4 + k)) (X.1 1)) (wn := wX cyI cyZ cyT qa (va_up X.1 7 z3.1, X.2.1, X.2.2.1, z3.2)) (jmV (As := [.ref (qa 4), .int ((X.1 3).2 1)]) (rest := []) ⟨hx, hb, hml, hown, hts⟩ (c_X2_run l D cyI cyZ cyT (fun k => qa (51 + k)) (fun k => qa (4 + k)) H.size N ((X.1 3).2 1) (X.1 7) X.2.2.2 (X.1 1) z3 hz3) (cwV 2 hts gX7_bestOf_X2_run rfl rfl rfl (by decide +kernel) ⟨Nat.le_of_ble_eq_true rfl, Nat.le_of_ble_eq_true rfl⟩) hK (hP.sub (ws' := wS cyI (fun k => qa (51 + k)) (X.1 7) X.2.2.2 ++ wH cyI (fun k => qa (4 + k)) (X.1 1)) [51, 52, 53, 4, 5, 6, 7, 8, 9, 10, 11, 12] rfl) (hD.sub (ws' := wS cyI (fun k => qa (51 + k)) (X.1 7) X.2.2.2 ++ wH cyI (fun k => qa (4 + k)) (X.1 1)) [51, 52, 53, 4, 5, 6, 7, 8, 9, 10, 11, 12] (by decide) rfl) rfl 2 0 rfl rfl rfl hl.1 (Nat.le_of_ble_eq_true rfl) dX7_bestOf_29 ⟨Nat.le_of_ble_eq_true rfl, Nat.le_of_ble_eq_true rfl⟩) hP hD hS hA [51, 52, 53, 4, 5, 6, 7, 8, 9, 10, 11, 12] [0, 1, 2, 3, 13, 14, 15, 16, 17, 18, 19, 20, 21, 22, 23, 24, 25, 26, 27, 28, 29, 30, 31, 32, 33, 34, 35, 36, 37, 38, 39, 40, 41, 42, 43, 44, 45, 46, 47, 48, 49, 50, 54] [0, 1, 2, 3, 46, 47, 48, 49, 50, 51, 52, 53, 54, 4, 5, 6, 7, 8, 9, 10, 11, 12, 13, 14, 15, 16, 17, 18, 19, 20, 21, 22, 23, 24, 25, 26, 27, 28, 29, 30, 31, 32, 33, 34, 35, 36, 37, 38, 39, 40, 41, 43, 44, 45, 42] rfl rfl (by decide) (by decide) rfl (by decide) (fun H locs hP hD hS => ?_)
      clear hz3
      refine lv_aload_n hx hb dX7_bestOf_32 rfl (lv_at hl 0 rfl) ?_
      refine va_get (D := D) (ci := 7) (v := .ref (qa 51)) (C := RX7) (T := TX7) (N := 10) hx hb hts in_X7_bestOf_X7 hown hK.1 hP 0 rfl rfl 8 (by decide) (hts _ kw_X7_bestOf_2) (fun _ h9 => h9) rfl dX7_bestOf_33 ?_
      refine va_get (D := D) (ci := 2) (v := .ref (qa 53)) (C := RX2) (T := TX2) (N := 4) hx hb hts in_X7_bestOf_X2 hown hK.1 hP 51 rfl rfl 1 (by decide) (hts _ kw_X7_bestOf_5) (fun _ h9 => h9) rfl dX7_bestOf_36 ?_
      refine lv_iload_n hx hb dX7_bestOf_39 rfl (lv_at hl 1 rfl) ?_
      obtain ⟨g4, h⟩ := jn h
      refine jald hx hb hK hP 53 rfl _ rfl g4 dX7_bestOf_40 ?_
      exact W.iret hx hb hr (fun t ht _ => ⟨⟨_, _, rfl, Option.some.inj h, by rw [ht]; exact hP, hD⟩, hS.F ht⟩) hS.2.2 dX7_bestOf_41 hlocks
    · have h := jt c2 h
      refine lv_bipush (v := (-2 : Int32)) hx hb dX7_bestOf_11 (by decide) ?_
      exact W.iret hx hb hr (fun t ht _ => ⟨⟨_, _, rfl, Option.some.inj h, by rw [ht]; exact hP, hD⟩, hS.F ht⟩) hS.2.2 dX7_bestOf_13 hlocks
  exact key s.heap [] hP hD hS
theorem kw_X7_callOff_1 : (.constantLong RX7 270 (-3) : Cond) ∈ wsX7_callOff := List.mem_of_getElem? (i := 1) rfl
theorem kw_X7_callOff_2 : (.methodLink RX7 284 Lib.MathLoose.max_long.x : Cond) ∈ wsX7_callOff := List.mem_of_getElem? (i := 2) rfl
theorem kw_X7_callOff_3 : (.static Lib.MathLoose.max_long.x : Cond) ∈ wsX7_callOff := List.mem_of_getElem? (i := 3) rfl
theorem kw_X7_callOff_4 : (.initialized "java/lang/Math" : Cond) ∈ wsX7_callOff := List.mem_of_getElem? (i := 4) rfl
theorem kw_X7_callOff_5 : (.code Lib.MathLoose.max_long.x Lib.MathLoose.max_long.code 4 (some .long) : Cond) ∈ wsX7_callOff := List.mem_of_getElem? (i := 5) rfl
theorem kw_X7_callOff_6 : (.constantLong RX7 218 (10) : Cond) ∈ wsX7_callOff := List.mem_of_getElem? (i := 6) rfl
abbrev rm_X7_callOff : Room := { frames := 2, cells := 0, slots := 0, locals := 64 }
set_option maxHeartbeats 4000000 in
set_option maxRecDepth 100000 in
theorem c_X7_callOff (l : Launch) (D : va_G) (cyI cyZ cyT : ClassId) (qa : Nat → Nat) (N : Nat) (a1 : Int32) (a2 : Int32) (a3 : Int32) (a4 : Int32) (a5 : Int32) (X : BX) (o : Int64) (hf : f_X7_callOff N a1 a2 a3 a4 a5 X = some o) : Met l yX7_callOff wsX7_callOff rm_X7_callOff (va_Pc [.ref (qa 0), .int a1, .int a2, .int a3, .int a4, .int a5] (jB D cyI cyZ cyT (wX cyI cyZ cyT qa X))) (jSl o) 0 0 (fun _ => False) := by
  refine Met.ofW (cc := cX7_callOff) (maxL := 11) (ret := (some .long)) (by decide) rfl ?_
  intro p e s m args below meth c s₁ B hml hv
  obtain ⟨rfl, hP, hK⟩ := hv
  have hx := B.exec
  have hb := B.bytes
  have hr := B.returns
  have hts := atoms_spec (ws := wsX7_callOff) B.pre
  have hown : s.vm.findClass RX7 = some m.cls := findClass_of_methodNamed B.named
  have hlocks := B.notSynchronized
  have hl := lv_entry ([.ref (qa 0), .int a1, .int a2, .int a3, .int a4, .int a5]) (n := 11) (Nat.le_of_ble_eq_true rfl)
  rw [lg_entry_eq]
  generalize (lg_sl ([.ref (qa 0), .int a1, .int a2, .int a3, .int a4, .int a5]) ++ List.replicate (11 - (lg_sl ([.ref (qa 0), .int a1, .int a2, .int a3, .int a4, .int a5])).length) Slot.unset).toArray = ls at hl ⊢
  have hl : lv_has ls 11 [(0, .ref (qa 0)), (1, .int a1), (2, .int a2), (3, .int a3), (4, .int a4), (5, .int a5)] := hl
  clear B
  generalize ([.ref (qa 0), .int a1, .int a2, .int a3, .int a4, .int a5] : List Value).toArray = args at hts ⊢
  have key : ∀ (H : Heap), va_P D vwCl (wX cyI cyZ cyT qa X) H → H = s.heap → W p l e rm_X7_callOff s m args below meth c H [] 0 0 (MQ below (jSl o) args s 0 0 (fun _ => False)) (F0 m 0 ls []) := by
    intro H hP hH
    have h := hf
    unfold f_X7_callOff at h
    refine lv_iload_n hx hb dX7_callOff_0 rfl (lv_at hl 1 rfl) ?_
    refine lv_iconst (v := (1 : Int32)) hx hb dX7_callOff_1 (by decide) ?_
    refine lv_icmp_lt (tgt := 47) hx hb dX7_callOff_2 (by decide) (fun c1 => ?_) (fun c1 => ?_)
    · have h := jt c1 h
      refine lv_ldc2 (v := (-3 : Int64)) hx hb hown (hts _ kw_X7_callOff_1) dX7_callOff_47 ?_
      exact W.lret hx hb hr (fun t ht _ => ⟨_, rfl, Option.some.inj h, ht.trans hH⟩) (fun q h => by cases h) dX7_callOff_50 hlocks
    · have h := jf c1 h
      refine lv_iload_n hx hb dX7_callOff_5 rfl (lv_at hl 1 rfl) ?_
      refine lv_bipush (v := (6 : Int32)) hx hb dX7_callOff_6 (by decide) ?_
      refine lv_icmp_gt (tgt := 47) hx hb dX7_callOff_8 (by decide) (fun c2 => ?_) (fun c2 => ?_)
      · have h := jt c2 h
        refine lv_ldc2 (v := (-3 : Int64)) hx hb hown (hts _ kw_X7_callOff_1) dX7_callOff_47 ?_
        exact W.lret hx hb hr (fun t ht _ => ⟨_, rfl, Option.some.inj h, ht.trans hH⟩) (fun q h => by cases h) dX7_callOff_50 hlocks
      · have h := jf c2 h
        refine lv_iload_n hx hb dX7_callOff_11 rfl (lv_at hl 2 rfl) ?_
        refine lv_bipush (v := (10 : Int32)) hx hb dX7_callOff_12 (by decide) ?_
        obtain ⟨z3, hz3, h⟩ := jb h
        refine jki (jrS (As := [.int a2, .int (10 : Int32)]) (rest := []) ⟨hx, hb, hml, hown, hts⟩ (c_X7_within l D cyI cyZ cyT   a2 (10 : Int32) z3 hz3) (va_cwS 2 hts gX7_callOff_X7_within rfl rfl rfl (by decide +kernel) ⟨Nat.le_of_ble_eq_true rfl, Nat.le_of_ble_eq_true rfl⟩) hK jP0 rfl rfl hl.1 (Nat.le_of_ble_eq_true rfl) dX7_callOff_14 ⟨Nat.le_of_ble_eq_true rfl, Nat.le_of_ble_eq_true rfl⟩) ?_
        clear hz3
        refine lv_if_eq (tgt := 47) hx hb dX7_callOff_17 (by decide) (fun c4 => ?_) (fun c4 => ?_)
        · have h := jt c4 h
          refine lv_ldc2 (v := (-3 : Int64)) hx hb hown (hts _ kw_X7_callOff_1) dX7_callOff_47 ?_
          exact W.lret hx hb hr (fun t ht _ => ⟨_, rfl, Option.some.inj h, ht.trans hH⟩) (fun q h => by cases h) dX7_callOff_50 hlocks
        · have h := jf c4 h
          refine lv_iload_n hx hb dX7_callOff_20 rfl (lv_at hl 3 rfl) ?_
          refine lv_bipush (v := (99 : Int32)) hx hb dX7_callOff_21 (by decide) ?_
          obtain ⟨z5, hz5, h⟩ := jb h
          refine jki (jrS (As := [.int a3, .int (99 : Int32)]) (rest := []) ⟨hx, hb, hml, hown, hts⟩ (c_X7_within l D cyI cyZ cyT   a3 (99 : Int32) z5 hz5) (va_cwS 2 hts gX7_callOff_X7_within rfl rfl rfl (by decide +kernel) ⟨Nat.le_of_ble_eq_true rfl, Nat.le_of_ble_eq_true rfl⟩) hK jP0 rfl rfl hl.1 (Nat.le_of_ble_eq_true rfl) dX7_callOff_23 ⟨Nat.le_of_ble_eq_true rfl, Nat.le_of_ble_eq_true rfl⟩) ?_
          clear hz5
          refine lv_if_eq (tgt := 47) hx hb dX7_callOff_26 (by decide) (fun c6 => ?_) (fun c6 => ?_)
          · have h := jt c6 h
            refine lv_ldc2 (v := (-3 : Int64)) hx hb hown (hts _ kw_X7_callOff_1) dX7_callOff_47 ?_
            exact W.lret hx hb hr (fun t ht _ => ⟨_, rfl, Option.some.inj h, ht.trans hH⟩) (fun q h => by cases h) dX7_callOff_50 hlocks
          · have h := jf c6 h
            refine lv_iload hx hb dX7_callOff_29 (lv_at hl 4 rfl) ?_
            refine lv_bipush (v := (99 : Int32)) hx hb dX7_callOff_31 (by decide) ?_
            obtain ⟨z7, hz7, h⟩ := jb h
            refine jki (jrS (As := [.int a4, .int (99 : Int32)]) (rest := []) ⟨hx, hb, hml, hown, hts⟩ (c_X7_within l D cyI cyZ cyT   a4 (99 : Int32) z7 hz7) (va_cwS 2 hts gX7_callOff_X7_within rfl rfl rfl (by decide +kernel) ⟨Nat.le_of_ble_eq_true rfl, Nat.le_of_ble_eq_true rfl⟩) hK jP0 rfl rfl hl.1 (Nat.le_of_ble_eq_true rfl) dX7_callOff_33 ⟨Nat.le_of_ble_eq_true rfl, Nat.le_of_ble_eq_true rfl⟩) ?_
            clear hz7
            refine lv_if_eq (tgt := 47) hx hb dX7_callOff_36 (by decide) (fun c8 => ?_) (fun c8 => ?_)
            · have h := jt c8 h
              refine lv_ldc2 (v := (-3 : Int64)) hx hb hown (hts _ kw_X7_callOff_1) dX7_callOff_47 ?_
              exact W.lret hx hb hr (fun t ht _ => ⟨_, rfl, Option.some.inj h, ht.trans hH⟩) (fun q h => by cases h) dX7_callOff_50 hlocks
            · have h := jf c8 h
              refine lv_iload hx hb dX7_callOff_39 (lv_at hl 5 rfl) ?_
              obtain ⟨z9, hz9, h⟩ := jb h
              refine jki (jrS (As := [.int a5]) (rest := []) ⟨hx, hb, hml, hown, hts⟩ (c_X7_isPart l D cyI cyZ cyT   a5 z9 hz9) (va_cwS 1 hts gX7_callOff_X7_isPart rfl rfl rfl (by decide +kernel) ⟨Nat.le_of_ble_eq_true rfl, Nat.le_of_ble_eq_true rfl⟩) hK jP0 rfl rfl hl.1 (Nat.le_of_ble_eq_true rfl) dX7_callOff_41 ⟨Nat.le_of_ble_eq_true rfl, Nat.le_of_ble_eq_true rfl⟩) ?_
              clear hz9
              refine lv_if_ne (tgt := 51) hx hb dX7_callOff_44 (by decide) (fun c10 => ?_) (fun c10 => ?_)
              · have h := jf c10 h
                refine lv_lconst (v := (0 : Int64)) hx hb dX7_callOff_51 (by decide) ?_
                refine lv_lstore (lv' := [(6, .long (0 : Int64)), (0, .ref (qa 0)), (1, .int a1), (2, .int a2), (3, .int a3), (4, .int a4), (5, .int a5)]) hx hb dX7_callOff_52 hl (by decide) rfl (fun ls hl => ?_)
                refine lv_lconst (v := (1 : Int64)) hx hb dX7_callOff_54 (by decide) ?_
                refine lv_lstore (lv' := [(8, .long (1 : Int64)), (6, .long (0 : Int64)), (0, .ref (qa 0)), (1, .int a1), (2, .int a2), (3, .int a3), (4, .int a4), (5, .int a5)]) hx hb dX7_callOff_55 hl (by decide) rfl (fun ls hl => ?_)
                refine lv_iconst (v := (1 : Int32)) hx hb dX7_callOff_57 (by decide) ?_
                refine lv_istore (lv' := [(10, .int (1 : Int32)), (8, .long (1 : Int64)), (6, .long (0 : Int64)), (0, .ref (qa 0)), (1, .int a1), (2, .int a2), (3, .int a3), (4, .int a4), (5, .int a5)]) hx hb dX7_callOff_58 hl (by decide) rfl (fun ls hl => ?_)
                obtain ⟨r11, hz11, h11_⟩ := jb h
                have hex11 : ∀ e11 : (Int64 × Int64), r11 = e11 → ∀ (ls : Array Slot), lv_has ls 11 [(5, .int a5), (6, .long e11.1), (8, .long e11.2)] → W p l e rm_X7_callOff s m args below meth c H [] 0 0 (MQ below (jSl o) args s 0 0 (fun _ => False)) (F0 m 109 ls []) := by
                  intro e11 he ls hl
                  rw [he] at h11_
                  have h := h11_
                  clear hz11
                  refine lv_lload hx hb dX7_callOff_109 (lv_at hl 1 rfl) ?_
                  refine lv_lload hx hb dX7_callOff_111 (lv_at hl 2 rfl) ?_
                  refine lv_iload hx hb dX7_callOff_113 (lv_at hl 0 rfl) ?_
                  obtain ⟨z13, hz13, h⟩ := jb h
                  refine jkl (jrS (As := [.long e11.1, .long e11.2, .int a5]) (rest := []) ⟨hx, hb, hml, hown, hts⟩ (c_X7_partOf l D cyI cyZ cyT   N e11.1 e11.2 a5 z13 hz13) (va_cwS 3 hts gX7_callOff_X7_partOf rfl rfl rfl (by decide +kernel) ⟨Nat.le_of_ble_eq_true rfl, Nat.le_of_ble_eq_true rfl⟩) hK jP0 rfl rfl hl.1 (Nat.le_of_ble_eq_true rfl) dX7_callOff_115 ⟨Nat.le_of_ble_eq_true rfl, Nat.le_of_ble_eq_true rfl⟩) ?_
                  clear hz13
                  exact W.lret hx hb hr (fun t ht _ => ⟨_, rfl, Option.some.inj h, ht.trans hH⟩) (fun q h => by cases h) dX7_callOff_118 hlocks
                have hlp11 : ∀ (nn : Nat) (z11 : (Int64 × Int64 × Int32)), jw (X7_callOff_s60 a1 a2 a3 a4) nn z11 = some r11 → ∀ (ls : Array Slot), lv_has ls 11 [(1, .int a1), (2, .int a2), (3, .int a3), (4, .int a4), (5, .int a5), (6, .long z11.1), (8, .long z11.2.1), (10, .int z11.2.2)] → W p l e rm_X7_callOff s m args below meth c H [] 0 0 (MQ below (jSl o) args s 0 0 (fun _ => False)) (F0 m 60 ls []) := by
                  refine jw_P (r := r11) (P := fun z11 : (Int64 × Int64 × Int32) => ∀ (ls : Array Slot), lv_has ls 11 [(1, .int a1), (2, .int a2), (3, .int a3), (4, .int a4), (5, .int a5), (6, .long z11.1), (8, .long z11.2.1), (10, .int z11.2.2)] → W p l e rm_X7_callOff s m args below meth c H [] 0 0 (MQ below (jSl o) args s 0 0 (fun _ => False)) (F0 m 60 ls [])) ?_
                  intro z11 x11 h hin hout ls hl
                  unfold X7_callOff_s60 at h
                  refine lv_iload hx hb dX7_callOff_60 (lv_at hl 7 rfl) ?_
                  refine lv_iload_n hx hb dX7_callOff_62 rfl (lv_at hl 0 rfl) ?_
                  refine lv_icmp_gt (tgt := 109) hx hb dX7_callOff_63 (by decide) (fun c12 => ?_) (fun c12 => ?_)
                  · have h := jt c12 h
                    exact hex11 _ (hout _ (Option.some.inj h).symm).symm ls (lv_sub hl [4, 5, 6] rfl)
                  · have h := jf c12 h
                    refine lv_lconst (v := (0 : Int64)) hx hb dX7_callOff_66 (by decide) ?_
                    refine lv_iload_n hx hb dX7_callOff_67 rfl (lv_at hl 1 rfl) ?_
                    refine lv_iload_n hx hb dX7_callOff_68 rfl (lv_at hl 2 rfl) ?_
                    refine lv_imul hx hb dX7_callOff_69 ?_
                    refine lv_i2l (v := (a2 * a3).toInt64) hx hb dX7_callOff_70 rfl ?_
                    refine lv_lload hx hb dX7_callOff_71 (lv_at hl 6 rfl) ?_
                    refine lv_lmul hx hb dX7_callOff_73 ?_
                    refine lv_bipush (v := (10 : Int32)) hx hb dX7_callOff_74 (by decide) ?_
                    refine lv_iload_n hx hb dX7_callOff_76 rfl (lv_at hl 1 rfl) ?_
                    refine lv_isub hx hb dX7_callOff_77 ?_
                    refine lv_i2l (v := ((10 : Int32) - a2).toInt64) hx hb dX7_callOff_78 rfl ?_
                    refine lv_lload hx hb dX7_callOff_79 (lv_at hl 5 rfl) ?_
                    refine lv_iload hx hb dX7_callOff_81 (lv_at hl 3 rfl) ?_
                    refine lv_i2l (v := a4.toInt64) hx hb dX7_callOff_83 rfl ?_
                    refine lv_lload hx hb dX7_callOff_84 (lv_at hl 6 rfl) ?_
                    refine lv_lmul hx hb dX7_callOff_86 ?_
                    refine lv_lsub hx hb dX7_callOff_87 ?_
                    refine lv_lmul hx hb dX7_callOff_88 ?_
                    refine lv_ladd hx hb dX7_callOff_89 ?_
                    refine va_mmax_long hx hb (hml.trans hl.1.symm) hown (hts _ kw_X7_callOff_2) (hts _ kw_X7_callOff_3) (hts _ kw_X7_callOff_4) (hts _ kw_X7_callOff_5) (Nat.le_of_ble_eq_true rfl) (Nat.le_of_ble_eq_true rfl) (Nat.le_of_ble_eq_true rfl) (Nat.le_of_ble_eq_true rfl) dX7_callOff_90 ?_
                    refine lv_lstore (lv' := [(6, .long (if ((((a2 * a3).toInt64) * z11.2.1) + ((((10 : Int32) - a2).toInt64) * (z11.1 - (a4.toInt64 * z11.2.1)))) < (0 : Int64) then (0 : Int64) else ((((a2 * a3).toInt64) * z11.2.1) + ((((10 : Int32) - a2).toInt64) * (z11.1 - (a4.toInt64 * z11.2.1)))))), (1, .int a1), (2, .int a2), (3, .int a3), (4, .int a4), (5, .int a5), (8, .long z11.2.1), (10, .int z11.2.2)]) hx hb dX7_callOff_93 hl (by decide) rfl (fun ls hl => ?_)
                    refine lv_lload hx hb dX7_callOff_95 (lv_at hl 6 rfl) ?_
                    refine lv_ldc2 (v := (10 : Int64)) hx hb hown (hts _ kw_X7_callOff_6) dX7_callOff_97 ?_
                    refine lv_lmul hx hb dX7_callOff_100 ?_
                    refine lv_lstore (lv' := [(8, .long (z11.2.1 * (10 : Int64))), (6, .long (if ((((a2 * a3).toInt64) * z11.2.1) + ((((10 : Int32) - a2).toInt64) * (z11.1 - (a4.toInt64 * z11.2.1)))) < (0 : Int64) then (0 : Int64) else ((((a2 * a3).toInt64) * z11.2.1) + ((((10 : Int32) - a2).toInt64) * (z11.1 - (a4.toInt64 * z11.2.1)))))), (1, .int a1), (2, .int a2), (3, .int a3), (4, .int a4), (5, .int a5), (10, .int z11.2.2)]) hx hb dX7_callOff_101 hl (by decide) rfl (fun ls hl => ?_)
                    refine lv_iinc (v := z11.2.2 + (1 : Int32)) (lv' := [(10, .int (z11.2.2 + (1 : Int32))), (8, .long (z11.2.1 * (10 : Int64))), (6, .long (if ((((a2 * a3).toInt64) * z11.2.1) + ((((10 : Int32) - a2).toInt64) * (z11.1 - (a4.toInt64 * z11.2.1)))) < (0 : Int64) then (0 : Int64) else ((((a2 * a3).toInt64) * z11.2.1) + ((((10 : Int32) - a2).toInt64) * (z11.1 - (a4.toInt64 * z11.2.1)))))), (1, .int a1), (2, .int a2), (3, .int a3), (4, .int a4), (5, .int a5)]) hx hb dX7_callOff_103 hl (k := 7) rfl rfl (by decide) rfl (fun ls hl => ?_)
                    refine lv_goto (tgt := 60) hx hb dX7_callOff_106 (by decide) ?_
                    exact hin _ (Option.some.inj h).symm ls (lv_sub hl [3, 4, 5, 6, 7, 2, 1, 0] rfl)
                exact hlp11 _ _ hz11 ls (lv_sub hl [4, 5, 6, 7, 8, 2, 1, 0] rfl)
              · have h := jt c10 h
                refine lv_ldc2 (v := (-3 : Int64)) hx hb hown (hts _ kw_X7_callOff_1) dX7_callOff_47 ?_
                exact W.lret hx hb hr (fun t ht _ => ⟨_, rfl, Option.some.inj h, ht.trans hH⟩) (fun q h => by cases h) dX7_callOff_50 hlocks
  exact key s.heap hP rfl
theorem kw_X7_comeUpTo_1 : (.fieldLink RX7 19 "BellTheCat" "told" "LBellTheCat$House;" : Cond) ∈ wsX7_comeUpTo := List.mem_of_getElem? (i := 1) rfl
theorem kw_X7_comeUpTo_2 : (.fieldLink RX7 29 "BellTheCat" "now" "LBellTheCat$Team;" : Cond) ∈ wsX7_comeUpTo := List.mem_of_getElem? (i := 2) rfl
theorem in_X7_comeUpTo_X7 : ∀ w ∈ wsX70, w ∈ wsX7_comeUpTo := fun w h => List.mem_cons_of_mem _ (List.mem_append_left _ (List.mem_append_left _ (List.mem_append_right _ h)))
abbrev rm_X7_comeUpTo : Room := { frames := 3, cells := 0, slots := 0, locals := 109 }
set_option maxHeartbeats 4000000 in
set_option maxRecDepth 100000 in
theorem c_X7_comeUpTo (l : Launch) (D : va_G) (cyI cyZ cyT : ClassId) (qa : Nat → Nat) (N : Nat) (a1 : Int32) (X : BX) (o : Int64) (hf : f_X7_comeUpTo N a1 X = some o) : Met l yX7_comeUpTo wsX7_comeUpTo rm_X7_comeUpTo (va_Pc [.ref (qa 0), .int a1] (jB D cyI cyZ cyT (wX cyI cyZ cyT qa X))) (jSl o) 0 0 (fun _ => False) := by
  refine Met.ofW (cc := cX7_comeUpTo) (maxL := 5) (ret := (some .long)) (by decide) rfl ?_
  intro p e s m args below meth c s₁ B hml hv
  obtain ⟨rfl, hP, hK⟩ := hv
  have hx := B.exec
  have hb := B.bytes
  have hr := B.returns
  have hts := atoms_spec (ws := wsX7_comeUpTo) B.pre
  have hown : s.vm.findClass RX7 = some m.cls := findClass_of_methodNamed B.named
  have hlocks := B.notSynchronized
  have hl := lv_entry ([.ref (qa 0), .int a1]) (n := 5) (Nat.le_of_ble_eq_true rfl)
  rw [lg_entry_eq]
  generalize (lg_sl ([.ref (qa 0), .int a1]) ++ List.replicate (5 - (lg_sl ([.ref (qa 0), .int a1])).length) Slot.unset).toArray = ls at hl ⊢
  have hl : lv_has ls 5 [(0, .ref (qa 0)), (1, .int a1)] := hl
  clear B
  generalize ([.ref (qa 0), .int a1] : List Value).toArray = args at hts ⊢
  have key : ∀ (H : Heap), va_P D vwCl (wX cyI cyZ cyT qa X) H → H = s.heap → W p l e rm_X7_comeUpTo s m args below meth c H [] 0 0 (MQ below (jSl o) args s 0 0 (fun _ => False)) (F0 m 0 ls []) := by
    intro H hP hH
    have h := hf
    unfold f_X7_comeUpTo at h
    refine lv_lconst (v := (1 : Int64)) hx hb dX7_comeUpTo_0 (by decide) ?_
    refine lv_lstore_n (lv' := [(2, .long (1 : Int64)), (0, .ref (qa 0)), (1, .int a1)]) hx hb dX7_comeUpTo_1 rfl hl (by decide) rfl (fun ls hl => ?_)
    refine lv_iconst (v := (0 : Int32)) hx hb dX7_comeUpTo_2 (by decide) ?_
    refine lv_istore (lv' := [(4, .int (0 : Int32)), (2, .long (1 : Int64)), (0, .ref (qa 0)), (1, .int a1)]) hx hb dX7_comeUpTo_3 hl (by decide) rfl (fun ls hl => ?_)
    obtain ⟨r1, hz1, h1_⟩ := jb h
    have hex1 : ∀ e1 : Int64, r1 = e1 → ∀ (ls : Array Slot), lv_has ls 5 [(2, .long e1)] → W p l e rm_X7_comeUpTo s m args below meth c H [] 0 0 (MQ below (jSl o) args s 0 0 (fun _ => False)) (F0 m 42 ls []) := by
      intro e1 he ls hl
      rw [he] at h1_
      have h := h1_
      clear hz1
      refine lv_lload_n hx hb dX7_comeUpTo_42 rfl (lv_at hl 0 rfl) ?_
      exact W.lret hx hb hr (fun t ht _ => ⟨_, rfl, Option.some.inj h, ht.trans hH⟩) (fun q h => by cases h) dX7_comeUpTo_43 hlocks
    have hlp1 : ∀ (nn : Nat) (z1 : (Int64 × Int32)), jw (X7_comeUpTo_s5 a1 X) nn z1 = some r1 → ∀ (ls : Array Slot), lv_has ls 5 [(0, .ref (qa 0)), (1, .int a1), (2, .long z1.1), (4, .int z1.2)] → W p l e rm_X7_comeUpTo s m args below meth c H [] 0 0 (MQ below (jSl o) args s 0 0 (fun _ => False)) (F0 m 5 ls []) := by
      refine jw_P (r := r1) (P := fun z1 : (Int64 × Int32) => ∀ (ls : Array Slot), lv_has ls 5 [(0, .ref (qa 0)), (1, .int a1), (2, .long z1.1), (4, .int z1.2)] → W p l e rm_X7_comeUpTo s m args below meth c H [] 0 0 (MQ below (jSl o) args s 0 0 (fun _ => False)) (F0 m 5 ls [])) ?_
      intro z1 x1 h hin hout ls hl
      unfold X7_comeUpTo_s5 at h
      refine lv_iload hx hb dX7_comeUpTo_5 (lv_at hl 3 rfl) ?_
      refine lv_iload_n hx hb dX7_comeUpTo_7 rfl (lv_at hl 1 rfl) ?_
      refine lv_icmp_ge (tgt := 42) hx hb dX7_comeUpTo_8 (by decide) (fun c2 => ?_) (fun c2 => ?_)
      · have h := jt c2 h
        exact hex1 _ (hout _ (Option.some.inj h).symm).symm ls (lv_sub hl [2] rfl)
      · have h := jf c2 h
        refine lv_lload_n hx hb dX7_comeUpTo_11 rfl (lv_at hl 2 rfl) ?_
        refine lv_bipush (v := (10 : Int32)) hx hb dX7_comeUpTo_12 (by decide) ?_
        refine lv_aload_n hx hb dX7_comeUpTo_14 rfl (lv_at hl 0 rfl) ?_
        refine va_get (D := D) (ci := 7) (v := .ref (qa 4)) (C := RX7) (T := TX7) (N := 10) hx hb hts in_X7_comeUpTo_X7 hown hK.1 hP 0 rfl rfl 1 (by decide) (hts _ kw_X7_comeUpTo_1) (fun _ h9 => h9) rfl dX7_comeUpTo_15 ?_
        refine lv_iload hx hb dX7_comeUpTo_18 (lv_at hl 3 rfl) ?_
        refine lv_aload_n hx hb dX7_comeUpTo_20 rfl (lv_at hl 0 rfl) ?_
        refine va_get (D := D) (ci := 7) (v := .ref (qa 22)) (C := RX7) (T := TX7) (N := 10) hx hb hts in_X7_comeUpTo_X7 hown hK.1 hP 0 rfl rfl 3 (by decide) (hts _ kw_X7_comeUpTo_2) (fun _ h9 => h9) rfl dX7_comeUpTo_21 ?_
        refine lv_iload hx hb dX7_comeUpTo_24 (lv_at hl 3 rfl) ?_
        obtain ⟨z3, hz3, h⟩ := jb h
        refine jki (jrV (As := [.int z1.2]) (rest := [.int z1.2, .ref (qa 4), .int (10 : Int32), .long z1.1]) ⟨hx, hb, hml, hown, hts⟩ (c_X4_doerOf l D cyI cyZ cyT (fun k => qa (22 + k))  z1.2 (X.1 3) z3 hz3) (cwV 1 hts gX7_comeUpTo_X4_doerOf rfl rfl rfl (by decide +kernel) ⟨Nat.le_of_ble_eq_true rfl, Nat.le_of_ble_eq_true rfl⟩) hK (hP.sub (ws' := wT cyI (fun k => qa (22 + k)) (X.1 3)) [22, 23] rfl) rfl 4 0 rfl rfl rfl hl.1 (Nat.le_of_ble_eq_true rfl) dX7_comeUpTo_26 ⟨Nat.le_of_ble_eq_true rfl, Nat.le_of_ble_eq_true rfl⟩) ?_
        clear hz3
        obtain ⟨z4, hz4, h⟩ := jb h
        refine jki (jrV (As := [.int z1.2, .int z3]) (rest := [.int (10 : Int32), .long z1.1]) ⟨hx, hb, hml, hown, hts⟩ (c_X0_dangerAt l D cyI cyZ cyT (fun k => qa (4 + k))  z1.2 z3 (X.1 1) z4 hz4) (cwV 2 hts gX7_comeUpTo_X0_dangerAt rfl rfl rfl (by decide +kernel) ⟨Nat.le_of_ble_eq_true rfl, Nat.le_of_ble_eq_true rfl⟩) hK (hP.sub (ws' := wH cyI (fun k => qa (4 + k)) (X.1 1)) [4, 5, 6, 7, 8, 9, 10, 11, 12] rfl) rfl 0 0 rfl rfl rfl hl.1 (Nat.le_of_ble_eq_true rfl) dX7_comeUpTo_29 ⟨Nat.le_of_ble_eq_true rfl, Nat.le_of_ble_eq_true rfl⟩) ?_
        clear hz4
        refine lv_isub hx hb dX7_comeUpTo_32 ?_
        refine lv_i2l (v := ((10 : Int32) - z4).toInt64) hx hb dX7_comeUpTo_33 rfl ?_
        refine lv_lmul hx hb dX7_comeUpTo_34 ?_
        refine lv_lstore_n (lv' := [(2, .long (z1.1 * (((10 : Int32) - z4).toInt64))), (0, .ref (qa 0)), (1, .int a1), (4, .int z1.2)]) hx hb dX7_comeUpTo_35 rfl hl (by decide) rfl (fun ls hl => ?_)
        refine lv_iinc (v := z1.2 + (1 : Int32)) (lv' := [(4, .int (z1.2 + (1 : Int32))), (2, .long (z1.1 * (((10 : Int32) - z4).toInt64))), (0, .ref (qa 0)), (1, .int a1)]) hx hb dX7_comeUpTo_36 hl (k := 3) rfl rfl (by decide) rfl (fun ls hl => ?_)
        refine lv_goto (tgt := 5) hx hb dX7_comeUpTo_39 (by decide) ?_
        exact hin _ (Option.some.inj h).symm ls (lv_sub hl [2, 3, 1, 0] rfl)
    exact hlp1 _ _ hz1 ls (lv_sub hl [2, 3, 1, 0] rfl)
  exact key s.heap hP rfl
theorem kw_X7_caughtAt_1 : (.fieldLink RX7 19 "BellTheCat" "told" "LBellTheCat$House;" : Cond) ∈ wsX7_caughtAt := List.mem_of_getElem? (i := 1) rfl
theorem kw_X7_caughtAt_2 : (.fieldLink RX7 29 "BellTheCat" "now" "LBellTheCat$Team;" : Cond) ∈ wsX7_caughtAt := List.mem_of_getElem? (i := 2) rfl
theorem in_X7_caughtAt_X7 : ∀ w ∈ wsX70, w ∈ wsX7_caughtAt := fun w h => List.mem_cons_of_mem _ (List.mem_append_left _ (List.mem_append_left _ (List.mem_append_right _ h)))
abbrev rm_X7_caughtAt : Room := { frames := 4, cells := 0, slots := 0, locals := 133 }
set_option maxHeartbeats 4000000 in
set_option maxRecDepth 100000 in
theorem c_X7_caughtAt (l : Launch) (D : va_G) (cyI cyZ cyT : ClassId) (qa : Nat → Nat) (N : Nat) (a1 : Int32) (X : BX) (o : Int64) (hf : f_X7_caughtAt N a1 X = some o) : Met l yX7_caughtAt wsX7_caughtAt rm_X7_caughtAt (va_Pc [.ref (qa 0), .int a1] (jB D cyI cyZ cyT (wX cyI cyZ cyT qa X))) (jSl o) 0 0 (fun _ => False) := by
  refine Met.ofW (cc := cX7_caughtAt) (maxL := 2) (ret := (some .long)) (by decide) rfl ?_
  intro p e s m args below meth c s₁ B hml hv
  obtain ⟨rfl, hP, hK⟩ := hv
  have hx := B.exec
  have hb := B.bytes
  have hr := B.returns
  have hts := atoms_spec (ws := wsX7_caughtAt) B.pre
  have hown : s.vm.findClass RX7 = some m.cls := findClass_of_methodNamed B.named
  have hlocks := B.notSynchronized
  have hl := lv_entry ([.ref (qa 0), .int a1]) (n := 2) (Nat.le_of_ble_eq_true rfl)
  rw [lg_entry_eq]
  generalize (lg_sl ([.ref (qa 0), .int a1]) ++ List.replicate (2 - (lg_sl ([.ref (qa 0), .int a1])).length) Slot.unset).toArray = ls at hl ⊢
  have hl : lv_has ls 2 [(0, .ref (qa 0)), (1, .int a1)] := hl
  clear B
  generalize ([.ref (qa 0), .int a1] : List Value).toArray = args at hts ⊢
  have key : ∀ (H : Heap), va_P D vwCl (wX cyI cyZ cyT qa X) H → H = s.heap → W p l e rm_X7_caughtAt s m args below meth c H [] 0 0 (MQ below (jSl o) args s 0 0 (fun _ => False)) (F0 m 0 ls []) := by
    intro H hP hH
    have h := hf
    unfold f_X7_caughtAt at h
    refine lv_aload_n hx hb dX7_caughtAt_0 rfl (lv_at hl 0 rfl) ?_
    refine lv_iload_n hx hb dX7_caughtAt_1 rfl (lv_at hl 1 rfl) ?_
    obtain ⟨z1, hz1, h⟩ := jb h
    refine jkl (jrV (As := [.int a1]) (rest := []) ⟨hx, hb, hml, hown, hts⟩ (c_X7_comeUpTo l D cyI cyZ cyT qa  N a1 X z1 hz1) (cwV 1 hts gX7_caughtAt_X7_comeUpTo rfl rfl rfl (by decide +kernel) ⟨Nat.le_of_ble_eq_true rfl, Nat.le_of_ble_eq_true rfl⟩) hK hP rfl 7 0 rfl rfl rfl hl.1 (Nat.le_of_ble_eq_true rfl) dX7_caughtAt_2 ⟨Nat.le_of_ble_eq_true rfl, Nat.le_of_ble_eq_true rfl⟩) ?_
    clear hz1
    refine lv_aload_n hx hb dX7_caughtAt_5 rfl (lv_at hl 0 rfl) ?_
    refine va_get (D := D) (ci := 7) (v := .ref (qa 4)) (C := RX7) (T := TX7) (N := 10) hx hb hts in_X7_caughtAt_X7 hown hK.1 hP 0 rfl rfl 1 (by decide) (hts _ kw_X7_caughtAt_1) (fun _ h9 => h9) rfl dX7_caughtAt_6 ?_
    refine lv_iload_n hx hb dX7_caughtAt_9 rfl (lv_at hl 1 rfl) ?_
    refine lv_aload_n hx hb dX7_caughtAt_10 rfl (lv_at hl 0 rfl) ?_
    refine va_get (D := D) (ci := 7) (v := .ref (qa 22)) (C := RX7) (T := TX7) (N := 10) hx hb hts in_X7_caughtAt_X7 hown hK.1 hP 0 rfl rfl 3 (by decide) (hts _ kw_X7_caughtAt_2) (fun _ h9 => h9) rfl dX7_caughtAt_11 ?_
    refine lv_iload_n hx hb dX7_caughtAt_14 rfl (lv_at hl 1 rfl) ?_
    obtain ⟨z2, hz2, h⟩ := jb h
    refine jki (jrV (As := [.int a1]) (rest := [.int a1, .ref (qa 4), .long z1]) ⟨hx, hb, hml, hown, hts⟩ (c_X4_doerOf l D cyI cyZ cyT (fun k => qa (22 + k))  a1 (X.1 3) z2 hz2) (cwV 1 hts gX7_caughtAt_X4_doerOf rfl rfl rfl (by decide +kernel) ⟨Nat.le_of_ble_eq_true rfl, Nat.le_of_ble_eq_true rfl⟩) hK (hP.sub (ws' := wT cyI (fun k => qa (22 + k)) (X.1 3)) [22, 23] rfl) rfl 4 0 rfl rfl rfl hl.1 (Nat.le_of_ble_eq_true rfl) dX7_caughtAt_15 ⟨Nat.le_of_ble_eq_true rfl, Nat.le_of_ble_eq_true rfl⟩) ?_
    clear hz2
    obtain ⟨z3, hz3, h⟩ := jb h
    refine jki (jrV (As := [.int a1, .int z2]) (rest := [.long z1]) ⟨hx, hb, hml, hown, hts⟩ (c_X0_dangerAt l D cyI cyZ cyT (fun k => qa (4 + k))  a1 z2 (X.1 1) z3 hz3) (cwV 2 hts gX7_caughtAt_X0_dangerAt rfl rfl rfl (by decide +kernel) ⟨Nat.le_of_ble_eq_true rfl, Nat.le_of_ble_eq_true rfl⟩) hK (hP.sub (ws' := wH cyI (fun k => qa (4 + k)) (X.1 1)) [4, 5, 6, 7, 8, 9, 10, 11, 12] rfl) rfl 0 0 rfl rfl rfl hl.1 (Nat.le_of_ble_eq_true rfl) dX7_caughtAt_18 ⟨Nat.le_of_ble_eq_true rfl, Nat.le_of_ble_eq_true rfl⟩) ?_
    clear hz3
    refine lv_i2l (v := z3.toInt64) hx hb dX7_caughtAt_21 rfl ?_
    refine lv_lmul hx hb dX7_caughtAt_22 ?_
    exact W.lret hx hb hr (fun t ht _ => ⟨_, rfl, Option.some.inj h, ht.trans hH⟩) (fun q h => by cases h) dX7_caughtAt_23 hlocks
  exact key s.heap hP rfl
theorem kw_X7_drawOf_1 : (.constantLong RX7 311 (7919) : Cond) ∈ wsX7_drawOf := List.mem_of_getElem? (i := 1) rfl
theorem kw_X7_drawOf_2 : (.constantLong RX7 313 (6151) : Cond) ∈ wsX7_drawOf := List.mem_of_getElem? (i := 2) rfl
theorem kw_X7_drawOf_3 : (.constantLong RX7 315 (65521) : Cond) ∈ wsX7_drawOf := List.mem_of_getElem? (i := 3) rfl
theorem kw_X7_drawOf_4 : (.constantLong RX7 218 (10) : Cond) ∈ wsX7_drawOf := List.mem_of_getElem? (i := 4) rfl
abbrev rm_X7_drawOf : Room := { frames := 0, cells := 0, slots := 0, locals := 0 }
set_option maxHeartbeats 4000000 in
set_option maxRecDepth 100000 in
theorem c_X7_drawOf (l : Launch) (D : va_G) (cyI cyZ cyT : ClassId) (a0 : Int32) (a1 : Int32) (o : Int32) (hf : f_X7_drawOf a0 a1 = some o) : Met l yX7_drawOf wsX7_drawOf rm_X7_drawOf (va_Pc [.int a0, .int a1] (jB D cyI cyZ cyT ([]))) (jSi o) 0 0 (fun _ => False) := by
  refine Met.ofW (cc := cX7_drawOf) (maxL := 4) (ret := (some .int)) (by decide) rfl ?_
  intro p e s m args below meth c s₁ B hml hv
  obtain ⟨rfl, hP, hK⟩ := hv
  have hx := B.exec
  have hb := B.bytes
  have hr := B.returns
  have hts := atoms_spec (ws := wsX7_drawOf) B.pre
  have hown : s.vm.findClass RX7 = some m.cls := findClass_of_methodNamed B.named
  have hlocks := B.notSynchronized
  have hl := lv_entry ([.int a0, .int a1]) (n := 4) (Nat.le_of_ble_eq_true rfl)
  rw [lg_entry_eq]
  generalize (lg_sl ([.int a0, .int a1]) ++ List.replicate (4 - (lg_sl ([.int a0, .int a1])).length) Slot.unset).toArray = ls at hl ⊢
  have hl : lv_has ls 4 [(0, .int a0), (1, .int a1)] := hl
  clear B
  generalize ([.int a0, .int a1] : List Value).toArray = args at hts ⊢
  have key : ∀ (H : Heap), va_P D vwCl ([]) H → H = s.heap → W p l e rm_X7_drawOf s m args below meth c H [] 0 0 (MQ below (jSi o) args s 0 0 (fun _ => False)) (F0 m 0 ls []) := by
    intro H hP hH
    have h := hf
    unfold f_X7_drawOf at h
    refine lv_ldc2 (v := (7919 : Int64)) hx hb hown (hts _ kw_X7_drawOf_1) dX7_drawOf_0 ?_
    refine lv_iload_n hx hb dX7_drawOf_3 rfl (lv_at hl 0 rfl) ?_
    refine lv_i2l (v := a0.toInt64) hx hb dX7_drawOf_4 rfl ?_
    refine lv_lmul hx hb dX7_drawOf_5 ?_
    refine lv_ldc2 (v := (6151 : Int64)) hx hb hown (hts _ kw_X7_drawOf_2) dX7_drawOf_6 ?_
    refine lv_iload_n hx hb dX7_drawOf_9 rfl (lv_at hl 1 rfl) ?_
    refine lv_i2l (v := a1.toInt64) hx hb dX7_drawOf_10 rfl ?_
    refine lv_lmul hx hb dX7_drawOf_11 ?_
    refine lv_ladd hx hb dX7_drawOf_12 ?_
    refine lv_lconst (v := (1 : Int64)) hx hb dX7_drawOf_13 (by decide) ?_
    refine lv_ladd hx hb dX7_drawOf_14 ?_
    refine lv_lstore_n (lv' := [(2, .long ((((7919 : Int64) * a0.toInt64) + ((6151 : Int64) * a1.toInt64)) + (1 : Int64))), (0, .int a0), (1, .int a1)]) hx hb dX7_drawOf_15 rfl hl (by decide) rfl (fun ls hl => ?_)
    refine lv_lload_n hx hb dX7_drawOf_16 rfl (lv_at hl 0 rfl) ?_
    refine lv_lload_n hx hb dX7_drawOf_17 rfl (lv_at hl 0 rfl) ?_
    refine lv_lmul hx hb dX7_drawOf_18 ?_
    refine lv_ldc2 (v := (65521 : Int64)) hx hb hown (hts _ kw_X7_drawOf_3) dX7_drawOf_19 ?_
    refine lv_lrem hx hb dX7_drawOf_22 (by decide) ?_
    refine lv_ldc2 (v := (10 : Int64)) hx hb hown (hts _ kw_X7_drawOf_4) dX7_drawOf_23 ?_
    refine lv_lrem hx hb dX7_drawOf_26 (by decide) ?_
    refine lv_l2i (v := (((((((7919 : Int64) * a0.toInt64) + ((6151 : Int64) * a1.toInt64)) + (1 : Int64)) * ((((7919 : Int64) * a0.toInt64) + ((6151 : Int64) * a1.toInt64)) + (1 : Int64))) - (((((7919 : Int64) * a0.toInt64) + ((6151 : Int64) * a1.toInt64)) + (1 : Int64)) * ((((7919 : Int64) * a0.toInt64) + ((6151 : Int64) * a1.toInt64)) + (1 : Int64))) / (65521 : Int64) * (65521 : Int64)) - ((((((7919 : Int64) * a0.toInt64) + ((6151 : Int64) * a1.toInt64)) + (1 : Int64)) * ((((7919 : Int64) * a0.toInt64) + ((6151 : Int64) * a1.toInt64)) + (1 : Int64))) - (((((7919 : Int64) * a0.toInt64) + ((6151 : Int64) * a1.toInt64)) + (1 : Int64)) * ((((7919 : Int64) * a0.toInt64) + ((6151 : Int64) * a1.toInt64)) + (1 : Int64))) / (65521 : Int64) * (65521 : Int64)) / (10 : Int64) * (10 : Int64)).toInt32) hx hb dX7_drawOf_27 rfl ?_
    exact W.iret hx hb hr (fun t ht _ => ⟨_, rfl, Option.some.inj h, ht.trans hH⟩) (fun q h => by cases h) dX7_drawOf_28 hlocks
  exact key s.heap hP rfl
theorem kw_X7_caughtBy_1 : (.fieldLink RX7 19 "BellTheCat" "told" "LBellTheCat$House;" : Cond) ∈ wsX7_caughtBy := List.mem_of_getElem? (i := 1) rfl
theorem kw_X7_caughtBy_2 : (.fieldLink RX7 178 "BellTheCat$House" "stepCount" "I" : Cond) ∈ wsX7_caughtBy := List.mem_of_getElem? (i := 2) rfl
theorem kw_X7_caughtBy_3 : (.fieldLink RX7 29 "BellTheCat" "now" "LBellTheCat$Team;" : Cond) ∈ wsX7_caughtBy := List.mem_of_getElem? (i := 3) rfl
theorem in_X7_caughtBy_X0 : ∀ w ∈ wsX00, w ∈ wsX7_caughtBy := fun w h => List.mem_cons_of_mem _ (List.mem_append_left _ (List.mem_append_right _ h))
theorem in_X7_caughtBy_X7 : ∀ w ∈ wsX70, w ∈ wsX7_caughtBy := fun w h => List.mem_cons_of_mem _ (List.mem_append_left _ (List.mem_append_left _ (List.mem_append_right _ h)))
abbrev rm_X7_caughtBy : Room := { frames := 3, cells := 0, slots := 0, locals := 109 }
set_option maxHeartbeats 4000000 in
set_option maxRecDepth 100000 in
theorem c_X7_caughtBy (l : Launch) (D : va_G) (cyI cyZ cyT : ClassId) (qa : Nat → Nat) (N : Nat) (a1 : Int32) (X : BX) (o : Int32) (hf : f_X7_caughtBy N a1 X = some o) : Met l yX7_caughtBy wsX7_caughtBy rm_X7_caughtBy (va_Pc [.ref (qa 0), .int a1] (jB D cyI cyZ cyT (wX cyI cyZ cyT qa X))) (jSi o) 0 0 (fun _ => False) := by
  refine Met.ofW (cc := cX7_caughtBy) (maxL := 4) (ret := (some .int)) (by decide) rfl ?_
  intro p e s m args below meth c s₁ B hml hv
  obtain ⟨rfl, hP, hK⟩ := hv
  have hx := B.exec
  have hb := B.bytes
  have hr := B.returns
  have hts := atoms_spec (ws := wsX7_caughtBy) B.pre
  have hown : s.vm.findClass RX7 = some m.cls := findClass_of_methodNamed B.named
  have hlocks := B.notSynchronized
  have hl := lv_entry ([.ref (qa 0), .int a1]) (n := 4) (Nat.le_of_ble_eq_true rfl)
  rw [lg_entry_eq]
  generalize (lg_sl ([.ref (qa 0), .int a1]) ++ List.replicate (4 - (lg_sl ([.ref (qa 0), .int a1])).length) Slot.unset).toArray = ls at hl ⊢
  have hl : lv_has ls 4 [(0, .ref (qa 0)), (1, .int a1)] := hl
  clear B
  generalize ([.ref (qa 0), .int a1] : List Value).toArray = args at hts ⊢
  have key : ∀ (H : Heap), va_P D vwCl (wX cyI cyZ cyT qa X) H → H = s.heap → W p l e rm_X7_caughtBy s m args below meth c H [] 0 0 (MQ below (jSi o) args s 0 0 (fun _ => False)) (F0 m 0 ls []) := by
    intro H hP hH
    have h := hf
    unfold f_X7_caughtBy at h
    refine lv_iconst (v := (0 : Int32)) hx hb dX7_caughtBy_0 (by decide) ?_
    refine lv_istore_n (lv' := [(2, .int (0 : Int32)), (0, .ref (qa 0)), (1, .int a1)]) hx hb dX7_caughtBy_1 rfl hl (by decide) rfl (fun ls hl => ?_)
    obtain ⟨r1, hz1, h1_⟩ := jb h
    have hex1 : ∀ e1 : Unit, r1 = .inl e1 → ∀ (ls : Array Slot), lv_has ls 4 [] → W p l e rm_X7_caughtBy s m args below meth c H [] 0 0 (MQ below (jSi o) args s 0 0 (fun _ => False)) (F0 m 47 ls []) := by
      intro e1 he ls hl
      have h := jsl h1_ he
      clear hz1
      refine lv_iconst (v := (-1 : Int32)) hx hb dX7_caughtBy_47 (by decide) ?_
      exact W.iret hx hb hr (fun t ht _ => ⟨_, rfl, Option.some.inj h, ht.trans hH⟩) (fun q h => by cases h) dX7_caughtBy_48 hlocks
    have hlp1 : ∀ (nn : Nat) (z1 : Int32), jw (X7_caughtBy_s2 a1 X) nn z1 = some r1 → ∀ (ls : Array Slot), lv_has ls 4 [(0, .ref (qa 0)), (1, .int a1), (2, .int z1)] → W p l e rm_X7_caughtBy s m args below meth c H [] 0 0 (MQ below (jSi o) args s 0 0 (fun _ => False)) (F0 m 2 ls []) := by
      refine jw_P (r := r1) (P := fun z1 : Int32 => ∀ (ls : Array Slot), lv_has ls 4 [(0, .ref (qa 0)), (1, .int a1), (2, .int z1)] → W p l e rm_X7_caughtBy s m args below meth c H [] 0 0 (MQ below (jSi o) args s 0 0 (fun _ => False)) (F0 m 2 ls [])) ?_
      intro z1 x1 h hin hout ls hl
      unfold X7_caughtBy_s2 at h
      refine lv_iload_n hx hb dX7_caughtBy_2 rfl (lv_at hl 2 rfl) ?_
      refine lv_aload_n hx hb dX7_caughtBy_3 rfl (lv_at hl 0 rfl) ?_
      refine va_get (D := D) (ci := 7) (v := .ref (qa 4)) (C := RX7) (T := TX7) (N := 10) hx hb hts in_X7_caughtBy_X7 hown hK.1 hP 0 rfl rfl 1 (by decide) (hts _ kw_X7_caughtBy_1) (fun _ h9 => h9) rfl dX7_caughtBy_4 ?_
      refine va_get (D := D) (ci := 0) (v := .int ((X.1 1).2 1)) (C := RX0) (T := TX0) (N := 12) hx hb hts in_X7_caughtBy_X0 hown hK.1 hP 4 rfl rfl 9 (by decide) (hts _ kw_X7_caughtBy_2) (fun _ h9 => h9) rfl dX7_caughtBy_7 ?_
      refine lv_icmp_ge (tgt := 47) hx hb dX7_caughtBy_10 (by decide) (fun c2 => ?_) (fun c2 => ?_)
      · have h := jt c2 h
        exact hex1 _ (hout _ (Option.some.inj h).symm).symm ls (lv_sub hl [] rfl)
      · have h := jf c2 h
        refine lv_aload_n hx hb dX7_caughtBy_13 rfl (lv_at hl 0 rfl) ?_
        refine va_get (D := D) (ci := 7) (v := .ref (qa 22)) (C := RX7) (T := TX7) (N := 10) hx hb hts in_X7_caughtBy_X7 hown hK.1 hP 0 rfl rfl 3 (by decide) (hts _ kw_X7_caughtBy_3) (fun _ h9 => h9) rfl dX7_caughtBy_14 ?_
        refine lv_iload_n hx hb dX7_caughtBy_17 rfl (lv_at hl 2 rfl) ?_
        obtain ⟨z3, hz3, h⟩ := jb h
        refine jki (jrV (As := [.int z1]) (rest := []) ⟨hx, hb, hml, hown, hts⟩ (c_X4_doerOf l D cyI cyZ cyT (fun k => qa (22 + k))  z1 (X.1 3) z3 hz3) (cwV 1 hts gX7_caughtBy_X4_doerOf rfl rfl rfl (by decide +kernel) ⟨Nat.le_of_ble_eq_true rfl, Nat.le_of_ble_eq_true rfl⟩) hK (hP.sub (ws' := wT cyI (fun k => qa (22 + k)) (X.1 3)) [22, 23] rfl) rfl 4 0 rfl rfl rfl hl.1 (Nat.le_of_ble_eq_true rfl) dX7_caughtBy_18 ⟨Nat.le_of_ble_eq_true rfl, Nat.le_of_ble_eq_true rfl⟩) ?_
        clear hz3
        refine lv_istore_n (lv' := [(3, .int z3), (0, .ref (qa 0)), (1, .int a1), (2, .int z1)]) hx hb dX7_caughtBy_21 rfl hl (by decide) rfl (fun ls hl => ?_)
        refine lv_iload_n hx hb dX7_caughtBy_22 rfl (lv_at hl 2 rfl) ?_
        refine lv_iload_n hx hb dX7_caughtBy_23 rfl (lv_at hl 3 rfl) ?_
        obtain ⟨z4, hz4, h⟩ := jb h
        refine jki (jrS (As := [.int a1, .int z1]) (rest := []) ⟨hx, hb, hml, hown, hts⟩ (c_X7_drawOf l D cyI cyZ cyT   a1 z1 z4 hz4) (va_cwS 2 hts gX7_caughtBy_X7_drawOf rfl rfl rfl (by decide +kernel) ⟨Nat.le_of_ble_eq_true rfl, Nat.le_of_ble_eq_true rfl⟩) hK jP0 rfl rfl hl.1 (Nat.le_of_ble_eq_true rfl) dX7_caughtBy_24 ⟨Nat.le_of_ble_eq_true rfl, Nat.le_of_ble_eq_true rfl⟩) ?_
        clear hz4
        refine lv_aload_n hx hb dX7_caughtBy_27 rfl (lv_at hl 1 rfl) ?_
        refine va_get (D := D) (ci := 7) (v := .ref (qa 4)) (C := RX7) (T := TX7) (N := 10) hx hb hts in_X7_caughtBy_X7 hown hK.1 hP 0 rfl rfl 1 (by decide) (hts _ kw_X7_caughtBy_1) (fun _ h9 => h9) rfl dX7_caughtBy_28 ?_
        refine lv_iload_n hx hb dX7_caughtBy_31 rfl (lv_at hl 3 rfl) ?_
        refine lv_iload_n hx hb dX7_caughtBy_32 rfl (lv_at hl 0 rfl) ?_
        obtain ⟨z5, hz5, h⟩ := jb h
        refine jki (jrV (As := [.int z1, .int z3]) (rest := [.int z4]) ⟨hx, hb, hml, hown, hts⟩ (c_X0_dangerAt l D cyI cyZ cyT (fun k => qa (4 + k))  z1 z3 (X.1 1) z5 hz5) (cwV 2 hts gX7_caughtBy_X0_dangerAt rfl rfl rfl (by decide +kernel) ⟨Nat.le_of_ble_eq_true rfl, Nat.le_of_ble_eq_true rfl⟩) hK (hP.sub (ws' := wH cyI (fun k => qa (4 + k)) (X.1 1)) [4, 5, 6, 7, 8, 9, 10, 11, 12] rfl) rfl 0 0 rfl rfl rfl hl.1 (Nat.le_of_ble_eq_true rfl) dX7_caughtBy_33 ⟨Nat.le_of_ble_eq_true rfl, Nat.le_of_ble_eq_true rfl⟩) ?_
        clear hz5
        refine lv_icmp_ge (tgt := 41) hx hb dX7_caughtBy_36 (by decide) (fun c6 => ?_) (fun c6 => ?_)
        · have h := jt c6 h
          refine lv_iinc (v := z1 + (1 : Int32)) (lv' := [(2, .int (z1 + (1 : Int32))), (3, .int z3), (0, .ref (qa 0)), (1, .int a1)]) hx hb dX7_caughtBy_41 hl (k := 3) rfl rfl (by decide) rfl (fun ls hl => ?_)
          refine lv_goto (tgt := 2) hx hb dX7_caughtBy_44 (by decide) ?_
          exact hin _ (Option.some.inj h).symm ls (lv_sub hl [2, 3, 0] rfl)
        · have h := jf c6 h
          refine lv_iload_n hx hb dX7_caughtBy_39 rfl (lv_at hl 0 rfl) ?_
          have h := jsr h1_ (hout _ (Option.some.inj h).symm).symm
          exact W.iret hx hb hr (fun t ht _ => ⟨_, rfl, Option.some.inj h, ht.trans hH⟩) (fun q h => by cases h) dX7_caughtBy_40 hlocks
    exact hlp1 _ _ hz1 ls (lv_sub hl [1, 2, 0] rfl)
  exact key s.heap hP rfl
theorem kw_X7_clear_1 : (.fieldLink RX7 36 "BellTheCat" "latest" "LBellTheCat$Undo;" : Cond) ∈ wsX7_clear := List.mem_of_getElem? (i := 1) rfl
theorem kw_X7_clear_2 : (.fieldLink RX7 29 "BellTheCat" "now" "LBellTheCat$Team;" : Cond) ∈ wsX7_clear := List.mem_of_getElem? (i := 2) rfl
theorem in_X7_clear_X7 : ∀ w ∈ wsX70, w ∈ wsX7_clear := fun w h => List.mem_cons_of_mem _ (List.mem_append_left _ (List.mem_append_left _ (List.mem_append_right _ h)))
abbrev rm_X7_clear : Room := { frames := 2, cells := 0, slots := 0, locals := 85 }
set_option maxHeartbeats 4000000 in
set_option maxRecDepth 100000 in
theorem c_X7_clear (l : Launch) (D : va_G) (cyI cyZ cyT : ClassId) (qa : Nat → Nat) (sz : Nat) (N : Nat) (X : BX) (o : (Int32 × BX)) (hf : f_X7_clear N X = some o) : Met l yX7_clear wsX7_clear rm_X7_clear (va_Pc [.ref (qa 0)] (jM D cyI cyZ cyT (wX cyI cyZ cyT qa X) sz)) (jQi D (va_A (wX cyI cyZ cyT qa X) sz) (fun u : BX => wX cyI cyZ cyT qa u) o) 0 0 (va_A (wX cyI cyZ cyT qa X) sz) := by
  refine Met.ofW (cc := cX7_clear) (maxL := 2) (ret := (some .int)) (by decide) rfl ?_
  intro p e s m args below meth c s₁ B hml hv
  obtain ⟨rfl, hsz, hP, hK, hD0⟩ := hv
  have hx := B.exec
  have hb := B.bytes
  have hr := B.returns
  have hts := atoms_spec (ws := wsX7_clear) B.pre
  have hown : s.vm.findClass RX7 = some m.cls := findClass_of_methodNamed B.named
  have hlocks := B.notSynchronized
  subst hsz
  have hD := hD0.self (sz := s.heap.size)
  generalize hAe : va_A (wX cyI cyZ cyT qa X) s.heap.size = A at hD ⊢
  have hA : ∀ q : Nat, s.heap.size ≤ q → A q := fun q h => by rw [← hAe]; exact Or.inr h
  have hS : va_S A s.heap s.heap [] := va_S.rf
  have hl := lv_entry ([.ref (qa 0)]) (n := 2) (Nat.le_of_ble_eq_true rfl)
  rw [lg_entry_eq]
  generalize (lg_sl ([.ref (qa 0)]) ++ List.replicate (2 - (lg_sl ([.ref (qa 0)])).length) Slot.unset).toArray = ls at hl ⊢
  have hl : lv_has ls 2 [(0, .ref (qa 0))] := hl
  clear B
  generalize ([.ref (qa 0)] : List Value).toArray = args at hts ⊢
  have key : ∀ (H : Heap) (locs : List Loc), va_P D vwCl (wX cyI cyZ cyT qa X) H → va_D A (wX cyI cyZ cyT qa X) → va_S A s.heap H locs → W p l e rm_X7_clear s m args below meth c H locs 0 0 (MQ below (jQi D A (fun u : BX => wX cyI cyZ cyT qa u) o) args s 0 0 A) (F0 m 0 ls []) := by
    intro H locs hP hD hS
    have h := hf
    unfold f_X7_clear at h
    refine lv_aload_n hx hb dX7_clear_0 rfl (lv_at hl 0 rfl) ?_
    refine va_get (D := D) (ci := 7) (v := .ref (qa 24)) (C := RX7) (T := TX7) (N := 10) hx hb hts in_X7_clear_X7 hown hK.1 hP 0 rfl rfl 4 (by decide) (hts _ kw_X7_clear_1) (fun _ h9 => h9) rfl dX7_clear_1 ?_
    refine lv_aload_n hx hb dX7_clear_4 rfl (lv_at hl 0 rfl) ?_
    refine va_get (D := D) (ci := 7) (v := .ref (qa 22)) (C := RX7) (T := TX7) (N := 10) hx hb hts in_X7_clear_X7 hown hK.1 hP 0 rfl rfl 3 (by decide) (hts _ kw_X7_clear_2) (fun _ h9 => h9) rfl dX7_clear_5 ?_
    obtain ⟨z1, hz1, h⟩ := jb h
    refine jgv (w1 := fun u : (Mo × (Nat → Mo)) => wU cyI cyT (fun k => qa (24 + k)) u.1 u.2 ++ wT cyI (fun k => qa (22 + k)) (X.1 3)) (wn := wX cyI cyZ cyT qa (va_up X.1 4 z1.1, z1.2, X.2.2.1, X.2.2.2)) (jmV (As := [.ref (qa 22)]) (rest := []) ⟨hx, hb, hml, hown, hts⟩ (c_X6_remember l D cyI cyZ cyT (fun k => qa (24 + k)) (fun k => qa (22 + k)) H.size N (X.1 4) X.2.1 (X.1 3) z1 hz1) (cwV 1 hts gX7_clear_X6_remember rfl rfl rfl (by decide +kernel) ⟨Nat.le_of_ble_eq_true rfl, Nat.le_of_ble_eq_true rfl⟩) hK (hP.sub (ws' := wU cyI cyT (fun k => qa (24 + k)) (X.1 4) X.2.1 ++ wT cyI (fun k => qa (22 + k)) (X.1 3)) [24, 25, 26, 27, 28, 29, 30, 31, 32, 33, 34, 35, 36, 37, 38, 39, 40, 41, 22, 23] rfl) (hD.sub (ws' := wU cyI cyT (fun k => qa (24 + k)) (X.1 4) X.2.1 ++ wT cyI (fun k => qa (22 + k)) (X.1 3)) [24, 25, 26, 27, 28, 29, 30, 31, 32, 33, 34, 35, 36, 37, 38, 39, 40, 41, 22, 23] (by decide) rfl) rfl 6 0 rfl rfl rfl hl.1 (Nat.le_of_ble_eq_true rfl) dX7_clear_8 ⟨Nat.le_of_ble_eq_true rfl, Nat.le_of_ble_eq_true rfl⟩) hP hD hS hA [24, 25, 26, 27, 28, 29, 30, 31, 32, 33, 34, 35, 36, 37, 38, 39, 40, 41, 22, 23] [0, 1, 2, 3, 4, 5, 6, 7, 8, 9, 10, 11, 12, 13, 14, 15, 16, 17, 18, 19, 20, 21, 42, 43, 44, 45, 46, 47, 48, 49, 50, 51, 52, 53, 54] [0, 1, 2, 3, 4, 5, 6, 7, 8, 9, 10, 11, 12, 13, 14, 15, 16, 17, 18, 19, 20, 21, 53, 54, 35, 36, 37, 38, 39, 40, 41, 42, 43, 44, 45, 46, 47, 48, 49, 50, 51, 52, 22, 23, 24, 25, 26, 27, 28, 29, 30, 31, 32, 33, 34] rfl rfl (by decide) (by decide) rfl (by decide) (fun H locs hP hD hS => ?_)
    clear hz1
    refine lv_aload_n hx hb dX7_clear_11 rfl (lv_at hl 0 rfl) ?_
    refine va_get (D := D) (ci := 7) (v := .ref (qa 22)) (C := RX7) (T := TX7) (N := 10) hx hb hts in_X7_clear_X7 hown hK.1 hP 0 rfl rfl 3 (by decide) (hts _ kw_X7_clear_2) (fun _ h9 => h9) rfl dX7_clear_12 ?_
    obtain ⟨z2, hz2, h⟩ := jb h
    refine jki (jrV (As := []) (rest := []) ⟨hx, hb, hml, hown, hts⟩ (c_X4_filledSteps l D cyI cyZ cyT (fun k => qa (22 + k))  N (X.1 3) z2 hz2) (cwV 0 hts gX7_clear_X4_filledSteps rfl rfl rfl (by decide +kernel) ⟨Nat.le_of_ble_eq_true rfl, Nat.le_of_ble_eq_true rfl⟩) hK (hP.sub (ws' := wT cyI (fun k => qa (22 + k)) (X.1 3)) [22, 23] rfl) rfl 4 0 rfl rfl rfl hl.1 (Nat.le_of_ble_eq_true rfl) dX7_clear_15 ⟨Nat.le_of_ble_eq_true rfl, Nat.le_of_ble_eq_true rfl⟩) ?_
    clear hz2
    refine lv_istore_n (lv' := [(1, .int z2), (0, .ref (qa 0))]) hx hb dX7_clear_18 rfl hl (by decide) rfl (fun ls hl => ?_)
    refine lv_aload_n hx hb dX7_clear_19 rfl (lv_at hl 1 rfl) ?_
    refine va_get (D := D) (ci := 7) (v := .ref (qa 22)) (C := RX7) (T := TX7) (N := 10) hx hb hts in_X7_clear_X7 hown hK.1 hP 0 rfl rfl 3 (by decide) (hts _ kw_X7_clear_2) (fun _ h9 => h9) rfl dX7_clear_20 ?_
    obtain ⟨z3, hz3, h⟩ := jb h
    refine jgv (w1 := fun u : Mo => wT cyI (fun k => qa (22 + k)) u) (wn := wX cyI cyZ cyT qa (va_up (va_up X.1 3 z3) 4 z1.1, z1.2, X.2.2.1, X.2.2.2)) (jmV (As := []) (rest := []) ⟨hx, hb, hml, hown, hts⟩ (c_X4_dismiss l D cyI cyZ cyT (fun k => qa (22 + k)) H.size N (X.1 3) z3 hz3) (cwV 0 hts gX7_clear_X4_dismiss rfl rfl rfl (by decide +kernel) ⟨Nat.le_of_ble_eq_true rfl, Nat.le_of_ble_eq_true rfl⟩) hK (hP.sub (ws' := wT cyI (fun k => qa (22 + k)) (X.1 3)) [22, 23] rfl) (hD.sub (ws' := wT cyI (fun k => qa (22 + k)) (X.1 3)) [22, 23] (by decide) rfl) rfl 4 0 rfl rfl rfl hl.1 (Nat.le_of_ble_eq_true rfl) dX7_clear_23 ⟨Nat.le_of_ble_eq_true rfl, Nat.le_of_ble_eq_true rfl⟩) hP hD hS hA [22, 23] [0, 1, 2, 3, 4, 5, 6, 7, 8, 9, 10, 11, 12, 13, 14, 15, 16, 17, 18, 19, 20, 21, 24, 25, 26, 27, 28, 29, 30, 31, 32, 33, 34, 35, 36, 37, 38, 39, 40, 41, 42, 43, 44, 45, 46, 47, 48, 49, 50, 51, 52, 53, 54] [0, 1, 2, 3, 4, 5, 6, 7, 8, 9, 10, 11, 12, 13, 14, 15, 16, 17, 18, 19, 20, 21, 53, 54, 22, 23, 24, 25, 26, 27, 28, 29, 30, 31, 32, 33, 34, 35, 36, 37, 38, 39, 40, 41, 42, 43, 44, 45, 46, 47, 48, 49, 50, 51, 52] rfl rfl (by decide) (by decide) rfl (by decide) (fun H locs hP hD hS => ?_)
    clear hz3
    refine lv_iload_n hx hb dX7_clear_26 rfl (lv_at hl 0 rfl) ?_
    exact W.iret hx hb hr (fun t ht _ => ⟨⟨_, _, rfl, Option.some.inj h, by rw [ht]; exact hP, hD⟩, hS.F ht⟩) hS.2.2 dX7_clear_27 hlocks
  exact key s.heap [] hP hD hS
theorem kw_X7_count_1 : (.fieldLink RX7 19 "BellTheCat" "told" "LBellTheCat$House;" : Cond) ∈ wsX7_count := List.mem_of_getElem? (i := 1) rfl
theorem kw_X7_count_2 : (.fieldLink RX7 89 "BellTheCat$House" "miceCount" "I" : Cond) ∈ wsX7_count := List.mem_of_getElem? (i := 2) rfl
theorem kw_X7_count_3 : (.fieldLink RX7 178 "BellTheCat$House" "stepCount" "I" : Cond) ∈ wsX7_count := List.mem_of_getElem? (i := 3) rfl
theorem kw_X7_count_4 : (.fieldLink RX7 262 "BellTheCat$House" "ratCount" "I" : Cond) ∈ wsX7_count := List.mem_of_getElem? (i := 4) rfl
theorem kw_X7_count_5 : (.fieldLink RX7 259 "BellTheCat$House" "gain" "I" : Cond) ∈ wsX7_count := List.mem_of_getElem? (i := 5) rfl
theorem kw_X7_count_6 : (.fieldLink RX7 29 "BellTheCat" "now" "LBellTheCat$Team;" : Cond) ∈ wsX7_count := List.mem_of_getElem? (i := 6) rfl
theorem kw_X7_count_7 : (.fieldLink RX7 184 "BellTheCat$Team" "nights" "I" : Cond) ∈ wsX7_count := List.mem_of_getElem? (i := 7) rfl
theorem kw_X7_count_8 : (.fieldLink RX7 223 "BellTheCat$Team" "living" "I" : Cond) ∈ wsX7_count := List.mem_of_getElem? (i := 8) rfl
theorem kw_X7_count_9 : (.fieldLink RX7 174 "BellTheCat$Team" "belled" "Z" : Cond) ∈ wsX7_count := List.mem_of_getElem? (i := 9) rfl
theorem kw_X7_count_10 : (.fieldLink RX7 51 "BellTheCat" "sightings" "LBellTheCat$Sightings;" : Cond) ∈ wsX7_count := List.mem_of_getElem? (i := 10) rfl
theorem kw_X7_count_11 : (.fieldLink RX7 99 "BellTheCat$Sightings" "size" "I" : Cond) ∈ wsX7_count := List.mem_of_getElem? (i := 11) rfl
theorem kw_X7_count_12 : (.fieldLink RX7 36 "BellTheCat" "latest" "LBellTheCat$Undo;" : Cond) ∈ wsX7_count := List.mem_of_getElem? (i := 12) rfl
theorem kw_X7_count_13 : (.fieldLink RX7 96 "BellTheCat$Undo" "depth" "I" : Cond) ∈ wsX7_count := List.mem_of_getElem? (i := 13) rfl
theorem kw_X7_count_14 : (.fieldLink RX7 10 "BellTheCat" "text" "LBellTheCat$Text;" : Cond) ∈ wsX7_count := List.mem_of_getElem? (i := 14) rfl
theorem kw_X7_count_15 : (.fieldLink RX7 77 "BellTheCat$Text" "length" "I" : Cond) ∈ wsX7_count := List.mem_of_getElem? (i := 15) rfl
theorem in_X7_count_X0 : ∀ w ∈ wsX00, w ∈ wsX7_count := fun w h => List.mem_cons_of_mem _ (List.mem_append_left _ (List.mem_append_left _ (List.mem_append_left _ (List.mem_append_left _ (List.mem_append_right _ h)))))
theorem in_X7_count_X3 : ∀ w ∈ wsX30, w ∈ wsX7_count := fun w h => List.mem_cons_of_mem _ (List.mem_append_left _ (List.mem_append_left _ (List.mem_append_right _ h)))
theorem in_X7_count_X4 : ∀ w ∈ wsX40, w ∈ wsX7_count := fun w h => List.mem_cons_of_mem _ (List.mem_append_left _ (List.mem_append_left _ (List.mem_append_left _ (List.mem_append_right _ h))))
theorem in_X7_count_X5 : ∀ w ∈ wsX50, w ∈ wsX7_count := fun w h => List.mem_cons_of_mem _ (List.mem_append_right _ h)
theorem in_X7_count_X6 : ∀ w ∈ wsX60, w ∈ wsX7_count := fun w h => List.mem_cons_of_mem _ (List.mem_append_left _ (List.mem_append_right _ h))
theorem in_X7_count_X7 : ∀ w ∈ wsX70, w ∈ wsX7_count := fun w h => List.mem_cons_of_mem _ (List.mem_append_left _ (List.mem_append_left _ (List.mem_append_left _ (List.mem_append_left _ (List.mem_append_left _ (List.mem_append_right _ h))))))
abbrev rm_X7_count : Room := { frames := 1, cells := 0, slots := 0, locals := 22 }
set_option maxHeartbeats 4000000 in
set_option maxRecDepth 100000 in
theorem c_X7_count (l : Launch) (D : va_G) (cyI cyZ cyT : ClassId) (qa : Nat → Nat) (N : Nat) (a1 : Int32) (X : BX) (o : Int32) (hf : f_X7_count N a1 X = some o) : Met l yX7_count wsX7_count rm_X7_count (va_Pc [.ref (qa 0), .int a1] (jB D cyI cyZ cyT (wX cyI cyZ cyT qa X))) (jSi o) 0 0 (fun _ => False) := by
  refine Met.ofW (cc := cX7_count) (maxL := 2) (ret := (some .int)) (by decide) rfl ?_
  intro p e s m args below meth c s₁ B hml hv
  obtain ⟨rfl, hP, hK⟩ := hv
  have hx := B.exec
  have hb := B.bytes
  have hr := B.returns
  have hts := atoms_spec (ws := wsX7_count) B.pre
  have hown : s.vm.findClass RX7 = some m.cls := findClass_of_methodNamed B.named
  have hlocks := B.notSynchronized
  have hl := lv_entry ([.ref (qa 0), .int a1]) (n := 2) (Nat.le_of_ble_eq_true rfl)
  rw [lg_entry_eq]
  generalize (lg_sl ([.ref (qa 0), .int a1]) ++ List.replicate (2 - (lg_sl ([.ref (qa 0), .int a1])).length) Slot.unset).toArray = ls at hl ⊢
  have hl : lv_has ls 2 [(0, .ref (qa 0)), (1, .int a1)] := hl
  clear B
  generalize ([.ref (qa 0), .int a1] : List Value).toArray = args at hts ⊢
  have key : ∀ (H : Heap), va_P D vwCl (wX cyI cyZ cyT qa X) H → H = s.heap → W p l e rm_X7_count s m args below meth c H [] 0 0 (MQ below (jSi o) args s 0 0 (fun _ => False)) (F0 m 0 ls []) := by
    intro H hP hH
    have h := hf
    unfold f_X7_count at h
    refine lv_iload_n hx hb dX7_count_0 rfl (lv_at hl 1 rfl) ?_
    by_cases c1 : a1 = (0 : Int32)
    · have h := jt c1 h
      refine lv_tableIn (off := 59) (tgt := 60) hx hb dX7_count_1 (by rw [c1]; decide) (by rw [c1]; decide) (by rw [c1]; rfl) (by decide) ?_
      refine lv_aload_n hx hb dX7_count_60 rfl (lv_at hl 0 rfl) ?_
      refine va_get (D := D) (ci := 7) (v := .ref (qa 4)) (C := RX7) (T := TX7) (N := 10) hx hb hts in_X7_count_X7 hown hK.1 hP 0 rfl rfl 1 (by decide) (hts _ kw_X7_count_1) (fun _ h9 => h9) rfl dX7_count_61 ?_
      refine va_get (D := D) (ci := 0) (v := .int ((X.1 1).2 0)) (C := RX0) (T := TX0) (N := 12) hx hb hts in_X7_count_X0 hown hK.1 hP 4 rfl rfl 8 (by decide) (hts _ kw_X7_count_2) (fun _ h9 => h9) rfl dX7_count_64 ?_
      exact W.iret hx hb hr (fun t ht _ => ⟨_, rfl, Option.some.inj h, ht.trans hH⟩) (fun q h => by cases h) dX7_count_67 hlocks
    have h := jf c1 h
    by_cases c2 : a1 = (1 : Int32)
    · have h := jt c2 h
      refine lv_tableIn (off := 67) (tgt := 68) hx hb dX7_count_1 (by rw [c2]; decide) (by rw [c2]; decide) (by rw [c2]; rfl) (by decide) ?_
      refine lv_aload_n hx hb dX7_count_68 rfl (lv_at hl 0 rfl) ?_
      refine va_get (D := D) (ci := 7) (v := .ref (qa 4)) (C := RX7) (T := TX7) (N := 10) hx hb hts in_X7_count_X7 hown hK.1 hP 0 rfl rfl 1 (by decide) (hts _ kw_X7_count_1) (fun _ h9 => h9) rfl dX7_count_69 ?_
      refine va_get (D := D) (ci := 0) (v := .int ((X.1 1).2 1)) (C := RX0) (T := TX0) (N := 12) hx hb hts in_X7_count_X0 hown hK.1 hP 4 rfl rfl 9 (by decide) (hts _ kw_X7_count_3) (fun _ h9 => h9) rfl dX7_count_72 ?_
      exact W.iret hx hb hr (fun t ht _ => ⟨_, rfl, Option.some.inj h, ht.trans hH⟩) (fun q h => by cases h) dX7_count_75 hlocks
    have h := jf c2 h
    by_cases c3 : a1 = (2 : Int32)
    · have h := jt c3 h
      refine lv_tableIn (off := 75) (tgt := 76) hx hb dX7_count_1 (by rw [c3]; decide) (by rw [c3]; decide) (by rw [c3]; rfl) (by decide) ?_
      refine lv_aload_n hx hb dX7_count_76 rfl (lv_at hl 0 rfl) ?_
      refine va_get (D := D) (ci := 7) (v := .ref (qa 4)) (C := RX7) (T := TX7) (N := 10) hx hb hts in_X7_count_X7 hown hK.1 hP 0 rfl rfl 1 (by decide) (hts _ kw_X7_count_1) (fun _ h9 => h9) rfl dX7_count_77 ?_
      refine va_get (D := D) (ci := 0) (v := .int ((X.1 1).2 2)) (C := RX0) (T := TX0) (N := 12) hx hb hts in_X7_count_X0 hown hK.1 hP 4 rfl rfl 10 (by decide) (hts _ kw_X7_count_4) (fun _ h9 => h9) rfl dX7_count_80 ?_
      exact W.iret hx hb hr (fun t ht _ => ⟨_, rfl, Option.some.inj h, ht.trans hH⟩) (fun q h => by cases h) dX7_count_83 hlocks
    have h := jf c3 h
    by_cases c4 : a1 = (3 : Int32)
    · have h := jt c4 h
      refine lv_tableIn (off := 83) (tgt := 84) hx hb dX7_count_1 (by rw [c4]; decide) (by rw [c4]; decide) (by rw [c4]; rfl) (by decide) ?_
      refine lv_aload_n hx hb dX7_count_84 rfl (lv_at hl 0 rfl) ?_
      refine va_get (D := D) (ci := 7) (v := .ref (qa 4)) (C := RX7) (T := TX7) (N := 10) hx hb hts in_X7_count_X7 hown hK.1 hP 0 rfl rfl 1 (by decide) (hts _ kw_X7_count_1) (fun _ h9 => h9) rfl dX7_count_85 ?_
      refine va_get (D := D) (ci := 0) (v := .int ((X.1 1).2 3)) (C := RX0) (T := TX0) (N := 12) hx hb hts in_X7_count_X0 hown hK.1 hP 4 rfl rfl 11 (by decide) (hts _ kw_X7_count_5) (fun _ h9 => h9) rfl dX7_count_88 ?_
      exact W.iret hx hb hr (fun t ht _ => ⟨_, rfl, Option.some.inj h, ht.trans hH⟩) (fun q h => by cases h) dX7_count_91 hlocks
    have h := jf c4 h
    by_cases c5 : a1 = (4 : Int32)
    · have h := jt c5 h
      refine lv_tableIn (off := 91) (tgt := 92) hx hb dX7_count_1 (by rw [c5]; decide) (by rw [c5]; decide) (by rw [c5]; rfl) (by decide) ?_
      refine lv_aload_n hx hb dX7_count_92 rfl (lv_at hl 0 rfl) ?_
      refine va_get (D := D) (ci := 7) (v := .ref (qa 22)) (C := RX7) (T := TX7) (N := 10) hx hb hts in_X7_count_X7 hown hK.1 hP 0 rfl rfl 3 (by decide) (hts _ kw_X7_count_6) (fun _ h9 => h9) rfl dX7_count_93 ?_
      refine va_get (D := D) (ci := 4) (v := .int ((X.1 3).2 0)) (C := RX4) (T := TX4) (N := 4) hx hb hts in_X7_count_X4 hown hK.1 hP 22 rfl rfl 1 (by decide) (hts _ kw_X7_count_7) (fun _ h9 => h9) rfl dX7_count_96 ?_
      exact W.iret hx hb hr (fun t ht _ => ⟨_, rfl, Option.some.inj h, ht.trans hH⟩) (fun q h => by cases h) dX7_count_99 hlocks
    have h := jf c5 h
    by_cases c6 : a1 = (5 : Int32)
    · have h := jt c6 h
      refine lv_tableIn (off := 99) (tgt := 100) hx hb dX7_count_1 (by rw [c6]; decide) (by rw [c6]; decide) (by rw [c6]; rfl) (by decide) ?_
      refine lv_aload_n hx hb dX7_count_100 rfl (lv_at hl 0 rfl) ?_
      refine va_get (D := D) (ci := 7) (v := .ref (qa 22)) (C := RX7) (T := TX7) (N := 10) hx hb hts in_X7_count_X7 hown hK.1 hP 0 rfl rfl 3 (by decide) (hts _ kw_X7_count_6) (fun _ h9 => h9) rfl dX7_count_101 ?_
      refine va_get (D := D) (ci := 4) (v := .int ((X.1 3).2 1)) (C := RX4) (T := TX4) (N := 4) hx hb hts in_X7_count_X4 hown hK.1 hP 22 rfl rfl 2 (by decide) (hts _ kw_X7_count_8) (fun _ h9 => h9) rfl dX7_count_104 ?_
      exact W.iret hx hb hr (fun t ht _ => ⟨_, rfl, Option.some.inj h, ht.trans hH⟩) (fun q h => by cases h) dX7_count_107 hlocks
    have h := jf c6 h
    by_cases c7 : a1 = (6 : Int32)
    · have h := jt c7 h
      refine lv_tableIn (off := 107) (tgt := 108) hx hb dX7_count_1 (by rw [c7]; decide) (by rw [c7]; decide) (by rw [c7]; rfl) (by decide) ?_
      refine lv_aload_n hx hb dX7_count_108 rfl (lv_at hl 0 rfl) ?_
      refine va_get (D := D) (ci := 7) (v := .ref (qa 22)) (C := RX7) (T := TX7) (N := 10) hx hb hts in_X7_count_X7 hown hK.1 hP 0 rfl rfl 3 (by decide) (hts _ kw_X7_count_6) (fun _ h9 => h9) rfl dX7_count_109 ?_
      refine va_get (D := D) (ci := 4) (v := .int ((X.1 3).2 2)) (C := RX4) (T := TX4) (N := 4) hx hb hts in_X7_count_X4 hown hK.1 hP 22 rfl rfl 3 (by decide) (hts _ kw_X7_count_9) (fun _ h9 => h9) rfl dX7_count_112 ?_
      refine lv_if_eq (tgt := 122) hx hb dX7_count_115 (by decide) (fun c8 => ?_) (fun c8 => ?_)
      · have h := jt c8 h
        refine lv_iconst (v := (0 : Int32)) hx hb dX7_count_122 (by decide) ?_
        exact W.iret hx hb hr (fun t ht _ => ⟨_, rfl, Option.some.inj h, ht.trans hH⟩) (fun q h => by cases h) dX7_count_123 hlocks
      · have h := jf c8 h
        refine lv_iconst (v := (1 : Int32)) hx hb dX7_count_118 (by decide) ?_
        refine lv_goto (tgt := 123) hx hb dX7_count_119 (by decide) ?_
        exact W.iret hx hb hr (fun t ht _ => ⟨_, rfl, Option.some.inj h, ht.trans hH⟩) (fun q h => by cases h) dX7_count_123 hlocks
    have h := jf c7 h
    by_cases c9 : a1 = (7 : Int32)
    · have h := jt c9 h
      refine lv_tableIn (off := 123) (tgt := 124) hx hb dX7_count_1 (by rw [c9]; decide) (by rw [c9]; decide) (by rw [c9]; rfl) (by decide) ?_
      refine lv_aload_n hx hb dX7_count_124 rfl (lv_at hl 0 rfl) ?_
      refine va_get (D := D) (ci := 7) (v := .ref (qa 22)) (C := RX7) (T := TX7) (N := 10) hx hb hts in_X7_count_X7 hown hK.1 hP 0 rfl rfl 3 (by decide) (hts _ kw_X7_count_6) (fun _ h9 => h9) rfl dX7_count_125 ?_
      obtain ⟨z10, hz10, h⟩ := jb h
      refine jki (jrV (As := []) (rest := []) ⟨hx, hb, hml, hown, hts⟩ (c_X4_filledSteps l D cyI cyZ cyT (fun k => qa (22 + k))  N (X.1 3) z10 hz10) (cwV 0 hts gX7_count_X4_filledSteps rfl rfl rfl (by decide +kernel) ⟨Nat.le_of_ble_eq_true rfl, Nat.le_of_ble_eq_true rfl⟩) hK (hP.sub (ws' := wT cyI (fun k => qa (22 + k)) (X.1 3)) [22, 23] rfl) rfl 4 0 rfl rfl rfl hl.1 (Nat.le_of_ble_eq_true rfl) dX7_count_128 ⟨Nat.le_of_ble_eq_true rfl, Nat.le_of_ble_eq_true rfl⟩) ?_
      clear hz10
      exact W.iret hx hb hr (fun t ht _ => ⟨_, rfl, Option.some.inj h, ht.trans hH⟩) (fun q h => by cases h) dX7_count_131 hlocks
    have h := jf c9 h
    by_cases c11 : a1 = (8 : Int32)
    · have h := jt c11 h
      refine lv_tableIn (off := 131) (tgt := 132) hx hb dX7_count_1 (by rw [c11]; decide) (by rw [c11]; decide) (by rw [c11]; rfl) (by decide) ?_
      refine lv_aload_n hx hb dX7_count_132 rfl (lv_at hl 0 rfl) ?_
      refine va_get (D := D) (ci := 7) (v := .ref (qa 48)) (C := RX7) (T := TX7) (N := 10) hx hb hts in_X7_count_X7 hown hK.1 hP 0 rfl rfl 7 (by decide) (hts _ kw_X7_count_10) (fun _ h9 => h9) rfl dX7_count_133 ?_
      refine va_get (D := D) (ci := 3) (v := .int ((X.1 6).2 0)) (C := RX3) (T := TX3) (N := 3) hx hb hts in_X7_count_X3 hown hK.1 hP 48 rfl rfl 2 (by decide) (hts _ kw_X7_count_11) (fun _ h9 => h9) rfl dX7_count_136 ?_
      exact W.iret hx hb hr (fun t ht _ => ⟨_, rfl, Option.some.inj h, ht.trans hH⟩) (fun q h => by cases h) dX7_count_139 hlocks
    have h := jf c11 h
    by_cases c12 : a1 = (9 : Int32)
    · have h := jt c12 h
      refine lv_tableIn (off := 139) (tgt := 140) hx hb dX7_count_1 (by rw [c12]; decide) (by rw [c12]; decide) (by rw [c12]; rfl) (by decide) ?_
      refine lv_aload_n hx hb dX7_count_140 rfl (lv_at hl 0 rfl) ?_
      refine va_get (D := D) (ci := 7) (v := .ref (qa 24)) (C := RX7) (T := TX7) (N := 10) hx hb hts in_X7_count_X7 hown hK.1 hP 0 rfl rfl 4 (by decide) (hts _ kw_X7_count_12) (fun _ h9 => h9) rfl dX7_count_141 ?_
      refine va_get (D := D) (ci := 6) (v := .int ((X.1 4).2 1)) (C := RX6) (T := TX6) (N := 3) hx hb hts in_X7_count_X6 hown hK.1 hP 24 rfl rfl 2 (by decide) (hts _ kw_X7_count_13) (fun _ h9 => h9) rfl dX7_count_144 ?_
      exact W.iret hx hb hr (fun t ht _ => ⟨_, rfl, Option.some.inj h, ht.trans hH⟩) (fun q h => by cases h) dX7_count_147 hlocks
    have h := jf c12 h
    by_cases c13 : a1 = (10 : Int32)
    · have h := jt c13 h
      refine lv_tableIn (off := 147) (tgt := 148) hx hb dX7_count_1 (by rw [c13]; decide) (by rw [c13]; decide) (by rw [c13]; rfl) (by decide) ?_
      refine lv_aload_n hx hb dX7_count_148 rfl (lv_at hl 0 rfl) ?_
      refine va_get (D := D) (ci := 7) (v := .ref (qa 1)) (C := RX7) (T := TX7) (N := 10) hx hb hts in_X7_count_X7 hown hK.1 hP 0 rfl rfl 0 (by decide) (hts _ kw_X7_count_14) (fun _ h9 => h9) rfl dX7_count_149 ?_
      refine va_get (D := D) (ci := 5) (v := .int ((X.1 0).2 0)) (C := RX5) (T := TX5) (N := 6) hx hb hts in_X7_count_X5 hown hK.1 hP 1 rfl rfl 2 (by decide) (hts _ kw_X7_count_15) (fun _ h9 => h9) rfl dX7_count_152 ?_
      exact W.iret hx hb hr (fun t ht _ => ⟨_, rfl, Option.some.inj h, ht.trans hH⟩) (fun q h => by cases h) dX7_count_155 hlocks
    have h := jf c13 h
    refine lv_tableOut (tgt := 156) hx hb dX7_count_1 (by have d0 := jne (z := 0) rfl c1; have d1 := jne (z := 1) rfl c2; have d2 := jne (z := 2) rfl c3; have d3 := jne (z := 3) rfl c4; have d4 := jne (z := 4) rfl c5; have d5 := jne (z := 5) rfl c6; have d6 := jne (z := 6) rfl c7; have d7 := jne (z := 7) rfl c9; have d8 := jne (z := 8) rfl c11; have d9 := jne (z := 9) rfl c12; have d10 := jne (z := 10) rfl c13; omega) (by decide) ?_
    refine lv_bipush (v := (-3 : Int32)) hx hb dX7_count_156 (by decide) ?_
    exact W.iret hx hb hr (fun t ht _ => ⟨_, rfl, Option.some.inj h, ht.trans hH⟩) (fun q h => by cases h) dX7_count_158 hlocks
  exact key s.heap hP rfl
theorem kw_X7_danger_1 : (.fieldLink RX7 19 "BellTheCat" "told" "LBellTheCat$House;" : Cond) ∈ wsX7_danger := List.mem_of_getElem? (i := 1) rfl
theorem in_X7_danger_X7 : ∀ w ∈ wsX70, w ∈ wsX7_danger := fun w h => List.mem_cons_of_mem _ (List.mem_append_left _ (List.mem_append_right _ h))
abbrev rm_X7_danger : Room := { frames := 3, cells := 0, slots := 0, locals := 109 }
set_option maxHeartbeats 4000000 in
set_option maxRecDepth 100000 in
theorem c_X7_danger (l : Launch) (D : va_G) (cyI cyZ cyT : ClassId) (qa : Nat → Nat) (a1 : Int32) (a2 : Int32) (X : BX) (o : Int32) (hf : f_X7_danger a1 a2 X = some o) : Met l yX7_danger wsX7_danger rm_X7_danger (va_Pc [.ref (qa 0), .int a1, .int a2] (jB D cyI cyZ cyT (wX cyI cyZ cyT qa X))) (jSi o) 0 0 (fun _ => False) := by
  refine Met.ofW (cc := cX7_danger) (maxL := 3) (ret := (some .int)) (by decide) rfl ?_
  intro p e s m args below meth c s₁ B hml hv
  obtain ⟨rfl, hP, hK⟩ := hv
  have hx := B.exec
  have hb := B.bytes
  have hr := B.returns
  have hts := atoms_spec (ws := wsX7_danger) B.pre
  have hown : s.vm.findClass RX7 = some m.cls := findClass_of_methodNamed B.named
  have hlocks := B.notSynchronized
  have hl := lv_entry ([.ref (qa 0), .int a1, .int a2]) (n := 3) (Nat.le_of_ble_eq_true rfl)
  rw [lg_entry_eq]
  generalize (lg_sl ([.ref (qa 0), .int a1, .int a2]) ++ List.replicate (3 - (lg_sl ([.ref (qa 0), .int a1, .int a2])).length) Slot.unset).toArray = ls at hl ⊢
  have hl : lv_has ls 3 [(0, .ref (qa 0)), (1, .int a1), (2, .int a2)] := hl
  clear B
  generalize ([.ref (qa 0), .int a1, .int a2] : List Value).toArray = args at hts ⊢
  have key : ∀ (H : Heap), va_P D vwCl (wX cyI cyZ cyT qa X) H → H = s.heap → W p l e rm_X7_danger s m args below meth c H [] 0 0 (MQ below (jSi o) args s 0 0 (fun _ => False)) (F0 m 0 ls []) := by
    intro H hP hH
    have h := hf
    unfold f_X7_danger at h
    refine lv_aload_n hx hb dX7_danger_0 rfl (lv_at hl 0 rfl) ?_
    refine va_get (D := D) (ci := 7) (v := .ref (qa 4)) (C := RX7) (T := TX7) (N := 10) hx hb hts in_X7_danger_X7 hown hK.1 hP 0 rfl rfl 1 (by decide) (hts _ kw_X7_danger_1) (fun _ h9 => h9) rfl dX7_danger_1 ?_
    refine lv_iload_n hx hb dX7_danger_4 rfl (lv_at hl 1 rfl) ?_
    obtain ⟨z1, hz1, h⟩ := jb h
    refine jki (jrV (As := [.int a1]) (rest := []) ⟨hx, hb, hml, hown, hts⟩ (c_X0_hasStep l D cyI cyZ cyT (fun k => qa (4 + k))  a1 (X.1 1) z1 hz1) (cwV 1 hts gX7_danger_X0_hasStep rfl rfl rfl (by decide +kernel) ⟨Nat.le_of_ble_eq_true rfl, Nat.le_of_ble_eq_true rfl⟩) hK (hP.sub (ws' := wH cyI (fun k => qa (4 + k)) (X.1 1)) [4, 5, 6, 7, 8, 9, 10, 11, 12] rfl) rfl 0 0 rfl rfl rfl hl.1 (Nat.le_of_ble_eq_true rfl) dX7_danger_5 ⟨Nat.le_of_ble_eq_true rfl, Nat.le_of_ble_eq_true rfl⟩) ?_
    clear hz1
    refine lv_if_eq (tgt := 22) hx hb dX7_danger_8 (by decide) (fun c2 => ?_) (fun c2 => ?_)
    · have h := jt c2 h
      refine lv_bipush (v := (-2 : Int32)) hx hb dX7_danger_22 (by decide) ?_
      exact W.iret hx hb hr (fun t ht _ => ⟨_, rfl, Option.some.inj h, ht.trans hH⟩) (fun q h => by cases h) dX7_danger_24 hlocks
    · have h := jf c2 h
      refine lv_aload_n hx hb dX7_danger_11 rfl (lv_at hl 0 rfl) ?_
      refine va_get (D := D) (ci := 7) (v := .ref (qa 4)) (C := RX7) (T := TX7) (N := 10) hx hb hts in_X7_danger_X7 hown hK.1 hP 0 rfl rfl 1 (by decide) (hts _ kw_X7_danger_1) (fun _ h9 => h9) rfl dX7_danger_12 ?_
      refine lv_iload_n hx hb dX7_danger_15 rfl (lv_at hl 2 rfl) ?_
      obtain ⟨z3, hz3, h⟩ := jb h
      refine jki (jrV (As := [.int a2]) (rest := []) ⟨hx, hb, hml, hown, hts⟩ (c_X0_hasMouse l D cyI cyZ cyT (fun k => qa (4 + k))  a2 (X.1 1) z3 hz3) (cwV 1 hts gX7_danger_X0_hasMouse rfl rfl rfl (by decide +kernel) ⟨Nat.le_of_ble_eq_true rfl, Nat.le_of_ble_eq_true rfl⟩) hK (hP.sub (ws' := wH cyI (fun k => qa (4 + k)) (X.1 1)) [4, 5, 6, 7, 8, 9, 10, 11, 12] rfl) rfl 0 0 rfl rfl rfl hl.1 (Nat.le_of_ble_eq_true rfl) dX7_danger_16 ⟨Nat.le_of_ble_eq_true rfl, Nat.le_of_ble_eq_true rfl⟩) ?_
      clear hz3
      refine lv_if_ne (tgt := 25) hx hb dX7_danger_19 (by decide) (fun c4 => ?_) (fun c4 => ?_)
      · have h := jf c4 h
        refine lv_aload_n hx hb dX7_danger_25 rfl (lv_at hl 0 rfl) ?_
        refine va_get (D := D) (ci := 7) (v := .ref (qa 4)) (C := RX7) (T := TX7) (N := 10) hx hb hts in_X7_danger_X7 hown hK.1 hP 0 rfl rfl 1 (by decide) (hts _ kw_X7_danger_1) (fun _ h9 => h9) rfl dX7_danger_26 ?_
        refine lv_iload_n hx hb dX7_danger_29 rfl (lv_at hl 1 rfl) ?_
        refine lv_iload_n hx hb dX7_danger_30 rfl (lv_at hl 2 rfl) ?_
        obtain ⟨z5, hz5, h⟩ := jb h
        refine jki (jrV (As := [.int a1, .int a2]) (rest := []) ⟨hx, hb, hml, hown, hts⟩ (c_X0_dangerAt l D cyI cyZ cyT (fun k => qa (4 + k))  a1 a2 (X.1 1) z5 hz5) (cwV 2 hts gX7_danger_X0_dangerAt rfl rfl rfl (by decide +kernel) ⟨Nat.le_of_ble_eq_true rfl, Nat.le_of_ble_eq_true rfl⟩) hK (hP.sub (ws' := wH cyI (fun k => qa (4 + k)) (X.1 1)) [4, 5, 6, 7, 8, 9, 10, 11, 12] rfl) rfl 0 0 rfl rfl rfl hl.1 (Nat.le_of_ble_eq_true rfl) dX7_danger_31 ⟨Nat.le_of_ble_eq_true rfl, Nat.le_of_ble_eq_true rfl⟩) ?_
        clear hz5
        exact W.iret hx hb hr (fun t ht _ => ⟨_, rfl, Option.some.inj h, ht.trans hH⟩) (fun q h => by cases h) dX7_danger_34 hlocks
      · have h := jt c4 h
        refine lv_bipush (v := (-2 : Int32)) hx hb dX7_danger_22 (by decide) ?_
        exact W.iret hx hb hr (fun t ht _ => ⟨_, rfl, Option.some.inj h, ht.trans hH⟩) (fun q h => by cases h) dX7_danger_24 hlocks
  exact key s.heap hP rfl
theorem kw_X7_ticketsInLot_1 : (.fieldLink RX7 19 "BellTheCat" "told" "LBellTheCat$House;" : Cond) ∈ wsX7_ticketsInLot := List.mem_of_getElem? (i := 1) rfl
theorem kw_X7_ticketsInLot_2 : (.fieldLink RX7 29 "BellTheCat" "now" "LBellTheCat$Team;" : Cond) ∈ wsX7_ticketsInLot := List.mem_of_getElem? (i := 2) rfl
theorem kw_X7_ticketsInLot_3 : (.fieldLink RX7 118 "BellTheCat$House" "tickets" "[I" : Cond) ∈ wsX7_ticketsInLot := List.mem_of_getElem? (i := 3) rfl
theorem in_X7_ticketsInLot_X0 : ∀ w ∈ wsX00, w ∈ wsX7_ticketsInLot := fun w h => List.mem_cons_of_mem _ (List.mem_append_left _ (List.mem_append_right _ h))
theorem in_X7_ticketsInLot_X7 : ∀ w ∈ wsX70, w ∈ wsX7_ticketsInLot := fun w h => List.mem_cons_of_mem _ (List.mem_append_left _ (List.mem_append_left _ (List.mem_append_right _ h)))
abbrev rm_X7_ticketsInLot : Room := { frames := 1, cells := 0, slots := 0, locals := 21 }
set_option maxHeartbeats 4000000 in
set_option maxRecDepth 100000 in
theorem c_X7_ticketsInLot (l : Launch) (D : va_G) (cyI cyZ cyT : ClassId) (qa : Nat → Nat) (a1 : Int32) (X : BX) (o : Int32) (hf : f_X7_ticketsInLot a1 X = some o) : Met l yX7_ticketsInLot wsX7_ticketsInLot rm_X7_ticketsInLot (va_Pc [.ref (qa 0), .int a1] (jB D cyI cyZ cyT (wX cyI cyZ cyT qa X))) (jSi o) 0 0 (fun _ => False) := by
  refine Met.ofW (cc := cX7_ticketsInLot) (maxL := 2) (ret := (some .int)) (by decide) rfl ?_
  intro p e s m args below meth c s₁ B hml hv
  obtain ⟨rfl, hP, hK⟩ := hv
  have hx := B.exec
  have hb := B.bytes
  have hr := B.returns
  have hts := atoms_spec (ws := wsX7_ticketsInLot) B.pre
  have hown : s.vm.findClass RX7 = some m.cls := findClass_of_methodNamed B.named
  have hlocks := B.notSynchronized
  have hl := lv_entry ([.ref (qa 0), .int a1]) (n := 2) (Nat.le_of_ble_eq_true rfl)
  rw [lg_entry_eq]
  generalize (lg_sl ([.ref (qa 0), .int a1]) ++ List.replicate (2 - (lg_sl ([.ref (qa 0), .int a1])).length) Slot.unset).toArray = ls at hl ⊢
  have hl : lv_has ls 2 [(0, .ref (qa 0)), (1, .int a1)] := hl
  clear B
  generalize ([.ref (qa 0), .int a1] : List Value).toArray = args at hts ⊢
  have key : ∀ (H : Heap), va_P D vwCl (wX cyI cyZ cyT qa X) H → H = s.heap → W p l e rm_X7_ticketsInLot s m args below meth c H [] 0 0 (MQ below (jSi o) args s 0 0 (fun _ => False)) (F0 m 0 ls []) := by
    intro H hP hH
    have h := hf
    unfold f_X7_ticketsInLot at h
    refine lv_aload_n hx hb dX7_ticketsInLot_0 rfl (lv_at hl 0 rfl) ?_
    refine va_get (D := D) (ci := 7) (v := .ref (qa 4)) (C := RX7) (T := TX7) (N := 10) hx hb hts in_X7_ticketsInLot_X7 hown hK.1 hP 0 rfl rfl 1 (by decide) (hts _ kw_X7_ticketsInLot_1) (fun _ h9 => h9) rfl dX7_ticketsInLot_1 ?_
    refine lv_iload_n hx hb dX7_ticketsInLot_4 rfl (lv_at hl 1 rfl) ?_
    obtain ⟨z1, hz1, h⟩ := jb h
    refine jki (jrV (As := [.int a1]) (rest := []) ⟨hx, hb, hml, hown, hts⟩ (c_X0_hasMouse l D cyI cyZ cyT (fun k => qa (4 + k))  a1 (X.1 1) z1 hz1) (cwV 1 hts gX7_ticketsInLot_X0_hasMouse rfl rfl rfl (by decide +kernel) ⟨Nat.le_of_ble_eq_true rfl, Nat.le_of_ble_eq_true rfl⟩) hK (hP.sub (ws' := wH cyI (fun k => qa (4 + k)) (X.1 1)) [4, 5, 6, 7, 8, 9, 10, 11, 12] rfl) rfl 0 0 rfl rfl rfl hl.1 (Nat.le_of_ble_eq_true rfl) dX7_ticketsInLot_5 ⟨Nat.le_of_ble_eq_true rfl, Nat.le_of_ble_eq_true rfl⟩) ?_
    clear hz1
    refine lv_if_eq (tgt := 34) hx hb dX7_ticketsInLot_8 (by decide) (fun c2 => ?_) (fun c2 => ?_)
    · have h := jt c2 h
      refine lv_iconst (v := (0 : Int32)) hx hb dX7_ticketsInLot_34 (by decide) ?_
      exact W.iret hx hb hr (fun t ht _ => ⟨_, rfl, Option.some.inj h, ht.trans hH⟩) (fun q h => by cases h) dX7_ticketsInLot_35 hlocks
    · have h := jf c2 h
      refine lv_aload_n hx hb dX7_ticketsInLot_11 rfl (lv_at hl 0 rfl) ?_
      refine va_get (D := D) (ci := 7) (v := .ref (qa 22)) (C := RX7) (T := TX7) (N := 10) hx hb hts in_X7_ticketsInLot_X7 hown hK.1 hP 0 rfl rfl 3 (by decide) (hts _ kw_X7_ticketsInLot_2) (fun _ h9 => h9) rfl dX7_ticketsInLot_12 ?_
      refine lv_iload_n hx hb dX7_ticketsInLot_15 rfl (lv_at hl 1 rfl) ?_
      obtain ⟨z3, hz3, h⟩ := jb h
      refine jki (jrV (As := [.int a1]) (rest := []) ⟨hx, hb, hml, hown, hts⟩ (c_X4_lives l D cyI cyZ cyT (fun k => qa (22 + k))  a1 (X.1 3) z3 hz3) (cwV 1 hts gX7_ticketsInLot_X4_lives rfl rfl rfl (by decide +kernel) ⟨Nat.le_of_ble_eq_true rfl, Nat.le_of_ble_eq_true rfl⟩) hK (hP.sub (ws' := wT cyI (fun k => qa (22 + k)) (X.1 3)) [22, 23] rfl) rfl 4 0 rfl rfl rfl hl.1 (Nat.le_of_ble_eq_true rfl) dX7_ticketsInLot_16 ⟨Nat.le_of_ble_eq_true rfl, Nat.le_of_ble_eq_true rfl⟩) ?_
      clear hz3
      refine lv_if_eq (tgt := 34) hx hb dX7_ticketsInLot_19 (by decide) (fun c4 => ?_) (fun c4 => ?_)
      · have h := jt c4 h
        refine lv_iconst (v := (0 : Int32)) hx hb dX7_ticketsInLot_34 (by decide) ?_
        exact W.iret hx hb hr (fun t ht _ => ⟨_, rfl, Option.some.inj h, ht.trans hH⟩) (fun q h => by cases h) dX7_ticketsInLot_35 hlocks
      · have h := jf c4 h
        refine lv_aload_n hx hb dX7_ticketsInLot_22 rfl (lv_at hl 0 rfl) ?_
        refine va_get (D := D) (ci := 7) (v := .ref (qa 4)) (C := RX7) (T := TX7) (N := 10) hx hb hts in_X7_ticketsInLot_X7 hown hK.1 hP 0 rfl rfl 1 (by decide) (hts _ kw_X7_ticketsInLot_1) (fun _ h9 => h9) rfl dX7_ticketsInLot_23 ?_
        refine va_get (D := D) (ci := 0) (v := .ref (qa 8)) (C := RX0) (T := TX0) (N := 12) hx hb hts in_X7_ticketsInLot_X0 hown hK.1 hP 4 rfl rfl 3 (by decide) (hts _ kw_X7_ticketsInLot_3) (fun _ h9 => h9) rfl dX7_ticketsInLot_26 ?_
        refine lv_iload_n hx hb dX7_ticketsInLot_29 rfl (lv_at hl 1 rfl) ?_
        obtain ⟨g5, h⟩ := jn h
        refine jald hx hb hK hP 8 rfl _ rfl g5 dX7_ticketsInLot_30 ?_
        refine lv_goto (tgt := 35) hx hb dX7_ticketsInLot_31 (by decide) ?_
        exact W.iret hx hb hr (fun t ht _ => ⟨_, rfl, Option.some.inj h, ht.trans hH⟩) (fun q h => by cases h) dX7_ticketsInLot_35 hlocks
  exact key s.heap hP rfl
theorem kw_X7_drawn_1 : (.fieldLink RX7 19 "BellTheCat" "told" "LBellTheCat$House;" : Cond) ∈ wsX7_drawn := List.mem_of_getElem? (i := 1) rfl
theorem kw_X7_drawn_2 : (.fieldLink RX7 89 "BellTheCat$House" "miceCount" "I" : Cond) ∈ wsX7_drawn := List.mem_of_getElem? (i := 2) rfl
theorem in_X7_drawn_X0 : ∀ w ∈ wsX00, w ∈ wsX7_drawn := fun w h => List.mem_cons_of_mem _ (List.mem_append_left _ (List.mem_append_right _ h))
theorem in_X7_drawn_X7 : ∀ w ∈ wsX70, w ∈ wsX7_drawn := fun w h => List.mem_cons_of_mem _ (List.mem_append_left _ (List.mem_append_left _ (List.mem_append_right _ h)))
abbrev rm_X7_drawn : Room := { frames := 2, cells := 0, slots := 0, locals := 56 }
set_option maxHeartbeats 4000000 in
set_option maxRecDepth 100000 in
theorem c_X7_drawn (l : Launch) (D : va_G) (cyI cyZ cyT : ClassId) (qa : Nat → Nat) (N : Nat) (a1 : Int32) (a2 : Int32) (X : BX) (o : Int32) (hf : f_X7_drawn N a1 a2 X = some o) : Met l yX7_drawn wsX7_drawn rm_X7_drawn (va_Pc [.ref (qa 0), .int a1, .int a2] (jB D cyI cyZ cyT (wX cyI cyZ cyT qa X))) (jSi o) 0 0 (fun _ => False) := by
  refine Met.ofW (cc := cX7_drawn) (maxL := 5) (ret := (some .int)) (by decide) rfl ?_
  intro p e s m args below meth c s₁ B hml hv
  obtain ⟨rfl, hP, hK⟩ := hv
  have hx := B.exec
  have hb := B.bytes
  have hr := B.returns
  have hts := atoms_spec (ws := wsX7_drawn) B.pre
  have hown : s.vm.findClass RX7 = some m.cls := findClass_of_methodNamed B.named
  have hlocks := B.notSynchronized
  have hl := lv_entry ([.ref (qa 0), .int a1, .int a2]) (n := 5) (Nat.le_of_ble_eq_true rfl)
  rw [lg_entry_eq]
  generalize (lg_sl ([.ref (qa 0), .int a1, .int a2]) ++ List.replicate (5 - (lg_sl ([.ref (qa 0), .int a1, .int a2])).length) Slot.unset).toArray = ls at hl ⊢
  have hl : lv_has ls 5 [(0, .ref (qa 0)), (1, .int a1), (2, .int a2)] := hl
  clear B
  generalize ([.ref (qa 0), .int a1, .int a2] : List Value).toArray = args at hts ⊢
  have key : ∀ (H : Heap), va_P D vwCl (wX cyI cyZ cyT qa X) H → H = s.heap → W p l e rm_X7_drawn s m args below meth c H [] 0 0 (MQ below (jSi o) args s 0 0 (fun _ => False)) (F0 m 0 ls []) := by
    intro H hP hH
    have h := hf
    unfold f_X7_drawn at h
    refine lv_aload_n hx hb dX7_drawn_0 rfl (lv_at hl 0 rfl) ?_
    refine va_get (D := D) (ci := 7) (v := .ref (qa 4)) (C := RX7) (T := TX7) (N := 10) hx hb hts in_X7_drawn_X7 hown hK.1 hP 0 rfl rfl 1 (by decide) (hts _ kw_X7_drawn_1) (fun _ h9 => h9) rfl dX7_drawn_1 ?_
    refine lv_iload_n hx hb dX7_drawn_4 rfl (lv_at hl 1 rfl) ?_
    obtain ⟨z1, hz1, h⟩ := jb h
    refine jki (jrV (As := [.int a1]) (rest := []) ⟨hx, hb, hml, hown, hts⟩ (c_X0_hasMouse l D cyI cyZ cyT (fun k => qa (4 + k))  a1 (X.1 1) z1 hz1) (cwV 1 hts gX7_drawn_X0_hasMouse rfl rfl rfl (by decide +kernel) ⟨Nat.le_of_ble_eq_true rfl, Nat.le_of_ble_eq_true rfl⟩) hK (hP.sub (ws' := wH cyI (fun k => qa (4 + k)) (X.1 1)) [4, 5, 6, 7, 8, 9, 10, 11, 12] rfl) rfl 0 0 rfl rfl rfl hl.1 (Nat.le_of_ble_eq_true rfl) dX7_drawn_5 ⟨Nat.le_of_ble_eq_true rfl, Nat.le_of_ble_eq_true rfl⟩) ?_
    clear hz1
    refine lv_if_ne (tgt := 14) hx hb dX7_drawn_8 (by decide) (fun c2 => ?_) (fun c2 => ?_)
    · have h := jf c2 h
      refine lv_iload_n hx hb dX7_drawn_14 rfl (lv_at hl 2 rfl) ?_
      obtain ⟨z3, hz3, h⟩ := jb h
      refine jki (jrS (As := [.int a2]) (rest := []) ⟨hx, hb, hml, hown, hts⟩ (c_X7_isPart l D cyI cyZ cyT   a2 z3 hz3) (va_cwS 1 hts gX7_drawn_X7_isPart rfl rfl rfl (by decide +kernel) ⟨Nat.le_of_ble_eq_true rfl, Nat.le_of_ble_eq_true rfl⟩) hK jP0 rfl rfl hl.1 (Nat.le_of_ble_eq_true rfl) dX7_drawn_15 ⟨Nat.le_of_ble_eq_true rfl, Nat.le_of_ble_eq_true rfl⟩) ?_
      clear hz3
      refine lv_if_ne (tgt := 24) hx hb dX7_drawn_18 (by decide) (fun c4 => ?_) (fun c4 => ?_)
      · have h := jf c4 h
        refine lv_iconst (v := (0 : Int32)) hx hb dX7_drawn_24 (by decide) ?_
        refine lv_istore_n (lv' := [(3, .int (0 : Int32)), (0, .ref (qa 0)), (1, .int a1), (2, .int a2)]) hx hb dX7_drawn_25 rfl hl (by decide) rfl (fun ls hl => ?_)
        refine lv_iconst (v := (0 : Int32)) hx hb dX7_drawn_26 (by decide) ?_
        refine lv_istore (lv' := [(4, .int (0 : Int32)), (3, .int (0 : Int32)), (0, .ref (qa 0)), (1, .int a1), (2, .int a2)]) hx hb dX7_drawn_27 hl (by decide) rfl (fun ls hl => ?_)
        obtain ⟨r5, hz5, h5_⟩ := jb h
        have hex5 : ∀ e5 : Int32, r5 = e5 → ∀ (ls : Array Slot), lv_has ls 5 [(0, .ref (qa 0)), (1, .int a1), (2, .int a2), (3, .int e5)] → W p l e rm_X7_drawn s m args below meth c H [] 0 0 (MQ below (jSi o) args s 0 0 (fun _ => False)) (F0 m 56 ls []) := by
          intro e5 he ls hl
          rw [he] at h5_
          have h := h5_
          clear hz5
          refine lv_iload_n hx hb dX7_drawn_56 rfl (lv_at hl 3 rfl) ?_
          refine lv_if_ne (tgt := 63) hx hb dX7_drawn_57 (by decide) (fun c8 => ?_) (fun c8 => ?_)
          · have h := jf c8 h
            refine lv_aload_n hx hb dX7_drawn_63 rfl (lv_at hl 0 rfl) ?_
            refine lv_iload_n hx hb dX7_drawn_64 rfl (lv_at hl 1 rfl) ?_
            obtain ⟨z9, hz9, h⟩ := jb h
            refine jki (jrV (As := [.int a1]) (rest := []) ⟨hx, hb, hml, hown, hts⟩ (c_X7_ticketsInLot l D cyI cyZ cyT qa  a1 X z9 hz9) (cwV 1 hts gX7_drawn_X7_ticketsInLot rfl rfl rfl (by decide +kernel) ⟨Nat.le_of_ble_eq_true rfl, Nat.le_of_ble_eq_true rfl⟩) hK hP rfl 7 0 rfl rfl rfl hl.1 (Nat.le_of_ble_eq_true rfl) dX7_drawn_65 ⟨Nat.le_of_ble_eq_true rfl, Nat.le_of_ble_eq_true rfl⟩) ?_
            clear hz9
            refine lv_i2l (v := z9.toInt64) hx hb dX7_drawn_68 rfl ?_
            refine lv_iload_n hx hb dX7_drawn_69 rfl (lv_at hl 3 rfl) ?_
            refine lv_i2l (v := e5.toInt64) hx hb dX7_drawn_70 rfl ?_
            refine lv_iload_n hx hb dX7_drawn_71 rfl (lv_at hl 2 rfl) ?_
            obtain ⟨z10, hz10, h⟩ := jb h
            refine jkl (jrS (As := [.long z9.toInt64, .long e5.toInt64, .int a2]) (rest := []) ⟨hx, hb, hml, hown, hts⟩ (c_X7_partOf l D cyI cyZ cyT   N z9.toInt64 e5.toInt64 a2 z10 hz10) (va_cwS 3 hts gX7_drawn_X7_partOf rfl rfl rfl (by decide +kernel) ⟨Nat.le_of_ble_eq_true rfl, Nat.le_of_ble_eq_true rfl⟩) hK jP0 rfl rfl hl.1 (Nat.le_of_ble_eq_true rfl) dX7_drawn_72 ⟨Nat.le_of_ble_eq_true rfl, Nat.le_of_ble_eq_true rfl⟩) ?_
            clear hz10
            refine lv_l2i (v := z10.toInt32) hx hb dX7_drawn_75 rfl ?_
            exact W.iret hx hb hr (fun t ht _ => ⟨_, rfl, Option.some.inj h, ht.trans hH⟩) (fun q h => by cases h) dX7_drawn_76 hlocks
          · have h := jt c8 h
            refine lv_bipush (v := (-4 : Int32)) hx hb dX7_drawn_60 (by decide) ?_
            exact W.iret hx hb hr (fun t ht _ => ⟨_, rfl, Option.some.inj h, ht.trans hH⟩) (fun q h => by cases h) dX7_drawn_62 hlocks
        have hlp5 : ∀ (nn : Nat) (z5 : (Int32 × Int32)), jw (X7_drawn_s29 X) nn z5 = some r5 → ∀ (ls : Array Slot), lv_has ls 5 [(0, .ref (qa 0)), (1, .int a1), (2, .int a2), (3, .int z5.1), (4, .int z5.2)] → W p l e rm_X7_drawn s m args below meth c H [] 0 0 (MQ below (jSi o) args s 0 0 (fun _ => False)) (F0 m 29 ls []) := by
          refine jw_P (r := r5) (P := fun z5 : (Int32 × Int32) => ∀ (ls : Array Slot), lv_has ls 5 [(0, .ref (qa 0)), (1, .int a1), (2, .int a2), (3, .int z5.1), (4, .int z5.2)] → W p l e rm_X7_drawn s m args below meth c H [] 0 0 (MQ below (jSi o) args s 0 0 (fun _ => False)) (F0 m 29 ls [])) ?_
          intro z5 x5 h hin hout ls hl
          unfold X7_drawn_s29 at h
          refine lv_iload hx hb dX7_drawn_29 (lv_at hl 4 rfl) ?_
          refine lv_aload_n hx hb dX7_drawn_31 rfl (lv_at hl 0 rfl) ?_
          refine va_get (D := D) (ci := 7) (v := .ref (qa 4)) (C := RX7) (T := TX7) (N := 10) hx hb hts in_X7_drawn_X7 hown hK.1 hP 0 rfl rfl 1 (by decide) (hts _ kw_X7_drawn_1) (fun _ h9 => h9) rfl dX7_drawn_32 ?_
          refine va_get (D := D) (ci := 0) (v := .int ((X.1 1).2 0)) (C := RX0) (T := TX0) (N := 12) hx hb hts in_X7_drawn_X0 hown hK.1 hP 4 rfl rfl 8 (by decide) (hts _ kw_X7_drawn_2) (fun _ h9 => h9) rfl dX7_drawn_35 ?_
          refine lv_icmp_ge (tgt := 56) hx hb dX7_drawn_38 (by decide) (fun c6 => ?_) (fun c6 => ?_)
          · have h := jt c6 h
            exact hex5 _ (hout _ (Option.some.inj h).symm).symm ls (lv_sub hl [0, 1, 2, 3] rfl)
          · have h := jf c6 h
            refine lv_iload_n hx hb dX7_drawn_41 rfl (lv_at hl 3 rfl) ?_
            refine lv_aload_n hx hb dX7_drawn_42 rfl (lv_at hl 0 rfl) ?_
            refine lv_iload hx hb dX7_drawn_43 (lv_at hl 4 rfl) ?_
            obtain ⟨z7, hz7, h⟩ := jb h
            refine jki (jrV (As := [.int z5.2]) (rest := [.int z5.1]) ⟨hx, hb, hml, hown, hts⟩ (c_X7_ticketsInLot l D cyI cyZ cyT qa  z5.2 X z7 hz7) (cwV 1 hts gX7_drawn_X7_ticketsInLot rfl rfl rfl (by decide +kernel) ⟨Nat.le_of_ble_eq_true rfl, Nat.le_of_ble_eq_true rfl⟩) hK hP rfl 7 0 rfl rfl rfl hl.1 (Nat.le_of_ble_eq_true rfl) dX7_drawn_45 ⟨Nat.le_of_ble_eq_true rfl, Nat.le_of_ble_eq_true rfl⟩) ?_
            clear hz7
            refine lv_iadd hx hb dX7_drawn_48 ?_
            refine lv_istore_n (lv' := [(3, .int (z5.1 + z7)), (0, .ref (qa 0)), (1, .int a1), (2, .int a2), (4, .int z5.2)]) hx hb dX7_drawn_49 rfl hl (by decide) rfl (fun ls hl => ?_)
            refine lv_iinc (v := z5.2 + (1 : Int32)) (lv' := [(4, .int (z5.2 + (1 : Int32))), (3, .int (z5.1 + z7)), (0, .ref (qa 0)), (1, .int a1), (2, .int a2)]) hx hb dX7_drawn_50 hl (k := 4) rfl rfl (by decide) rfl (fun ls hl => ?_)
            refine lv_goto (tgt := 29) hx hb dX7_drawn_53 (by decide) ?_
            exact hin _ (Option.some.inj h).symm ls (lv_sub hl [2, 3, 4, 1, 0] rfl)
        exact hlp5 _ _ hz5 ls (lv_sub hl [2, 3, 4, 1, 0] rfl)
      · have h := jt c4 h
        refine lv_bipush (v := (-3 : Int32)) hx hb dX7_drawn_21 (by decide) ?_
        exact W.iret hx hb hr (fun t ht _ => ⟨_, rfl, Option.some.inj h, ht.trans hH⟩) (fun q h => by cases h) dX7_drawn_23 hlocks
    · have h := jt c2 h
      refine lv_bipush (v := (-2 : Int32)) hx hb dX7_drawn_11 (by decide) ?_
      exact W.iret hx hb hr (fun t ht _ => ⟨_, rfl, Option.some.inj h, ht.trans hH⟩) (fun q h => by cases h) dX7_drawn_13 hlocks
  exact key s.heap hP rfl
theorem kw_X7_dread_1 : (.fieldLink RX7 19 "BellTheCat" "told" "LBellTheCat$House;" : Cond) ∈ wsX7_dread := List.mem_of_getElem? (i := 1) rfl
theorem kw_X7_dread_2 : (.fieldLink RX7 178 "BellTheCat$House" "stepCount" "I" : Cond) ∈ wsX7_dread := List.mem_of_getElem? (i := 2) rfl
theorem in_X7_dread_X0 : ∀ w ∈ wsX00, w ∈ wsX7_dread := fun w h => List.mem_cons_of_mem _ (List.mem_append_right _ h)
theorem in_X7_dread_X7 : ∀ w ∈ wsX70, w ∈ wsX7_dread := fun w h => List.mem_cons_of_mem _ (List.mem_append_left _ (List.mem_append_right _ h))
abbrev rm_X7_dread : Room := { frames := 5, cells := 0, slots := 0, locals := 156 }
set_option maxHeartbeats 4000000 in
set_option maxRecDepth 100000 in
theorem c_X7_dread (l : Launch) (D : va_G) (cyI cyZ cyT : ClassId) (qa : Nat → Nat) (N : Nat) (a1 : Int32) (a2 : Int32) (X : BX) (o : Int32) (hf : f_X7_dread N a1 a2 X = some o) : Met l yX7_dread wsX7_dread rm_X7_dread (va_Pc [.ref (qa 0), .int a1, .int a2] (jB D cyI cyZ cyT (wX cyI cyZ cyT qa X))) (jSi o) 0 0 (fun _ => False) := by
  refine Met.ofW (cc := cX7_dread) (maxL := 3) (ret := (some .int)) (by decide) rfl ?_
  intro p e s m args below meth c s₁ B hml hv
  obtain ⟨rfl, hP, hK⟩ := hv
  have hx := B.exec
  have hb := B.bytes
  have hr := B.returns
  have hts := atoms_spec (ws := wsX7_dread) B.pre
  have hown : s.vm.findClass RX7 = some m.cls := findClass_of_methodNamed B.named
  have hlocks := B.notSynchronized
  have hl := lv_entry ([.ref (qa 0), .int a1, .int a2]) (n := 3) (Nat.le_of_ble_eq_true rfl)
  rw [lg_entry_eq]
  generalize (lg_sl ([.ref (qa 0), .int a1, .int a2]) ++ List.replicate (3 - (lg_sl ([.ref (qa 0), .int a1, .int a2])).length) Slot.unset).toArray = ls at hl ⊢
  have hl : lv_has ls 3 [(0, .ref (qa 0)), (1, .int a1), (2, .int a2)] := hl
  clear B
  generalize ([.ref (qa 0), .int a1, .int a2] : List Value).toArray = args at hts ⊢
  have key : ∀ (H : Heap), va_P D vwCl (wX cyI cyZ cyT qa X) H → H = s.heap → W p l e rm_X7_dread s m args below meth c H [] 0 0 (MQ below (jSi o) args s 0 0 (fun _ => False)) (F0 m 0 ls []) := by
    intro H hP hH
    have h := hf
    unfold f_X7_dread at h
    refine lv_aload_n hx hb dX7_dread_0 rfl (lv_at hl 0 rfl) ?_
    refine va_get (D := D) (ci := 7) (v := .ref (qa 4)) (C := RX7) (T := TX7) (N := 10) hx hb hts in_X7_dread_X7 hown hK.1 hP 0 rfl rfl 1 (by decide) (hts _ kw_X7_dread_1) (fun _ h9 => h9) rfl dX7_dread_1 ?_
    refine lv_iload_n hx hb dX7_dread_4 rfl (lv_at hl 1 rfl) ?_
    obtain ⟨z1, hz1, h⟩ := jb h
    refine jki (jrV (As := [.int a1]) (rest := []) ⟨hx, hb, hml, hown, hts⟩ (c_X0_hasMouse l D cyI cyZ cyT (fun k => qa (4 + k))  a1 (X.1 1) z1 hz1) (cwV 1 hts gX7_dread_X0_hasMouse rfl rfl rfl (by decide +kernel) ⟨Nat.le_of_ble_eq_true rfl, Nat.le_of_ble_eq_true rfl⟩) hK (hP.sub (ws' := wH cyI (fun k => qa (4 + k)) (X.1 1)) [4, 5, 6, 7, 8, 9, 10, 11, 12] rfl) rfl 0 0 rfl rfl rfl hl.1 (Nat.le_of_ble_eq_true rfl) dX7_dread_5 ⟨Nat.le_of_ble_eq_true rfl, Nat.le_of_ble_eq_true rfl⟩) ?_
    clear hz1
    refine lv_if_ne (tgt := 14) hx hb dX7_dread_8 (by decide) (fun c2 => ?_) (fun c2 => ?_)
    · have h := jf c2 h
      refine lv_iload_n hx hb dX7_dread_14 rfl (lv_at hl 2 rfl) ?_
      obtain ⟨z3, hz3, h⟩ := jb h
      refine jki (jrS (As := [.int a2]) (rest := []) ⟨hx, hb, hml, hown, hts⟩ (c_X7_isPart l D cyI cyZ cyT   a2 z3 hz3) (va_cwS 1 hts gX7_dread_X7_isPart rfl rfl rfl (by decide +kernel) ⟨Nat.le_of_ble_eq_true rfl, Nat.le_of_ble_eq_true rfl⟩) hK jP0 rfl rfl hl.1 (Nat.le_of_ble_eq_true rfl) dX7_dread_15 ⟨Nat.le_of_ble_eq_true rfl, Nat.le_of_ble_eq_true rfl⟩) ?_
      clear hz3
      refine lv_if_ne (tgt := 24) hx hb dX7_dread_18 (by decide) (fun c4 => ?_) (fun c4 => ?_)
      · have h := jf c4 h
        refine lv_aload_n hx hb dX7_dread_24 rfl (lv_at hl 0 rfl) ?_
        refine va_get (D := D) (ci := 7) (v := .ref (qa 4)) (C := RX7) (T := TX7) (N := 10) hx hb hts in_X7_dread_X7 hown hK.1 hP 0 rfl rfl 1 (by decide) (hts _ kw_X7_dread_1) (fun _ h9 => h9) rfl dX7_dread_25 ?_
        refine lv_iload_n hx hb dX7_dread_28 rfl (lv_at hl 1 rfl) ?_
        obtain ⟨z5, hz5, h⟩ := jb h
        refine jkl (jrV (As := [.int a1]) (rest := []) ⟨hx, hb, hml, hown, hts⟩ (c_X0_dreadAbove l D cyI cyZ cyT (fun k => qa (4 + k))  N a1 (X.1 1) z5 hz5) (cwV 1 hts gX7_dread_X0_dreadAbove rfl rfl rfl (by decide +kernel) ⟨Nat.le_of_ble_eq_true rfl, Nat.le_of_ble_eq_true rfl⟩) hK (hP.sub (ws' := wH cyI (fun k => qa (4 + k)) (X.1 1)) [4, 5, 6, 7, 8, 9, 10, 11, 12] rfl) rfl 0 0 rfl rfl rfl hl.1 (Nat.le_of_ble_eq_true rfl) dX7_dread_29 ⟨Nat.le_of_ble_eq_true rfl, Nat.le_of_ble_eq_true rfl⟩) ?_
        clear hz5
        refine lv_aload_n hx hb dX7_dread_32 rfl (lv_at hl 0 rfl) ?_
        refine va_get (D := D) (ci := 7) (v := .ref (qa 4)) (C := RX7) (T := TX7) (N := 10) hx hb hts in_X7_dread_X7 hown hK.1 hP 0 rfl rfl 1 (by decide) (hts _ kw_X7_dread_1) (fun _ h9 => h9) rfl dX7_dread_33 ?_
        refine va_get (D := D) (ci := 0) (v := .int ((X.1 1).2 1)) (C := RX0) (T := TX0) (N := 12) hx hb hts in_X7_dread_X0 hown hK.1 hP 4 rfl rfl 9 (by decide) (hts _ kw_X7_dread_2) (fun _ h9 => h9) rfl dX7_dread_36 ?_
        obtain ⟨z6, hz6, h⟩ := jb h
        refine jkl (jrS (As := [.int ((X.1 1).2 1)]) (rest := [.long z5]) ⟨hx, hb, hml, hown, hts⟩ (c_X7_tenTo l D cyI cyZ cyT   N ((X.1 1).2 1) z6 hz6) (va_cwS 1 hts gX7_dread_X7_tenTo rfl rfl rfl (by decide +kernel) ⟨Nat.le_of_ble_eq_true rfl, Nat.le_of_ble_eq_true rfl⟩) hK jP0 rfl rfl hl.1 (Nat.le_of_ble_eq_true rfl) dX7_dread_39 ⟨Nat.le_of_ble_eq_true rfl, Nat.le_of_ble_eq_true rfl⟩) ?_
        clear hz6
        refine lv_iload_n hx hb dX7_dread_42 rfl (lv_at hl 2 rfl) ?_
        obtain ⟨z7, hz7, h⟩ := jb h
        refine jkl (jrS (As := [.long z5, .long z6, .int a2]) (rest := []) ⟨hx, hb, hml, hown, hts⟩ (c_X7_partOf l D cyI cyZ cyT   N z5 z6 a2 z7 hz7) (va_cwS 3 hts gX7_dread_X7_partOf rfl rfl rfl (by decide +kernel) ⟨Nat.le_of_ble_eq_true rfl, Nat.le_of_ble_eq_true rfl⟩) hK jP0 rfl rfl hl.1 (Nat.le_of_ble_eq_true rfl) dX7_dread_43 ⟨Nat.le_of_ble_eq_true rfl, Nat.le_of_ble_eq_true rfl⟩) ?_
        clear hz7
        refine lv_l2i (v := z7.toInt32) hx hb dX7_dread_46 rfl ?_
        exact W.iret hx hb hr (fun t ht _ => ⟨_, rfl, Option.some.inj h, ht.trans hH⟩) (fun q h => by cases h) dX7_dread_47 hlocks
      · have h := jt c4 h
        refine lv_bipush (v := (-3 : Int32)) hx hb dX7_dread_21 (by decide) ?_
        exact W.iret hx hb hr (fun t ht _ => ⟨_, rfl, Option.some.inj h, ht.trans hH⟩) (fun q h => by cases h) dX7_dread_23 hlocks
    · have h := jt c2 h
      refine lv_bipush (v := (-2 : Int32)) hx hb dX7_dread_11 (by decide) ?_
      exact W.iret hx hb hr (fun t ht _ => ⟨_, rfl, Option.some.inj h, ht.trans hH⟩) (fun q h => by cases h) dX7_dread_13 hlocks
  exact key s.heap hP rfl
theorem kw_X7_erase_1 : (.fieldLink RX7 10 "BellTheCat" "text" "LBellTheCat$Text;" : Cond) ∈ wsX7_erase := List.mem_of_getElem? (i := 1) rfl
theorem kw_X7_erase_2 : (.fieldLink RX7 77 "BellTheCat$Text" "length" "I" : Cond) ∈ wsX7_erase := List.mem_of_getElem? (i := 2) rfl
theorem in_X7_erase_X5 : ∀ w ∈ wsX50, w ∈ wsX7_erase := fun w h => List.mem_cons_of_mem _ (List.mem_append_right _ h)
theorem in_X7_erase_X7 : ∀ w ∈ wsX70, w ∈ wsX7_erase := fun w h => List.mem_cons_of_mem _ (List.mem_append_left _ (List.mem_append_right _ h))
abbrev rm_X7_erase : Room := { frames := 0, cells := 0, slots := 0, locals := 0 }
set_option maxHeartbeats 4000000 in
set_option maxRecDepth 100000 in
theorem c_X7_erase (l : Launch) (D : va_G) (cyI cyZ cyT : ClassId) (qa : Nat → Nat) (sz : Nat) (X : BX) (o : (Int32 × BX)) (hf : f_X7_erase X = some o) : Met l yX7_erase wsX7_erase rm_X7_erase (va_Pc [.ref (qa 0)] (jM D cyI cyZ cyT (wX cyI cyZ cyT qa X) sz)) (jQi D (va_A (wX cyI cyZ cyT qa X) sz) (fun u : BX => wX cyI cyZ cyT qa u) o) 0 0 (va_A (wX cyI cyZ cyT qa X) sz) := by
  refine Met.ofW (cc := cX7_erase) (maxL := 2) (ret := (some .int)) (by decide) rfl ?_
  intro p e s m args below meth c s₁ B hml hv
  obtain ⟨rfl, hsz, hP, hK, hD0⟩ := hv
  have hx := B.exec
  have hb := B.bytes
  have hr := B.returns
  have hts := atoms_spec (ws := wsX7_erase) B.pre
  have hown : s.vm.findClass RX7 = some m.cls := findClass_of_methodNamed B.named
  have hlocks := B.notSynchronized
  subst hsz
  have hD := hD0.self (sz := s.heap.size)
  generalize hAe : va_A (wX cyI cyZ cyT qa X) s.heap.size = A at hD ⊢
  have hA : ∀ q : Nat, s.heap.size ≤ q → A q := fun q h => by rw [← hAe]; exact Or.inr h
  have hS : va_S A s.heap s.heap [] := va_S.rf
  have hl := lv_entry ([.ref (qa 0)]) (n := 2) (Nat.le_of_ble_eq_true rfl)
  rw [lg_entry_eq]
  generalize (lg_sl ([.ref (qa 0)]) ++ List.replicate (2 - (lg_sl ([.ref (qa 0)])).length) Slot.unset).toArray = ls at hl ⊢
  have hl : lv_has ls 2 [(0, .ref (qa 0))] := hl
  clear B
  generalize ([.ref (qa 0)] : List Value).toArray = args at hts ⊢
  have key : ∀ (H : Heap) (locs : List Loc), va_P D vwCl (wX cyI cyZ cyT qa X) H → va_D A (wX cyI cyZ cyT qa X) → va_S A s.heap H locs → W p l e rm_X7_erase s m args below meth c H locs 0 0 (MQ below (jQi D A (fun u : BX => wX cyI cyZ cyT qa u) o) args s 0 0 A) (F0 m 0 ls []) := by
    intro H locs hP hD hS
    have h := hf
    unfold f_X7_erase at h
    refine lv_aload_n hx hb dX7_erase_0 rfl (lv_at hl 0 rfl) ?_
    refine va_get (D := D) (ci := 7) (v := .ref (qa 1)) (C := RX7) (T := TX7) (N := 10) hx hb hts in_X7_erase_X7 hown hK.1 hP 0 rfl rfl 0 (by decide) (hts _ kw_X7_erase_1) (fun _ h9 => h9) rfl dX7_erase_1 ?_
    refine va_get (D := D) (ci := 5) (v := .int ((X.1 0).2 0)) (C := RX5) (T := TX5) (N := 6) hx hb hts in_X7_erase_X5 hown hK.1 hP 1 rfl rfl 2 (by decide) (hts _ kw_X7_erase_2) (fun _ h9 => h9) rfl dX7_erase_4 ?_
    refine lv_istore_n (lv' := [(1, .int ((X.1 0).2 0)), (0, .ref (qa 0))]) hx hb dX7_erase_7 rfl hl (by decide) rfl (fun ls hl => ?_)
    refine lv_aload_n hx hb dX7_erase_8 rfl (lv_at hl 1 rfl) ?_
    refine va_get (D := D) (ci := 7) (v := .ref (qa 1)) (C := RX7) (T := TX7) (N := 10) hx hb hts in_X7_erase_X7 hown hK.1 hP 0 rfl rfl 0 (by decide) (hts _ kw_X7_erase_1) (fun _ h9 => h9) rfl dX7_erase_9 ?_
    refine lv_iconst (v := (0 : Int32)) hx hb dX7_erase_12 (by decide) ?_
    refine va_put (D := D) (ci := 5) (v := .int (0 : Int32)) (ty := .int) (C := RX5) (T := TX5) (N := 6) hx hb hts in_X7_erase_X5 tyX5 tyX5_ok nmX5 hown hK.1 hP hD hS 1 rfl rfl 2 (by decide) (hts _ kw_X7_erase_2) (fun _ h9 => h9) rfl (tyX5_ok 2 (by decide)) rfl rfl (Nat.le_of_ble_eq_true rfl) dX7_erase_13 (fun H locs hP hD hS => ?_)
    have hP : va_P D vwCl (wX cyI cyZ cyT qa (va_up X.1 0 ((X.1 0).1, va_up ((X.1 0).2) 0 (0 : Int32)), X.2.1, X.2.2.1, X.2.2.2)) H := hP
    have hD : va_D A (wX cyI cyZ cyT qa (va_up X.1 0 ((X.1 0).1, va_up ((X.1 0).2) 0 (0 : Int32)), X.2.1, X.2.2.1, X.2.2.2)) := hD
    refine lv_iload_n hx hb dX7_erase_16 rfl (lv_at hl 0 rfl) ?_
    exact W.iret hx hb hr (fun t ht _ => ⟨⟨_, _, rfl, Option.some.inj h, by rw [ht]; exact hP, hD⟩, hS.F ht⟩) hS.2.2 dX7_erase_17 hlocks
  exact key s.heap [] hP hD hS
theorem kw_X7_fails_1 : (.fieldLink RX7 19 "BellTheCat" "told" "LBellTheCat$House;" : Cond) ∈ wsX7_fails := List.mem_of_getElem? (i := 1) rfl
theorem kw_X7_fails_2 : (.fieldLink RX7 29 "BellTheCat" "now" "LBellTheCat$Team;" : Cond) ∈ wsX7_fails := List.mem_of_getElem? (i := 2) rfl
theorem kw_X7_fails_3 : (.fieldLink RX7 178 "BellTheCat$House" "stepCount" "I" : Cond) ∈ wsX7_fails := List.mem_of_getElem? (i := 3) rfl
theorem in_X7_fails_X0 : ∀ w ∈ wsX00, w ∈ wsX7_fails := fun w h => List.mem_cons_of_mem _ (List.mem_append_left _ (List.mem_append_right _ h))
theorem in_X7_fails_X7 : ∀ w ∈ wsX70, w ∈ wsX7_fails := fun w h => List.mem_cons_of_mem _ (List.mem_append_left _ (List.mem_append_left _ (List.mem_append_right _ h)))
abbrev rm_X7_fails : Room := { frames := 5, cells := 0, slots := 0, locals := 154 }
set_option maxHeartbeats 4000000 in
set_option maxRecDepth 100000 in
theorem c_X7_fails (l : Launch) (D : va_G) (cyI cyZ cyT : ClassId) (qa : Nat → Nat) (N : Nat) (a1 : Int32) (a2 : Int32) (X : BX) (o : Int32) (hf : f_X7_fails N a1 a2 X = some o) : Met l yX7_fails wsX7_fails rm_X7_fails (va_Pc [.ref (qa 0), .int a1, .int a2] (jB D cyI cyZ cyT (wX cyI cyZ cyT qa X))) (jSi o) 0 0 (fun _ => False) := by
  refine Met.ofW (cc := cX7_fails) (maxL := 3) (ret := (some .int)) (by decide) rfl ?_
  intro p e s m args below meth c s₁ B hml hv
  obtain ⟨rfl, hP, hK⟩ := hv
  have hx := B.exec
  have hb := B.bytes
  have hr := B.returns
  have hts := atoms_spec (ws := wsX7_fails) B.pre
  have hown : s.vm.findClass RX7 = some m.cls := findClass_of_methodNamed B.named
  have hlocks := B.notSynchronized
  have hl := lv_entry ([.ref (qa 0), .int a1, .int a2]) (n := 3) (Nat.le_of_ble_eq_true rfl)
  rw [lg_entry_eq]
  generalize (lg_sl ([.ref (qa 0), .int a1, .int a2]) ++ List.replicate (3 - (lg_sl ([.ref (qa 0), .int a1, .int a2])).length) Slot.unset).toArray = ls at hl ⊢
  have hl : lv_has ls 3 [(0, .ref (qa 0)), (1, .int a1), (2, .int a2)] := hl
  clear B
  generalize ([.ref (qa 0), .int a1, .int a2] : List Value).toArray = args at hts ⊢
  have key : ∀ (H : Heap), va_P D vwCl (wX cyI cyZ cyT qa X) H → H = s.heap → W p l e rm_X7_fails s m args below meth c H [] 0 0 (MQ below (jSi o) args s 0 0 (fun _ => False)) (F0 m 0 ls []) := by
    intro H hP hH
    have h := hf
    unfold f_X7_fails at h
    refine lv_aload_n hx hb dX7_fails_0 rfl (lv_at hl 0 rfl) ?_
    refine va_get (D := D) (ci := 7) (v := .ref (qa 4)) (C := RX7) (T := TX7) (N := 10) hx hb hts in_X7_fails_X7 hown hK.1 hP 0 rfl rfl 1 (by decide) (hts _ kw_X7_fails_1) (fun _ h9 => h9) rfl dX7_fails_1 ?_
    refine lv_iload_n hx hb dX7_fails_4 rfl (lv_at hl 1 rfl) ?_
    obtain ⟨z1, hz1, h⟩ := jb h
    refine jki (jrV (As := [.int a1]) (rest := []) ⟨hx, hb, hml, hown, hts⟩ (c_X0_hasStep l D cyI cyZ cyT (fun k => qa (4 + k))  a1 (X.1 1) z1 hz1) (cwV 1 hts gX7_fails_X0_hasStep rfl rfl rfl (by decide +kernel) ⟨Nat.le_of_ble_eq_true rfl, Nat.le_of_ble_eq_true rfl⟩) hK (hP.sub (ws' := wH cyI (fun k => qa (4 + k)) (X.1 1)) [4, 5, 6, 7, 8, 9, 10, 11, 12] rfl) rfl 0 0 rfl rfl rfl hl.1 (Nat.le_of_ble_eq_true rfl) dX7_fails_5 ⟨Nat.le_of_ble_eq_true rfl, Nat.le_of_ble_eq_true rfl⟩) ?_
    clear hz1
    refine lv_if_ne (tgt := 14) hx hb dX7_fails_8 (by decide) (fun c2 => ?_) (fun c2 => ?_)
    · have h := jf c2 h
      refine lv_iload_n hx hb dX7_fails_14 rfl (lv_at hl 2 rfl) ?_
      obtain ⟨z3, hz3, h⟩ := jb h
      refine jki (jrS (As := [.int a2]) (rest := []) ⟨hx, hb, hml, hown, hts⟩ (c_X7_isPart l D cyI cyZ cyT   a2 z3 hz3) (va_cwS 1 hts gX7_fails_X7_isPart rfl rfl rfl (by decide +kernel) ⟨Nat.le_of_ble_eq_true rfl, Nat.le_of_ble_eq_true rfl⟩) hK jP0 rfl rfl hl.1 (Nat.le_of_ble_eq_true rfl) dX7_fails_15 ⟨Nat.le_of_ble_eq_true rfl, Nat.le_of_ble_eq_true rfl⟩) ?_
      clear hz3
      refine lv_if_ne (tgt := 24) hx hb dX7_fails_18 (by decide) (fun c4 => ?_) (fun c4 => ?_)
      · have h := jf c4 h
        refine lv_aload_n hx hb dX7_fails_24 rfl (lv_at hl 0 rfl) ?_
        refine va_get (D := D) (ci := 7) (v := .ref (qa 22)) (C := RX7) (T := TX7) (N := 10) hx hb hts in_X7_fails_X7 hown hK.1 hP 0 rfl rfl 3 (by decide) (hts _ kw_X7_fails_2) (fun _ h9 => h9) rfl dX7_fails_25 ?_
        refine lv_aload_n hx hb dX7_fails_28 rfl (lv_at hl 0 rfl) ?_
        refine va_get (D := D) (ci := 7) (v := .ref (qa 4)) (C := RX7) (T := TX7) (N := 10) hx hb hts in_X7_fails_X7 hown hK.1 hP 0 rfl rfl 1 (by decide) (hts _ kw_X7_fails_1) (fun _ h9 => h9) rfl dX7_fails_29 ?_
        refine va_get (D := D) (ci := 0) (v := .int ((X.1 1).2 1)) (C := RX0) (T := TX0) (N := 12) hx hb hts in_X7_fails_X0 hown hK.1 hP 4 rfl rfl 9 (by decide) (hts _ kw_X7_fails_3) (fun _ h9 => h9) rfl dX7_fails_32 ?_
        obtain ⟨z5, hz5, h⟩ := jb h
        refine jki (jrV (As := [.int ((X.1 1).2 1)]) (rest := []) ⟨hx, hb, hml, hown, hts⟩ (c_X4_isWhole l D cyI cyZ cyT (fun k => qa (22 + k))  N ((X.1 1).2 1) (X.1 3) z5 hz5) (cwV 1 hts gX7_fails_X4_isWhole rfl rfl rfl (by decide +kernel) ⟨Nat.le_of_ble_eq_true rfl, Nat.le_of_ble_eq_true rfl⟩) hK (hP.sub (ws' := wT cyI (fun k => qa (22 + k)) (X.1 3)) [22, 23] rfl) rfl 4 0 rfl rfl rfl hl.1 (Nat.le_of_ble_eq_true rfl) dX7_fails_35 ⟨Nat.le_of_ble_eq_true rfl, Nat.le_of_ble_eq_true rfl⟩) ?_
        clear hz5
        refine lv_if_ne (tgt := 44) hx hb dX7_fails_38 (by decide) (fun c6 => ?_) (fun c6 => ?_)
        · have h := jf c6 h
          refine lv_aload_n hx hb dX7_fails_44 rfl (lv_at hl 0 rfl) ?_
          refine lv_iload_n hx hb dX7_fails_45 rfl (lv_at hl 1 rfl) ?_
          obtain ⟨z7, hz7, h⟩ := jb h
          refine jkl (jrV (As := [.int a1]) (rest := []) ⟨hx, hb, hml, hown, hts⟩ (c_X7_caughtAt l D cyI cyZ cyT qa  N a1 X z7 hz7) (cwV 1 hts gX7_fails_X7_caughtAt rfl rfl rfl (by decide +kernel) ⟨Nat.le_of_ble_eq_true rfl, Nat.le_of_ble_eq_true rfl⟩) hK hP rfl 7 0 rfl rfl rfl hl.1 (Nat.le_of_ble_eq_true rfl) dX7_fails_46 ⟨Nat.le_of_ble_eq_true rfl, Nat.le_of_ble_eq_true rfl⟩) ?_
          clear hz7
          refine lv_iload_n hx hb dX7_fails_49 rfl (lv_at hl 1 rfl) ?_
          refine lv_iconst (v := (1 : Int32)) hx hb dX7_fails_50 (by decide) ?_
          refine lv_iadd hx hb dX7_fails_51 ?_
          obtain ⟨z8, hz8, h⟩ := jb h
          refine jkl (jrS (As := [.int (a1 + (1 : Int32))]) (rest := [.long z7]) ⟨hx, hb, hml, hown, hts⟩ (c_X7_tenTo l D cyI cyZ cyT   N (a1 + (1 : Int32)) z8 hz8) (va_cwS 1 hts gX7_fails_X7_tenTo rfl rfl rfl (by decide +kernel) ⟨Nat.le_of_ble_eq_true rfl, Nat.le_of_ble_eq_true rfl⟩) hK jP0 rfl rfl hl.1 (Nat.le_of_ble_eq_true rfl) dX7_fails_52 ⟨Nat.le_of_ble_eq_true rfl, Nat.le_of_ble_eq_true rfl⟩) ?_
          clear hz8
          refine lv_iload_n hx hb dX7_fails_55 rfl (lv_at hl 2 rfl) ?_
          obtain ⟨z9, hz9, h⟩ := jb h
          refine jkl (jrS (As := [.long z7, .long z8, .int a2]) (rest := []) ⟨hx, hb, hml, hown, hts⟩ (c_X7_partOf l D cyI cyZ cyT   N z7 z8 a2 z9 hz9) (va_cwS 3 hts gX7_fails_X7_partOf rfl rfl rfl (by decide +kernel) ⟨Nat.le_of_ble_eq_true rfl, Nat.le_of_ble_eq_true rfl⟩) hK jP0 rfl rfl hl.1 (Nat.le_of_ble_eq_true rfl) dX7_fails_56 ⟨Nat.le_of_ble_eq_true rfl, Nat.le_of_ble_eq_true rfl⟩) ?_
          clear hz9
          refine lv_l2i (v := z9.toInt32) hx hb dX7_fails_59 rfl ?_
          exact W.iret hx hb hr (fun t ht _ => ⟨_, rfl, Option.some.inj h, ht.trans hH⟩) (fun q h => by cases h) dX7_fails_60 hlocks
        · have h := jt c6 h
          refine lv_bipush (v := (-4 : Int32)) hx hb dX7_fails_41 (by decide) ?_
          exact W.iret hx hb hr (fun t ht _ => ⟨_, rfl, Option.some.inj h, ht.trans hH⟩) (fun q h => by cases h) dX7_fails_43 hlocks
      · have h := jt c4 h
        refine lv_bipush (v := (-3 : Int32)) hx hb dX7_fails_21 (by decide) ?_
        exact W.iret hx hb hr (fun t ht _ => ⟨_, rfl, Option.some.inj h, ht.trans hH⟩) (fun q h => by cases h) dX7_fails_23 hlocks
    · have h := jt c2 h
      refine lv_bipush (v := (-2 : Int32)) hx hb dX7_fails_11 (by decide) ?_
      exact W.iret hx hb hr (fun t ht _ => ⟨_, rfl, Option.some.inj h, ht.trans hH⟩) (fun q h => by cases h) dX7_fails_13 hlocks
  exact key s.heap hP rfl
theorem kw_X7_forget_1 : (.fieldLink RX7 51 "BellTheCat" "sightings" "LBellTheCat$Sightings;" : Cond) ∈ wsX7_forget := List.mem_of_getElem? (i := 1) rfl
theorem kw_X7_forget_2 : (.fieldLink RX7 99 "BellTheCat$Sightings" "size" "I" : Cond) ∈ wsX7_forget := List.mem_of_getElem? (i := 2) rfl
theorem in_X7_forget_X3 : ∀ w ∈ wsX30, w ∈ wsX7_forget := fun w h => List.mem_cons_of_mem _ (List.mem_append_right _ h)
theorem in_X7_forget_X7 : ∀ w ∈ wsX70, w ∈ wsX7_forget := fun w h => List.mem_cons_of_mem _ (List.mem_append_left _ (List.mem_append_right _ h))
abbrev rm_X7_forget : Room := { frames := 0, cells := 0, slots := 0, locals := 0 }
set_option maxHeartbeats 4000000 in
set_option maxRecDepth 100000 in
theorem c_X7_forget (l : Launch) (D : va_G) (cyI cyZ cyT : ClassId) (qa : Nat → Nat) (sz : Nat) (X : BX) (o : (Int32 × BX)) (hf : f_X7_forget X = some o) : Met l yX7_forget wsX7_forget rm_X7_forget (va_Pc [.ref (qa 0)] (jM D cyI cyZ cyT (wX cyI cyZ cyT qa X) sz)) (jQi D (va_A (wX cyI cyZ cyT qa X) sz) (fun u : BX => wX cyI cyZ cyT qa u) o) 0 0 (va_A (wX cyI cyZ cyT qa X) sz) := by
  refine Met.ofW (cc := cX7_forget) (maxL := 2) (ret := (some .int)) (by decide) rfl ?_
  intro p e s m args below meth c s₁ B hml hv
  obtain ⟨rfl, hsz, hP, hK, hD0⟩ := hv
  have hx := B.exec
  have hb := B.bytes
  have hr := B.returns
  have hts := atoms_spec (ws := wsX7_forget) B.pre
  have hown : s.vm.findClass RX7 = some m.cls := findClass_of_methodNamed B.named
  have hlocks := B.notSynchronized
  subst hsz
  have hD := hD0.self (sz := s.heap.size)
  generalize hAe : va_A (wX cyI cyZ cyT qa X) s.heap.size = A at hD ⊢
  have hA : ∀ q : Nat, s.heap.size ≤ q → A q := fun q h => by rw [← hAe]; exact Or.inr h
  have hS : va_S A s.heap s.heap [] := va_S.rf
  have hl := lv_entry ([.ref (qa 0)]) (n := 2) (Nat.le_of_ble_eq_true rfl)
  rw [lg_entry_eq]
  generalize (lg_sl ([.ref (qa 0)]) ++ List.replicate (2 - (lg_sl ([.ref (qa 0)])).length) Slot.unset).toArray = ls at hl ⊢
  have hl : lv_has ls 2 [(0, .ref (qa 0))] := hl
  clear B
  generalize ([.ref (qa 0)] : List Value).toArray = args at hts ⊢
  have key : ∀ (H : Heap) (locs : List Loc), va_P D vwCl (wX cyI cyZ cyT qa X) H → va_D A (wX cyI cyZ cyT qa X) → va_S A s.heap H locs → W p l e rm_X7_forget s m args below meth c H locs 0 0 (MQ below (jQi D A (fun u : BX => wX cyI cyZ cyT qa u) o) args s 0 0 A) (F0 m 0 ls []) := by
    intro H locs hP hD hS
    have h := hf
    unfold f_X7_forget at h
    refine lv_aload_n hx hb dX7_forget_0 rfl (lv_at hl 0 rfl) ?_
    refine va_get (D := D) (ci := 7) (v := .ref (qa 48)) (C := RX7) (T := TX7) (N := 10) hx hb hts in_X7_forget_X7 hown hK.1 hP 0 rfl rfl 7 (by decide) (hts _ kw_X7_forget_1) (fun _ h9 => h9) rfl dX7_forget_1 ?_
    refine va_get (D := D) (ci := 3) (v := .int ((X.1 6).2 0)) (C := RX3) (T := TX3) (N := 3) hx hb hts in_X7_forget_X3 hown hK.1 hP 48 rfl rfl 2 (by decide) (hts _ kw_X7_forget_2) (fun _ h9 => h9) rfl dX7_forget_4 ?_
    refine lv_istore_n (lv' := [(1, .int ((X.1 6).2 0)), (0, .ref (qa 0))]) hx hb dX7_forget_7 rfl hl (by decide) rfl (fun ls hl => ?_)
    refine lv_aload_n hx hb dX7_forget_8 rfl (lv_at hl 1 rfl) ?_
    refine va_get (D := D) (ci := 7) (v := .ref (qa 48)) (C := RX7) (T := TX7) (N := 10) hx hb hts in_X7_forget_X7 hown hK.1 hP 0 rfl rfl 7 (by decide) (hts _ kw_X7_forget_1) (fun _ h9 => h9) rfl dX7_forget_9 ?_
    refine lv_iconst (v := (0 : Int32)) hx hb dX7_forget_12 (by decide) ?_
    refine va_put (D := D) (ci := 3) (v := .int (0 : Int32)) (ty := .int) (C := RX3) (T := TX3) (N := 3) hx hb hts in_X7_forget_X3 tyX3 tyX3_ok nmX3 hown hK.1 hP hD hS 48 rfl rfl 2 (by decide) (hts _ kw_X7_forget_2) (fun _ h9 => h9) rfl (tyX3_ok 2 (by decide)) rfl rfl (Nat.le_of_ble_eq_true rfl) dX7_forget_13 (fun H locs hP hD hS => ?_)
    have hP : va_P D vwCl (wX cyI cyZ cyT qa (va_up X.1 6 ((X.1 6).1, va_up ((X.1 6).2) 0 (0 : Int32)), X.2.1, X.2.2.1, X.2.2.2)) H := hP
    have hD : va_D A (wX cyI cyZ cyT qa (va_up X.1 6 ((X.1 6).1, va_up ((X.1 6).2) 0 (0 : Int32)), X.2.1, X.2.2.1, X.2.2.2)) := hD
    refine lv_iload_n hx hb dX7_forget_16 rfl (lv_at hl 0 rfl) ?_
    exact W.iret hx hb hr (fun t ht _ => ⟨⟨_, _, rfl, Option.some.inj h, by rw [ht]; exact hP, hD⟩, hS.F ht⟩) hS.2.2 dX7_forget_17 hlocks
  exact key s.heap [] hP hD hS
theorem kw_X7_leastAfraid_1 : (.fieldLink RX7 19 "BellTheCat" "told" "LBellTheCat$House;" : Cond) ∈ wsX7_leastAfraid := List.mem_of_getElem? (i := 1) rfl
theorem kw_X7_leastAfraid_2 : (.fieldLink RX7 89 "BellTheCat$House" "miceCount" "I" : Cond) ∈ wsX7_leastAfraid := List.mem_of_getElem? (i := 2) rfl
theorem kw_X7_leastAfraid_3 : (.fieldLink RX7 29 "BellTheCat" "now" "LBellTheCat$Team;" : Cond) ∈ wsX7_leastAfraid := List.mem_of_getElem? (i := 3) rfl
theorem in_X7_leastAfraid_X0 : ∀ w ∈ wsX00, w ∈ wsX7_leastAfraid := fun w h => List.mem_cons_of_mem _ (List.mem_append_left _ (List.mem_append_right _ h))
theorem in_X7_leastAfraid_X7 : ∀ w ∈ wsX70, w ∈ wsX7_leastAfraid := fun w h => List.mem_cons_of_mem _ (List.mem_append_left _ (List.mem_append_left _ (List.mem_append_right _ h)))
abbrev rm_X7_leastAfraid : Room := { frames := 5, cells := 0, slots := 0, locals := 156 }
set_option maxHeartbeats 4000000 in
set_option maxRecDepth 100000 in
theorem c_X7_leastAfraid (l : Launch) (D : va_G) (cyI cyZ cyT : ClassId) (qa : Nat → Nat) (N : Nat) (X : BX) (o : Int32) (hf : f_X7_leastAfraid N X = some o) : Met l yX7_leastAfraid wsX7_leastAfraid rm_X7_leastAfraid (va_Pc [.ref (qa 0)] (jB D cyI cyZ cyT (wX cyI cyZ cyT qa X))) (jSi o) 0 0 (fun _ => False) := by
  refine Met.ofW (cc := cX7_leastAfraid) (maxL := 3) (ret := (some .int)) (by decide) rfl ?_
  intro p e s m args below meth c s₁ B hml hv
  obtain ⟨rfl, hP, hK⟩ := hv
  have hx := B.exec
  have hb := B.bytes
  have hr := B.returns
  have hts := atoms_spec (ws := wsX7_leastAfraid) B.pre
  have hown : s.vm.findClass RX7 = some m.cls := findClass_of_methodNamed B.named
  have hlocks := B.notSynchronized
  have hl := lv_entry ([.ref (qa 0)]) (n := 3) (Nat.le_of_ble_eq_true rfl)
  rw [lg_entry_eq]
  generalize (lg_sl ([.ref (qa 0)]) ++ List.replicate (3 - (lg_sl ([.ref (qa 0)])).length) Slot.unset).toArray = ls at hl ⊢
  have hl : lv_has ls 3 [(0, .ref (qa 0))] := hl
  clear B
  generalize ([.ref (qa 0)] : List Value).toArray = args at hts ⊢
  have key : ∀ (H : Heap), va_P D vwCl (wX cyI cyZ cyT qa X) H → H = s.heap → W p l e rm_X7_leastAfraid s m args below meth c H [] 0 0 (MQ below (jSi o) args s 0 0 (fun _ => False)) (F0 m 0 ls []) := by
    intro H hP hH
    have h := hf
    unfold f_X7_leastAfraid at h
    refine lv_iconst (v := (-1 : Int32)) hx hb dX7_leastAfraid_0 (by decide) ?_
    refine lv_istore_n (lv' := [(1, .int (-1 : Int32)), (0, .ref (qa 0))]) hx hb dX7_leastAfraid_1 rfl hl (by decide) rfl (fun ls hl => ?_)
    refine lv_iconst (v := (0 : Int32)) hx hb dX7_leastAfraid_2 (by decide) ?_
    refine lv_istore_n (lv' := [(2, .int (0 : Int32)), (1, .int (-1 : Int32)), (0, .ref (qa 0))]) hx hb dX7_leastAfraid_3 rfl hl (by decide) rfl (fun ls hl => ?_)
    obtain ⟨r1, hz1, h1_⟩ := jb h
    have hex1 : ∀ e1 : Int32, r1 = e1 → ∀ (ls : Array Slot), lv_has ls 3 [(1, .int e1)] → W p l e rm_X7_leastAfraid s m args below meth c H [] 0 0 (MQ below (jSi o) args s 0 0 (fun _ => False)) (F0 m 59 ls []) := by
      intro e1 he ls hl
      rw [he] at h1_
      have h := h1_
      clear hz1
      refine lv_iload_n hx hb dX7_leastAfraid_59 rfl (lv_at hl 0 rfl) ?_
      exact W.iret hx hb hr (fun t ht _ => ⟨_, rfl, Option.some.inj h, ht.trans hH⟩) (fun q h => by cases h) dX7_leastAfraid_60 hlocks
    have hlp1 : ∀ (nn : Nat) (z1 : (Int32 × Int32)), jw (X7_leastAfraid_s4 N X) nn z1 = some r1 → ∀ (ls : Array Slot), lv_has ls 3 [(0, .ref (qa 0)), (1, .int z1.1), (2, .int z1.2)] → W p l e rm_X7_leastAfraid s m args below meth c H [] 0 0 (MQ below (jSi o) args s 0 0 (fun _ => False)) (F0 m 4 ls []) := by
      refine jw_P (r := r1) (P := fun z1 : (Int32 × Int32) => ∀ (ls : Array Slot), lv_has ls 3 [(0, .ref (qa 0)), (1, .int z1.1), (2, .int z1.2)] → W p l e rm_X7_leastAfraid s m args below meth c H [] 0 0 (MQ below (jSi o) args s 0 0 (fun _ => False)) (F0 m 4 ls [])) ?_
      intro z1 x1 h hin hout ls hl
      unfold X7_leastAfraid_s4 at h
      refine lv_iload_n hx hb dX7_leastAfraid_4 rfl (lv_at hl 2 rfl) ?_
      refine lv_aload_n hx hb dX7_leastAfraid_5 rfl (lv_at hl 0 rfl) ?_
      refine va_get (D := D) (ci := 7) (v := .ref (qa 4)) (C := RX7) (T := TX7) (N := 10) hx hb hts in_X7_leastAfraid_X7 hown hK.1 hP 0 rfl rfl 1 (by decide) (hts _ kw_X7_leastAfraid_1) (fun _ h9 => h9) rfl dX7_leastAfraid_6 ?_
      refine va_get (D := D) (ci := 0) (v := .int ((X.1 1).2 0)) (C := RX0) (T := TX0) (N := 12) hx hb hts in_X7_leastAfraid_X0 hown hK.1 hP 4 rfl rfl 8 (by decide) (hts _ kw_X7_leastAfraid_2) (fun _ h9 => h9) rfl dX7_leastAfraid_9 ?_
      refine lv_icmp_ge (tgt := 59) hx hb dX7_leastAfraid_12 (by decide) (fun c2 => ?_) (fun c2 => ?_)
      · have h := jt c2 h
        exact hex1 _ (hout _ (Option.some.inj h).symm).symm ls (lv_sub hl [1] rfl)
      · have h := jf c2 h
        refine lv_aload_n hx hb dX7_leastAfraid_15 rfl (lv_at hl 0 rfl) ?_
        refine va_get (D := D) (ci := 7) (v := .ref (qa 22)) (C := RX7) (T := TX7) (N := 10) hx hb hts in_X7_leastAfraid_X7 hown hK.1 hP 0 rfl rfl 3 (by decide) (hts _ kw_X7_leastAfraid_3) (fun _ h9 => h9) rfl dX7_leastAfraid_16 ?_
        refine lv_iload_n hx hb dX7_leastAfraid_19 rfl (lv_at hl 2 rfl) ?_
        obtain ⟨z3, hz3, h⟩ := jb h
        refine jki (jrV (As := [.int z1.2]) (rest := []) ⟨hx, hb, hml, hown, hts⟩ (c_X4_lives l D cyI cyZ cyT (fun k => qa (22 + k))  z1.2 (X.1 3) z3 hz3) (cwV 1 hts gX7_leastAfraid_X4_lives rfl rfl rfl (by decide +kernel) ⟨Nat.le_of_ble_eq_true rfl, Nat.le_of_ble_eq_true rfl⟩) hK (hP.sub (ws' := wT cyI (fun k => qa (22 + k)) (X.1 3)) [22, 23] rfl) rfl 4 0 rfl rfl rfl hl.1 (Nat.le_of_ble_eq_true rfl) dX7_leastAfraid_20 ⟨Nat.le_of_ble_eq_true rfl, Nat.le_of_ble_eq_true rfl⟩) ?_
        clear hz3
        obtain ⟨z4, hz4, h⟩ := jb h
        have hk4 : ∀ (ls : Array Slot), lv_has ls 3 [(0, .ref (qa 0)), (1, .int z4), (2, .int z1.2)] → W p l e rm_X7_leastAfraid s m args below meth c H [] 0 0 (MQ below (jSi o) args s 0 0 (fun _ => False)) (F0 m 53 ls []) := by
          intro ls hl
          refine lv_iinc (v := z1.2 + (1 : Int32)) (lv' := [(2, .int (z1.2 + (1 : Int32))), (0, .ref (qa 0)), (1, .int z4)]) hx hb dX7_leastAfraid_53 hl (k := 2) rfl rfl (by decide) rfl (fun ls hl => ?_)
          refine lv_goto (tgt := 4) hx hb dX7_leastAfraid_56 (by decide) ?_
          exact hin _ (Option.some.inj h).symm ls (lv_sub hl [1, 2, 0] rfl)
        clear h
        have h := hz4
        clear hz4
        refine lv_if_eq (tgt := 53) hx hb dX7_leastAfraid_23 (by decide) (fun c5 => ?_) (fun c5 => ?_)
        · have h := jt c5 h
          obtain rfl := Option.some.inj h
          exact hk4 ls (lv_sub hl [0, 1, 2] rfl)
        · have h := jf c5 h
          refine lv_iload_n hx hb dX7_leastAfraid_26 rfl (lv_at hl 1 rfl) ?_
          refine lv_iconst (v := (-1 : Int32)) hx hb dX7_leastAfraid_27 (by decide) ?_
          refine lv_icmp_eq (tgt := 51) hx hb dX7_leastAfraid_28 (by decide) (fun c6 => ?_) (fun c6 => ?_)
          · have h := jt c6 h
            refine lv_iload_n hx hb dX7_leastAfraid_51 rfl (lv_at hl 2 rfl) ?_
            refine lv_istore_n (lv' := [(1, .int z1.2), (0, .ref (qa 0)), (2, .int z1.2)]) hx hb dX7_leastAfraid_52 rfl hl (by decide) rfl (fun ls hl => ?_)
            obtain rfl := Option.some.inj h
            exact hk4 ls (lv_sub hl [1, 0, 2] rfl)
          · have h := jf c6 h
            refine lv_aload_n hx hb dX7_leastAfraid_31 rfl (lv_at hl 0 rfl) ?_
            refine va_get (D := D) (ci := 7) (v := .ref (qa 4)) (C := RX7) (T := TX7) (N := 10) hx hb hts in_X7_leastAfraid_X7 hown hK.1 hP 0 rfl rfl 1 (by decide) (hts _ kw_X7_leastAfraid_1) (fun _ h9 => h9) rfl dX7_leastAfraid_32 ?_
            refine lv_iload_n hx hb dX7_leastAfraid_35 rfl (lv_at hl 2 rfl) ?_
            obtain ⟨z7, hz7, h⟩ := jb h
            refine jkl (jrV (As := [.int z1.2]) (rest := []) ⟨hx, hb, hml, hown, hts⟩ (c_X0_dreadAbove l D cyI cyZ cyT (fun k => qa (4 + k))  N z1.2 (X.1 1) z7 hz7) (cwV 1 hts gX7_leastAfraid_X0_dreadAbove rfl rfl rfl (by decide +kernel) ⟨Nat.le_of_ble_eq_true rfl, Nat.le_of_ble_eq_true rfl⟩) hK (hP.sub (ws' := wH cyI (fun k => qa (4 + k)) (X.1 1)) [4, 5, 6, 7, 8, 9, 10, 11, 12] rfl) rfl 0 0 rfl rfl rfl hl.1 (Nat.le_of_ble_eq_true rfl) dX7_leastAfraid_36 ⟨Nat.le_of_ble_eq_true rfl, Nat.le_of_ble_eq_true rfl⟩) ?_
            clear hz7
            refine lv_aload_n hx hb dX7_leastAfraid_39 rfl (lv_at hl 0 rfl) ?_
            refine va_get (D := D) (ci := 7) (v := .ref (qa 4)) (C := RX7) (T := TX7) (N := 10) hx hb hts in_X7_leastAfraid_X7 hown hK.1 hP 0 rfl rfl 1 (by decide) (hts _ kw_X7_leastAfraid_1) (fun _ h9 => h9) rfl dX7_leastAfraid_40 ?_
            refine lv_iload_n hx hb dX7_leastAfraid_43 rfl (lv_at hl 1 rfl) ?_
            obtain ⟨z8, hz8, h⟩ := jb h
            refine jkl (jrV (As := [.int z1.1]) (rest := [.long z7]) ⟨hx, hb, hml, hown, hts⟩ (c_X0_dreadAbove l D cyI cyZ cyT (fun k => qa (4 + k))  N z1.1 (X.1 1) z8 hz8) (cwV 1 hts gX7_leastAfraid_X0_dreadAbove rfl rfl rfl (by decide +kernel) ⟨Nat.le_of_ble_eq_true rfl, Nat.le_of_ble_eq_true rfl⟩) hK (hP.sub (ws' := wH cyI (fun k => qa (4 + k)) (X.1 1)) [4, 5, 6, 7, 8, 9, 10, 11, 12] rfl) rfl 0 0 rfl rfl rfl hl.1 (Nat.le_of_ble_eq_true rfl) dX7_leastAfraid_44 ⟨Nat.le_of_ble_eq_true rfl, Nat.le_of_ble_eq_true rfl⟩) ?_
            clear hz8
            refine W.lcmp hx hb dX7_leastAfraid_47 ?_
            refine lv_if_ge (tgt := 53) hx hb dX7_leastAfraid_48 (by decide) (fun c9 => ?_) (fun c9 => ?_)
            · have h := jt ((lg_cmp_ge _ _).mp c9) h
              obtain rfl := Option.some.inj h
              exact hk4 ls (lv_sub hl [0, 1, 2] rfl)
            · have h := jf (fun e => c9 ((lg_cmp_ge _ _).mpr e)) h
              refine lv_iload_n hx hb dX7_leastAfraid_51 rfl (lv_at hl 2 rfl) ?_
              refine lv_istore_n (lv' := [(1, .int z1.2), (0, .ref (qa 0)), (2, .int z1.2)]) hx hb dX7_leastAfraid_52 rfl hl (by decide) rfl (fun ls hl => ?_)
              obtain rfl := Option.some.inj h
              exact hk4 ls (lv_sub hl [1, 0, 2] rfl)
    exact hlp1 _ _ hz1 ls (lv_sub hl [2, 1, 0] rfl)
  exact key s.heap hP rfl
